set_option maxHeartbeats 4000000 in
set_option maxRecDepth 100000 in
/-- the model: new -/
theorem m_init (l : Launch) (D : va_G) (k0 : Nat → ClassId)  (w0 : va_W) (sz : Nat) (q o : Nat) (hO : w0[q]? = some (o, .inr (3, [.null, .null, .null, .null, .null, .null, .int 0, .null, .null, .null]))) (hlen : w0.length = q + 1) : kx_v l yX3_init wsX3_init ({ frames := 1, cells := 9, slots := 8560, locals := 24 } : Room) D (tyL k0) w0 sz [.ref o] (fun (u : va_W) => ∃ am mv mo : Nat → Nat, am 0 = o ∧ atM u q k0 am mv (fun _ => 0) mo (fun _ => 0) (fun _ => nI 0) (fun _ => 0) 0 (fun _ => 0) (fun _ => 0) (fun _ => 0) ∧ (∀ j, j < 8 → mv j = 1 ∧ mo j = 1) ∧ u.length = q + 10 ∧ kx_fr w0 u (fun j => q ≤ j)) 9 8560 := by
  refine kx_of (Qf := fun A => va_Qv (fun (u : va_W) => ∃ am mv mo : Nat → Nat, am 0 = o ∧ atM u q k0 am mv (fun _ => 0) mo (fun _ => 0) (fun _ => nI 0) (fun _ => 0) 0 (fun _ => 0) (fun _ => 0) (fun _ => 0) ∧ (∀ j, j < 8 → mv j = 1 ∧ mo j = 1) ∧ u.length = q + 10 ∧ kx_fr w0 u (fun j => q ≤ j)) (kx_B D (tyL k0) A) A) (cc := cX3_init) (maxL := 2) (ret := none) (by decide +kernel) (Nat.le_of_ble_eq_true rfl) ?_
  intro p e s m below meth c A ls hx hb hml hown hts hr hlocks hnm hN hK hP hD hS hA hl
  have hown : s.vm.findClass RX3 = some m.cls := hown
  have hl : lv_has ls 2 [(0, .ref o)] := hl
  have hfr : kx_fr w0 w0 (fun j => q ≤ j) := kx_fr_rf _ _
  refine lv_aload_n hx hb dX3_init_0 rfl (lv_at hl 0 rfl) ?_
  refine W.objInit hx hb hown (hts _ tw_249) (hts _ tw_31) (hts _ tw_obj) rfl (by rw [hml]; exact hl.1) rfl dX3_init_1 (Nat.le_of_ble_eq_true rfl) (Nat.le_of_ble_eq_true rfl) ?_
  refine W.eq (g2 := F0 m 4 ls []) rfl ?_
  refine lv_aload_n hx hb dX3_init_4 rfl (lv_at hl 0 rfl) ?_
  refine lv_bipush (v := nI 8) hx hb dX3_init_5 (by decide +kernel) ?_
  refine kx_newi hx hb (hts _ tw_51) hK hP hD hS hA (n := 8) (by decide) (by show 0 + 1 ≤ (9 : Nat); omega) (by show 0 + 8 ≤ (8560 : Nat); omega) dX3_init_7 (fun qa_1 H hP hD hS => ?_)
  obtain ⟨w_2, ew_2⟩ : ∃ w, w = w0 ++ [(qa_1, .inl (k0 0, 8, .inl (fun y9 => nI ((fun _ => 0) y9))))] := ⟨_, rfl⟩
  have hP : va_P D vwCl w_2 H := by rw [ew_2]; exact hP
  have hD : va_D A w_2 := by rw [ew_2]; exact hD
  have f_3 : w_2[q]? = some (o, .inr (3, [.null, .null, .null, .null, .null, .null, .int 0, .null, .null, .null])) := by rw [ew_2]; exact kx_push_old hO
  have f_4 : w_2[q + 1]? = some (qa_1, .inl (k0 0, 8, .inl (fun y9 => nI ((fun _ => 0) y9)))) := by rw [ew_2]; exact kx_push_new hlen
  have hfr : kx_fr w0 w_2 (fun j => q ≤ j) := kx_fr_tr hfr (by rw [ew_2]; exact kx_fr_push (by rw [hlen]; omega))
  have hlen : w_2.length = q + 2 := by rw [ew_2]; exact kx_push_len hlen
  refine va_putF (D := D) (ci := 3) (v := .ref qa_1) (ty := .array .int) (C := RX3) (T := TX3) (N := 10) hx hb hts inX3 tyX3 tyX3_ok nmX3 hown hK hP hD hS q f_3 rfl 0 (by decide) (hts _ tw_250) (fun _ h9 => h9) rfl hnm rfl (by decide +kernel) rfl rfl (Nat.le_of_ble_eq_true rfl) dX3_init_9 (fun H locs hP hD hS => ?_)
  obtain ⟨w_5, ew_5⟩ : ∃ w, w = w_2.set q (o, .inr (3, [.ref qa_1, .null, .null, .null, .null, .null, .int 0, .null, .null, .null])) := ⟨_, rfl⟩
  have hP : va_P D vwCl w_5 H := by rw [ew_5]; exact hP
  have hD : va_D A w_5 := by rw [ew_5]; exact hD
  have f_6 : w_5[q]? = some (o, .inr (3, [.ref qa_1, .null, .null, .null, .null, .null, .int 0, .null, .null, .null])) := by rw [ew_5]; exact kx_set_self f_3
  have f_7 : w_5[q + 1]? = some (qa_1, .inl (k0 0, 8, .inl (fun y9 => nI ((fun _ => 0) y9)))) := by rw [ew_5]; exact kx_set_ne f_4 (by omega)
  have hfr : kx_fr w0 w_5 (fun j => q ≤ j) := kx_fr_tr hfr (by rw [ew_5]; exact kx_fr_set (by omega))
  have hlen : w_5.length = q + 2 := by rw [ew_5]; exact kx_set_len hlen
  refine lv_aload_n hx hb dX3_init_12 rfl (lv_at hl 0 rfl) ?_
  refine lv_bipush (v := nI 8) hx hb dX3_init_13 (by decide +kernel) ?_
  refine kx_newi hx hb (hts _ tw_51) hK hP hD hS hA (n := 8) (by decide) (by show (0 + 1) + 1 ≤ (9 : Nat); omega) (by show (0 + 8) + 8 ≤ (8560 : Nat); omega) dX3_init_15 (fun qa_8 H hP hD hS => ?_)
  obtain ⟨w_9, ew_9⟩ : ∃ w, w = w_5 ++ [(qa_8, .inl (k0 0, 8, .inl (fun y9 => nI ((fun _ => 0) y9))))] := ⟨_, rfl⟩
  have hP : va_P D vwCl w_9 H := by rw [ew_9]; exact hP
  have hD : va_D A w_9 := by rw [ew_9]; exact hD
  have f_10 : w_9[q]? = some (o, .inr (3, [.ref qa_1, .null, .null, .null, .null, .null, .int 0, .null, .null, .null])) := by rw [ew_9]; exact kx_push_old f_6
  have f_11 : w_9[q + 1]? = some (qa_1, .inl (k0 0, 8, .inl (fun y9 => nI ((fun _ => 0) y9)))) := by rw [ew_9]; exact kx_push_old f_7
  have f_12 : w_9[q + 2]? = some (qa_8, .inl (k0 0, 8, .inl (fun y9 => nI ((fun _ => 0) y9)))) := by rw [ew_9]; exact kx_push_new hlen
  have hfr : kx_fr w0 w_9 (fun j => q ≤ j) := kx_fr_tr hfr (by rw [ew_9]; exact kx_fr_push (by rw [hlen]; omega))
  have hlen : w_9.length = q + 3 := by rw [ew_9]; exact kx_push_len hlen
  refine va_putF (D := D) (ci := 3) (v := .ref qa_8) (ty := .array .int) (C := RX3) (T := TX3) (N := 10) hx hb hts inX3 tyX3 tyX3_ok nmX3 hown hK hP hD hS q f_10 rfl 1 (by decide) (hts _ tw_251) (fun _ h9 => h9) rfl hnm rfl (by decide +kernel) rfl rfl (Nat.le_of_ble_eq_true rfl) dX3_init_17 (fun H locs hP hD hS => ?_)
  obtain ⟨w_13, ew_13⟩ : ∃ w, w = w_9.set q (o, .inr (3, [.ref qa_1, .ref qa_8, .null, .null, .null, .null, .int 0, .null, .null, .null])) := ⟨_, rfl⟩
  have hP : va_P D vwCl w_13 H := by rw [ew_13]; exact hP
  have hD : va_D A w_13 := by rw [ew_13]; exact hD
  have f_14 : w_13[q]? = some (o, .inr (3, [.ref qa_1, .ref qa_8, .null, .null, .null, .null, .int 0, .null, .null, .null])) := by rw [ew_13]; exact kx_set_self f_10
  have f_15 : w_13[q + 1]? = some (qa_1, .inl (k0 0, 8, .inl (fun y9 => nI ((fun _ => 0) y9)))) := by rw [ew_13]; exact kx_set_ne f_11 (by omega)
  have f_16 : w_13[q + 2]? = some (qa_8, .inl (k0 0, 8, .inl (fun y9 => nI ((fun _ => 0) y9)))) := by rw [ew_13]; exact kx_set_ne f_12 (by omega)
  have hfr : kx_fr w0 w_13 (fun j => q ≤ j) := kx_fr_tr hfr (by rw [ew_13]; exact kx_fr_set (by omega))
  have hlen : w_13.length = q + 3 := by rw [ew_13]; exact kx_set_len hlen
  refine lv_aload_n hx hb dX3_init_20 rfl (lv_at hl 0 rfl) ?_
  refine lv_bipush (v := nI 8) hx hb dX3_init_21 (by decide +kernel) ?_
  refine kx_newz hx hb (hts _ tw_281) hK hP hD hS hA (n := 8) (by decide) (by show ((0 + 1) + 1) + 1 ≤ (9 : Nat); omega) (by show ((0 + 8) + 8) + 8 ≤ (8560 : Nat); omega) dX3_init_23 (fun qa_17 H hP hD hS => ?_)
  obtain ⟨w_18, ew_18⟩ : ∃ w, w = w_13 ++ [(qa_17, .inl (k0 2, 8, .inl (fun y9 => nI ((fun _ => 0) y9))))] := ⟨_, rfl⟩
  have hP : va_P D vwCl w_18 H := by rw [ew_18]; exact hP
  have hD : va_D A w_18 := by rw [ew_18]; exact hD
  have f_19 : w_18[q]? = some (o, .inr (3, [.ref qa_1, .ref qa_8, .null, .null, .null, .null, .int 0, .null, .null, .null])) := by rw [ew_18]; exact kx_push_old f_14
  have f_20 : w_18[q + 1]? = some (qa_1, .inl (k0 0, 8, .inl (fun y9 => nI ((fun _ => 0) y9)))) := by rw [ew_18]; exact kx_push_old f_15
  have f_21 : w_18[q + 2]? = some (qa_8, .inl (k0 0, 8, .inl (fun y9 => nI ((fun _ => 0) y9)))) := by rw [ew_18]; exact kx_push_old f_16
  have f_22 : w_18[q + 3]? = some (qa_17, .inl (k0 2, 8, .inl (fun y9 => nI ((fun _ => 0) y9)))) := by rw [ew_18]; exact kx_push_new hlen
  have hfr : kx_fr w0 w_18 (fun j => q ≤ j) := kx_fr_tr hfr (by rw [ew_18]; exact kx_fr_push (by rw [hlen]; omega))
  have hlen : w_18.length = q + 4 := by rw [ew_18]; exact kx_push_len hlen
  refine va_putF (D := D) (ci := 3) (v := .ref qa_17) (ty := .array .boolean) (C := RX3) (T := TX3) (N := 10) hx hb hts inX3 tyX3 tyX3_ok nmX3 hown hK hP hD hS q f_19 rfl 2 (by decide) (hts _ tw_252) (fun _ h9 => h9) rfl hnm rfl (by decide +kernel) rfl rfl (Nat.le_of_ble_eq_true rfl) dX3_init_25 (fun H locs hP hD hS => ?_)
  obtain ⟨w_23, ew_23⟩ : ∃ w, w = w_18.set q (o, .inr (3, [.ref qa_1, .ref qa_8, .ref qa_17, .null, .null, .null, .int 0, .null, .null, .null])) := ⟨_, rfl⟩
  have hP : va_P D vwCl w_23 H := by rw [ew_23]; exact hP
  have hD : va_D A w_23 := by rw [ew_23]; exact hD
  have f_24 : w_23[q]? = some (o, .inr (3, [.ref qa_1, .ref qa_8, .ref qa_17, .null, .null, .null, .int 0, .null, .null, .null])) := by rw [ew_23]; exact kx_set_self f_19
  have f_25 : w_23[q + 1]? = some (qa_1, .inl (k0 0, 8, .inl (fun y9 => nI ((fun _ => 0) y9)))) := by rw [ew_23]; exact kx_set_ne f_20 (by omega)
  have f_26 : w_23[q + 2]? = some (qa_8, .inl (k0 0, 8, .inl (fun y9 => nI ((fun _ => 0) y9)))) := by rw [ew_23]; exact kx_set_ne f_21 (by omega)
  have f_27 : w_23[q + 3]? = some (qa_17, .inl (k0 2, 8, .inl (fun y9 => nI ((fun _ => 0) y9)))) := by rw [ew_23]; exact kx_set_ne f_22 (by omega)
  have hfr : kx_fr w0 w_23 (fun j => q ≤ j) := kx_fr_tr hfr (by rw [ew_23]; exact kx_fr_set (by omega))
  have hlen : w_23.length = q + 4 := by rw [ew_23]; exact kx_set_len hlen
  refine lv_aload_n hx hb dX3_init_28 rfl (lv_at hl 0 rfl) ?_
  refine lv_sipush (v := nI 192) hx hb dX3_init_29 (by decide +kernel) ?_
  refine kx_newi hx hb (hts _ tw_51) hK hP hD hS hA (n := 192) (by decide) (by show (((0 + 1) + 1) + 1) + 1 ≤ (9 : Nat); omega) (by show (((0 + 8) + 8) + 8) + 192 ≤ (8560 : Nat); omega) dX3_init_32 (fun qa_28 H hP hD hS => ?_)
  obtain ⟨w_29, ew_29⟩ : ∃ w, w = w_23 ++ [(qa_28, .inl (k0 0, 192, .inl (fun y9 => nI ((fun _ => 0) y9))))] := ⟨_, rfl⟩
  have hP : va_P D vwCl w_29 H := by rw [ew_29]; exact hP
  have hD : va_D A w_29 := by rw [ew_29]; exact hD
  have f_30 : w_29[q]? = some (o, .inr (3, [.ref qa_1, .ref qa_8, .ref qa_17, .null, .null, .null, .int 0, .null, .null, .null])) := by rw [ew_29]; exact kx_push_old f_24
  have f_31 : w_29[q + 1]? = some (qa_1, .inl (k0 0, 8, .inl (fun y9 => nI ((fun _ => 0) y9)))) := by rw [ew_29]; exact kx_push_old f_25
  have f_32 : w_29[q + 2]? = some (qa_8, .inl (k0 0, 8, .inl (fun y9 => nI ((fun _ => 0) y9)))) := by rw [ew_29]; exact kx_push_old f_26
  have f_33 : w_29[q + 3]? = some (qa_17, .inl (k0 2, 8, .inl (fun y9 => nI ((fun _ => 0) y9)))) := by rw [ew_29]; exact kx_push_old f_27
  have f_34 : w_29[q + 4]? = some (qa_28, .inl (k0 0, 192, .inl (fun y9 => nI ((fun _ => 0) y9)))) := by rw [ew_29]; exact kx_push_new hlen
  have hfr : kx_fr w0 w_29 (fun j => q ≤ j) := kx_fr_tr hfr (by rw [ew_29]; exact kx_fr_push (by rw [hlen]; omega))
  have hlen : w_29.length = q + 5 := by rw [ew_29]; exact kx_push_len hlen
  refine va_putF (D := D) (ci := 3) (v := .ref qa_28) (ty := .array .int) (C := RX3) (T := TX3) (N := 10) hx hb hts inX3 tyX3 tyX3_ok nmX3 hown hK hP hD hS q f_30 rfl 3 (by decide) (hts _ tw_253) (fun _ h9 => h9) rfl hnm rfl (by decide +kernel) rfl rfl (Nat.le_of_ble_eq_true rfl) dX3_init_34 (fun H locs hP hD hS => ?_)
  obtain ⟨w_35, ew_35⟩ : ∃ w, w = w_29.set q (o, .inr (3, [.ref qa_1, .ref qa_8, .ref qa_17, .ref qa_28, .null, .null, .int 0, .null, .null, .null])) := ⟨_, rfl⟩
  have hP : va_P D vwCl w_35 H := by rw [ew_35]; exact hP
  have hD : va_D A w_35 := by rw [ew_35]; exact hD
  have f_36 : w_35[q]? = some (o, .inr (3, [.ref qa_1, .ref qa_8, .ref qa_17, .ref qa_28, .null, .null, .int 0, .null, .null, .null])) := by rw [ew_35]; exact kx_set_self f_30
  have f_37 : w_35[q + 1]? = some (qa_1, .inl (k0 0, 8, .inl (fun y9 => nI ((fun _ => 0) y9)))) := by rw [ew_35]; exact kx_set_ne f_31 (by omega)
  have f_38 : w_35[q + 2]? = some (qa_8, .inl (k0 0, 8, .inl (fun y9 => nI ((fun _ => 0) y9)))) := by rw [ew_35]; exact kx_set_ne f_32 (by omega)
  have f_39 : w_35[q + 3]? = some (qa_17, .inl (k0 2, 8, .inl (fun y9 => nI ((fun _ => 0) y9)))) := by rw [ew_35]; exact kx_set_ne f_33 (by omega)
  have f_40 : w_35[q + 4]? = some (qa_28, .inl (k0 0, 192, .inl (fun y9 => nI ((fun _ => 0) y9)))) := by rw [ew_35]; exact kx_set_ne f_34 (by omega)
  have hfr : kx_fr w0 w_35 (fun j => q ≤ j) := kx_fr_tr hfr (by rw [ew_35]; exact kx_fr_set (by omega))
  have hlen : w_35.length = q + 5 := by rw [ew_35]; exact kx_set_len hlen
  refine lv_aload_n hx hb dX3_init_37 rfl (lv_at hl 0 rfl) ?_
  refine lv_bipush (v := nI 96) hx hb dX3_init_38 (by decide +kernel) ?_
  refine kx_newi hx hb (hts _ tw_51) hK hP hD hS hA (n := 96) (by decide) (by show ((((0 + 1) + 1) + 1) + 1) + 1 ≤ (9 : Nat); omega) (by show ((((0 + 8) + 8) + 8) + 192) + 96 ≤ (8560 : Nat); omega) dX3_init_40 (fun qa_41 H hP hD hS => ?_)
  obtain ⟨w_42, ew_42⟩ : ∃ w, w = w_35 ++ [(qa_41, .inl (k0 0, 96, .inl (fun _ => nI 0)))] := ⟨_, rfl⟩
  have hP : va_P D vwCl w_42 H := by rw [ew_42]; exact hP
  have hD : va_D A w_42 := by rw [ew_42]; exact hD
  have f_43 : w_42[q]? = some (o, .inr (3, [.ref qa_1, .ref qa_8, .ref qa_17, .ref qa_28, .null, .null, .int 0, .null, .null, .null])) := by rw [ew_42]; exact kx_push_old f_36
  have f_44 : w_42[q + 1]? = some (qa_1, .inl (k0 0, 8, .inl (fun y9 => nI ((fun _ => 0) y9)))) := by rw [ew_42]; exact kx_push_old f_37
  have f_45 : w_42[q + 2]? = some (qa_8, .inl (k0 0, 8, .inl (fun y9 => nI ((fun _ => 0) y9)))) := by rw [ew_42]; exact kx_push_old f_38
  have f_46 : w_42[q + 3]? = some (qa_17, .inl (k0 2, 8, .inl (fun y9 => nI ((fun _ => 0) y9)))) := by rw [ew_42]; exact kx_push_old f_39
  have f_47 : w_42[q + 4]? = some (qa_28, .inl (k0 0, 192, .inl (fun y9 => nI ((fun _ => 0) y9)))) := by rw [ew_42]; exact kx_push_old f_40
  have f_48 : w_42[q + 5]? = some (qa_41, .inl (k0 0, 96, .inl (fun _ => nI 0))) := by rw [ew_42]; exact kx_push_new hlen
  have hfr : kx_fr w0 w_42 (fun j => q ≤ j) := kx_fr_tr hfr (by rw [ew_42]; exact kx_fr_push (by rw [hlen]; omega))
  have hlen : w_42.length = q + 6 := by rw [ew_42]; exact kx_push_len hlen
  refine va_putF (D := D) (ci := 3) (v := .ref qa_41) (ty := .array .int) (C := RX3) (T := TX3) (N := 10) hx hb hts inX3 tyX3 tyX3_ok nmX3 hown hK hP hD hS q f_43 rfl 4 (by decide) (hts _ tw_254) (fun _ h9 => h9) rfl hnm rfl (by decide +kernel) rfl rfl (Nat.le_of_ble_eq_true rfl) dX3_init_42 (fun H locs hP hD hS => ?_)
  obtain ⟨w_49, ew_49⟩ : ∃ w, w = w_42.set q (o, .inr (3, [.ref qa_1, .ref qa_8, .ref qa_17, .ref qa_28, .ref qa_41, .null, .int 0, .null, .null, .null])) := ⟨_, rfl⟩
  have hP : va_P D vwCl w_49 H := by rw [ew_49]; exact hP
  have hD : va_D A w_49 := by rw [ew_49]; exact hD
  have f_50 : w_49[q]? = some (o, .inr (3, [.ref qa_1, .ref qa_8, .ref qa_17, .ref qa_28, .ref qa_41, .null, .int 0, .null, .null, .null])) := by rw [ew_49]; exact kx_set_self f_43
  have f_51 : w_49[q + 1]? = some (qa_1, .inl (k0 0, 8, .inl (fun y9 => nI ((fun _ => 0) y9)))) := by rw [ew_49]; exact kx_set_ne f_44 (by omega)
  have f_52 : w_49[q + 2]? = some (qa_8, .inl (k0 0, 8, .inl (fun y9 => nI ((fun _ => 0) y9)))) := by rw [ew_49]; exact kx_set_ne f_45 (by omega)
  have f_53 : w_49[q + 3]? = some (qa_17, .inl (k0 2, 8, .inl (fun y9 => nI ((fun _ => 0) y9)))) := by rw [ew_49]; exact kx_set_ne f_46 (by omega)
  have f_54 : w_49[q + 4]? = some (qa_28, .inl (k0 0, 192, .inl (fun y9 => nI ((fun _ => 0) y9)))) := by rw [ew_49]; exact kx_set_ne f_47 (by omega)
  have f_55 : w_49[q + 5]? = some (qa_41, .inl (k0 0, 96, .inl (fun _ => nI 0))) := by rw [ew_49]; exact kx_set_ne f_48 (by omega)
  have hfr : kx_fr w0 w_49 (fun j => q ≤ j) := kx_fr_tr hfr (by rw [ew_49]; exact kx_fr_set (by omega))
  have hlen : w_49.length = q + 6 := by rw [ew_49]; exact kx_set_len hlen
  refine lv_aload_n hx hb dX3_init_45 rfl (lv_at hl 0 rfl) ?_
  refine lv_bipush (v := nI 24) hx hb dX3_init_46 (by decide +kernel) ?_
  refine kx_newi hx hb (hts _ tw_51) hK hP hD hS hA (n := 24) (by decide) (by show (((((0 + 1) + 1) + 1) + 1) + 1) + 1 ≤ (9 : Nat); omega) (by show (((((0 + 8) + 8) + 8) + 192) + 96) + 24 ≤ (8560 : Nat); omega) dX3_init_48 (fun qa_56 H hP hD hS => ?_)
  obtain ⟨w_57, ew_57⟩ : ∃ w, w = w_49 ++ [(qa_56, .inl (k0 0, 24, .inl (fun y9 => nI ((fun _ => 0) y9))))] := ⟨_, rfl⟩
  have hP : va_P D vwCl w_57 H := by rw [ew_57]; exact hP
  have hD : va_D A w_57 := by rw [ew_57]; exact hD
  have f_58 : w_57[q]? = some (o, .inr (3, [.ref qa_1, .ref qa_8, .ref qa_17, .ref qa_28, .ref qa_41, .null, .int 0, .null, .null, .null])) := by rw [ew_57]; exact kx_push_old f_50
  have f_59 : w_57[q + 1]? = some (qa_1, .inl (k0 0, 8, .inl (fun y9 => nI ((fun _ => 0) y9)))) := by rw [ew_57]; exact kx_push_old f_51
  have f_60 : w_57[q + 2]? = some (qa_8, .inl (k0 0, 8, .inl (fun y9 => nI ((fun _ => 0) y9)))) := by rw [ew_57]; exact kx_push_old f_52
  have f_61 : w_57[q + 3]? = some (qa_17, .inl (k0 2, 8, .inl (fun y9 => nI ((fun _ => 0) y9)))) := by rw [ew_57]; exact kx_push_old f_53
  have f_62 : w_57[q + 4]? = some (qa_28, .inl (k0 0, 192, .inl (fun y9 => nI ((fun _ => 0) y9)))) := by rw [ew_57]; exact kx_push_old f_54
  have f_63 : w_57[q + 5]? = some (qa_41, .inl (k0 0, 96, .inl (fun _ => nI 0))) := by rw [ew_57]; exact kx_push_old f_55
  have f_64 : w_57[q + 6]? = some (qa_56, .inl (k0 0, 24, .inl (fun y9 => nI ((fun _ => 0) y9)))) := by rw [ew_57]; exact kx_push_new hlen
  have hfr : kx_fr w0 w_57 (fun j => q ≤ j) := kx_fr_tr hfr (by rw [ew_57]; exact kx_fr_push (by rw [hlen]; omega))
  have hlen : w_57.length = q + 7 := by rw [ew_57]; exact kx_push_len hlen
  refine va_putF (D := D) (ci := 3) (v := .ref qa_56) (ty := .array .int) (C := RX3) (T := TX3) (N := 10) hx hb hts inX3 tyX3 tyX3_ok nmX3 hown hK hP hD hS q f_58 rfl 5 (by decide) (hts _ tw_255) (fun _ h9 => h9) rfl hnm rfl (by decide +kernel) rfl rfl (Nat.le_of_ble_eq_true rfl) dX3_init_50 (fun H locs hP hD hS => ?_)
  obtain ⟨w_65, ew_65⟩ : ∃ w, w = w_57.set q (o, .inr (3, [.ref qa_1, .ref qa_8, .ref qa_17, .ref qa_28, .ref qa_41, .ref qa_56, .int 0, .null, .null, .null])) := ⟨_, rfl⟩
  have hP : va_P D vwCl w_65 H := by rw [ew_65]; exact hP
  have hD : va_D A w_65 := by rw [ew_65]; exact hD
  have f_66 : w_65[q]? = some (o, .inr (3, [.ref qa_1, .ref qa_8, .ref qa_17, .ref qa_28, .ref qa_41, .ref qa_56, .int 0, .null, .null, .null])) := by rw [ew_65]; exact kx_set_self f_58
  have f_67 : w_65[q + 1]? = some (qa_1, .inl (k0 0, 8, .inl (fun y9 => nI ((fun _ => 0) y9)))) := by rw [ew_65]; exact kx_set_ne f_59 (by omega)
  have f_68 : w_65[q + 2]? = some (qa_8, .inl (k0 0, 8, .inl (fun y9 => nI ((fun _ => 0) y9)))) := by rw [ew_65]; exact kx_set_ne f_60 (by omega)
  have f_69 : w_65[q + 3]? = some (qa_17, .inl (k0 2, 8, .inl (fun y9 => nI ((fun _ => 0) y9)))) := by rw [ew_65]; exact kx_set_ne f_61 (by omega)
  have f_70 : w_65[q + 4]? = some (qa_28, .inl (k0 0, 192, .inl (fun y9 => nI ((fun _ => 0) y9)))) := by rw [ew_65]; exact kx_set_ne f_62 (by omega)
  have f_71 : w_65[q + 5]? = some (qa_41, .inl (k0 0, 96, .inl (fun _ => nI 0))) := by rw [ew_65]; exact kx_set_ne f_63 (by omega)
  have f_72 : w_65[q + 6]? = some (qa_56, .inl (k0 0, 24, .inl (fun y9 => nI ((fun _ => 0) y9)))) := by rw [ew_65]; exact kx_set_ne f_64 (by omega)
  have hfr : kx_fr w0 w_65 (fun j => q ≤ j) := kx_fr_tr hfr (by rw [ew_65]; exact kx_fr_set (by omega))
  have hlen : w_65.length = q + 7 := by rw [ew_65]; exact kx_set_len hlen
  refine lv_aload_n hx hb dX3_init_53 rfl (lv_at hl 0 rfl) ?_
  refine lv_bipush (v := nI 32) hx hb dX3_init_54 (by decide +kernel) ?_
  refine kx_newi hx hb (hts _ tw_51) hK hP hD hS hA (n := 32) (by decide) (by show ((((((0 + 1) + 1) + 1) + 1) + 1) + 1) + 1 ≤ (9 : Nat); omega) (by show ((((((0 + 8) + 8) + 8) + 192) + 96) + 24) + 32 ≤ (8560 : Nat); omega) dX3_init_56 (fun qa_73 H hP hD hS => ?_)
  obtain ⟨w_74, ew_74⟩ : ∃ w, w = w_65 ++ [(qa_73, .inl (k0 0, 32, .inl (fun y9 => nI ((fun _ => 0) y9))))] := ⟨_, rfl⟩
  have hP : va_P D vwCl w_74 H := by rw [ew_74]; exact hP
  have hD : va_D A w_74 := by rw [ew_74]; exact hD
  have f_75 : w_74[q]? = some (o, .inr (3, [.ref qa_1, .ref qa_8, .ref qa_17, .ref qa_28, .ref qa_41, .ref qa_56, .int 0, .null, .null, .null])) := by rw [ew_74]; exact kx_push_old f_66
  have f_76 : w_74[q + 1]? = some (qa_1, .inl (k0 0, 8, .inl (fun y9 => nI ((fun _ => 0) y9)))) := by rw [ew_74]; exact kx_push_old f_67
  have f_77 : w_74[q + 2]? = some (qa_8, .inl (k0 0, 8, .inl (fun y9 => nI ((fun _ => 0) y9)))) := by rw [ew_74]; exact kx_push_old f_68
  have f_78 : w_74[q + 3]? = some (qa_17, .inl (k0 2, 8, .inl (fun y9 => nI ((fun _ => 0) y9)))) := by rw [ew_74]; exact kx_push_old f_69
  have f_79 : w_74[q + 4]? = some (qa_28, .inl (k0 0, 192, .inl (fun y9 => nI ((fun _ => 0) y9)))) := by rw [ew_74]; exact kx_push_old f_70
  have f_80 : w_74[q + 5]? = some (qa_41, .inl (k0 0, 96, .inl (fun _ => nI 0))) := by rw [ew_74]; exact kx_push_old f_71
  have f_81 : w_74[q + 6]? = some (qa_56, .inl (k0 0, 24, .inl (fun y9 => nI ((fun _ => 0) y9)))) := by rw [ew_74]; exact kx_push_old f_72
  have f_82 : w_74[q + 7]? = some (qa_73, .inl (k0 0, 32, .inl (fun y9 => nI ((fun _ => 0) y9)))) := by rw [ew_74]; exact kx_push_new hlen
  have hfr : kx_fr w0 w_74 (fun j => q ≤ j) := kx_fr_tr hfr (by rw [ew_74]; exact kx_fr_push (by rw [hlen]; omega))
  have hlen : w_74.length = q + 8 := by rw [ew_74]; exact kx_push_len hlen
  refine va_putF (D := D) (ci := 3) (v := .ref qa_73) (ty := .array .int) (C := RX3) (T := TX3) (N := 10) hx hb hts inX3 tyX3 tyX3_ok nmX3 hown hK hP hD hS q f_75 rfl 7 (by decide) (hts _ tw_257) (fun _ h9 => h9) rfl hnm rfl (by decide +kernel) rfl rfl (Nat.le_of_ble_eq_true rfl) dX3_init_58 (fun H locs hP hD hS => ?_)
  obtain ⟨w_83, ew_83⟩ : ∃ w, w = w_74.set q (o, .inr (3, [.ref qa_1, .ref qa_8, .ref qa_17, .ref qa_28, .ref qa_41, .ref qa_56, .int 0, .ref qa_73, .null, .null])) := ⟨_, rfl⟩
  have hP : va_P D vwCl w_83 H := by rw [ew_83]; exact hP
  have hD : va_D A w_83 := by rw [ew_83]; exact hD
  have f_84 : w_83[q]? = some (o, .inr (3, [.ref qa_1, .ref qa_8, .ref qa_17, .ref qa_28, .ref qa_41, .ref qa_56, .int 0, .ref qa_73, .null, .null])) := by rw [ew_83]; exact kx_set_self f_75
  have f_85 : w_83[q + 1]? = some (qa_1, .inl (k0 0, 8, .inl (fun y9 => nI ((fun _ => 0) y9)))) := by rw [ew_83]; exact kx_set_ne f_76 (by omega)
  have f_86 : w_83[q + 2]? = some (qa_8, .inl (k0 0, 8, .inl (fun y9 => nI ((fun _ => 0) y9)))) := by rw [ew_83]; exact kx_set_ne f_77 (by omega)
  have f_87 : w_83[q + 3]? = some (qa_17, .inl (k0 2, 8, .inl (fun y9 => nI ((fun _ => 0) y9)))) := by rw [ew_83]; exact kx_set_ne f_78 (by omega)
  have f_88 : w_83[q + 4]? = some (qa_28, .inl (k0 0, 192, .inl (fun y9 => nI ((fun _ => 0) y9)))) := by rw [ew_83]; exact kx_set_ne f_79 (by omega)
  have f_89 : w_83[q + 5]? = some (qa_41, .inl (k0 0, 96, .inl (fun _ => nI 0))) := by rw [ew_83]; exact kx_set_ne f_80 (by omega)
  have f_90 : w_83[q + 6]? = some (qa_56, .inl (k0 0, 24, .inl (fun y9 => nI ((fun _ => 0) y9)))) := by rw [ew_83]; exact kx_set_ne f_81 (by omega)
  have f_91 : w_83[q + 7]? = some (qa_73, .inl (k0 0, 32, .inl (fun y9 => nI ((fun _ => 0) y9)))) := by rw [ew_83]; exact kx_set_ne f_82 (by omega)
  have hfr : kx_fr w0 w_83 (fun j => q ≤ j) := kx_fr_tr hfr (by rw [ew_83]; exact kx_fr_set (by omega))
  have hlen : w_83.length = q + 8 := by rw [ew_83]; exact kx_set_len hlen
  refine lv_aload_n hx hb dX3_init_61 rfl (lv_at hl 0 rfl) ?_
  refine lv_sipush (v := nI 4096) hx hb dX3_init_62 (by decide +kernel) ?_
  refine kx_newb hx hb (hts _ tw_282) hK hP hD hS hA (n := 4096) (by decide) (by show (((((((0 + 1) + 1) + 1) + 1) + 1) + 1) + 1) + 1 ≤ (9 : Nat); omega) (by show (((((((0 + 8) + 8) + 8) + 192) + 96) + 24) + 32) + 4096 ≤ (8560 : Nat); omega) dX3_init_65 (fun qa_92 H hP hD hS => ?_)
  obtain ⟨w_93, ew_93⟩ : ∃ w, w = w_83 ++ [(qa_92, .inl (k0 3, 4096, .inl (fun y9 => nI ((fun _ => 0) y9))))] := ⟨_, rfl⟩
  have hP : va_P D vwCl w_93 H := by rw [ew_93]; exact hP
  have hD : va_D A w_93 := by rw [ew_93]; exact hD
  have f_94 : w_93[q]? = some (o, .inr (3, [.ref qa_1, .ref qa_8, .ref qa_17, .ref qa_28, .ref qa_41, .ref qa_56, .int 0, .ref qa_73, .null, .null])) := by rw [ew_93]; exact kx_push_old f_84
  have f_95 : w_93[q + 1]? = some (qa_1, .inl (k0 0, 8, .inl (fun y9 => nI ((fun _ => 0) y9)))) := by rw [ew_93]; exact kx_push_old f_85
  have f_96 : w_93[q + 2]? = some (qa_8, .inl (k0 0, 8, .inl (fun y9 => nI ((fun _ => 0) y9)))) := by rw [ew_93]; exact kx_push_old f_86
  have f_97 : w_93[q + 3]? = some (qa_17, .inl (k0 2, 8, .inl (fun y9 => nI ((fun _ => 0) y9)))) := by rw [ew_93]; exact kx_push_old f_87
  have f_98 : w_93[q + 4]? = some (qa_28, .inl (k0 0, 192, .inl (fun y9 => nI ((fun _ => 0) y9)))) := by rw [ew_93]; exact kx_push_old f_88
  have f_99 : w_93[q + 5]? = some (qa_41, .inl (k0 0, 96, .inl (fun _ => nI 0))) := by rw [ew_93]; exact kx_push_old f_89
  have f_100 : w_93[q + 6]? = some (qa_56, .inl (k0 0, 24, .inl (fun y9 => nI ((fun _ => 0) y9)))) := by rw [ew_93]; exact kx_push_old f_90
  have f_101 : w_93[q + 7]? = some (qa_73, .inl (k0 0, 32, .inl (fun y9 => nI ((fun _ => 0) y9)))) := by rw [ew_93]; exact kx_push_old f_91
  have f_102 : w_93[q + 8]? = some (qa_92, .inl (k0 3, 4096, .inl (fun y9 => nI ((fun _ => 0) y9)))) := by rw [ew_93]; exact kx_push_new hlen
  have hfr : kx_fr w0 w_93 (fun j => q ≤ j) := kx_fr_tr hfr (by rw [ew_93]; exact kx_fr_push (by rw [hlen]; omega))
  have hlen : w_93.length = q + 9 := by rw [ew_93]; exact kx_push_len hlen
  refine va_putF (D := D) (ci := 3) (v := .ref qa_92) (ty := .array .byte) (C := RX3) (T := TX3) (N := 10) hx hb hts inX3 tyX3 tyX3_ok nmX3 hown hK hP hD hS q f_94 rfl 8 (by decide) (hts _ tw_258) (fun _ h9 => h9) rfl hnm rfl (by decide +kernel) rfl rfl (Nat.le_of_ble_eq_true rfl) dX3_init_67 (fun H locs hP hD hS => ?_)
  obtain ⟨w_103, ew_103⟩ : ∃ w, w = w_93.set q (o, .inr (3, [.ref qa_1, .ref qa_8, .ref qa_17, .ref qa_28, .ref qa_41, .ref qa_56, .int 0, .ref qa_73, .ref qa_92, .null])) := ⟨_, rfl⟩
  have hP : va_P D vwCl w_103 H := by rw [ew_103]; exact hP
  have hD : va_D A w_103 := by rw [ew_103]; exact hD
  have f_104 : w_103[q]? = some (o, .inr (3, [.ref qa_1, .ref qa_8, .ref qa_17, .ref qa_28, .ref qa_41, .ref qa_56, .int 0, .ref qa_73, .ref qa_92, .null])) := by rw [ew_103]; exact kx_set_self f_94
  have f_105 : w_103[q + 1]? = some (qa_1, .inl (k0 0, 8, .inl (fun y9 => nI ((fun _ => 0) y9)))) := by rw [ew_103]; exact kx_set_ne f_95 (by omega)
  have f_106 : w_103[q + 2]? = some (qa_8, .inl (k0 0, 8, .inl (fun y9 => nI ((fun _ => 0) y9)))) := by rw [ew_103]; exact kx_set_ne f_96 (by omega)
  have f_107 : w_103[q + 3]? = some (qa_17, .inl (k0 2, 8, .inl (fun y9 => nI ((fun _ => 0) y9)))) := by rw [ew_103]; exact kx_set_ne f_97 (by omega)
  have f_108 : w_103[q + 4]? = some (qa_28, .inl (k0 0, 192, .inl (fun y9 => nI ((fun _ => 0) y9)))) := by rw [ew_103]; exact kx_set_ne f_98 (by omega)
  have f_109 : w_103[q + 5]? = some (qa_41, .inl (k0 0, 96, .inl (fun _ => nI 0))) := by rw [ew_103]; exact kx_set_ne f_99 (by omega)
  have f_110 : w_103[q + 6]? = some (qa_56, .inl (k0 0, 24, .inl (fun y9 => nI ((fun _ => 0) y9)))) := by rw [ew_103]; exact kx_set_ne f_100 (by omega)
  have f_111 : w_103[q + 7]? = some (qa_73, .inl (k0 0, 32, .inl (fun y9 => nI ((fun _ => 0) y9)))) := by rw [ew_103]; exact kx_set_ne f_101 (by omega)
  have f_112 : w_103[q + 8]? = some (qa_92, .inl (k0 3, 4096, .inl (fun y9 => nI ((fun _ => 0) y9)))) := by rw [ew_103]; exact kx_set_ne f_102 (by omega)
  have hfr : kx_fr w0 w_103 (fun j => q ≤ j) := kx_fr_tr hfr (by rw [ew_103]; exact kx_fr_set (by omega))
  have hlen : w_103.length = q + 9 := by rw [ew_103]; exact kx_set_len hlen
  refine lv_aload_n hx hb dX3_init_70 rfl (lv_at hl 0 rfl) ?_
  refine lv_sipush (v := nI 4096) hx hb dX3_init_71 (by decide +kernel) ?_
  refine kx_newb hx hb (hts _ tw_282) hK hP hD hS hA (n := 4096) (by decide) (by show ((((((((0 + 1) + 1) + 1) + 1) + 1) + 1) + 1) + 1) + 1 ≤ (9 : Nat); omega) (by show ((((((((0 + 8) + 8) + 8) + 192) + 96) + 24) + 32) + 4096) + 4096 ≤ (8560 : Nat); omega) dX3_init_74 (fun qa_113 H hP hD hS => ?_)
  obtain ⟨w_114, ew_114⟩ : ∃ w, w = w_103 ++ [(qa_113, .inl (k0 3, 4096, .inl (fun y9 => nI ((fun _ => 0) y9))))] := ⟨_, rfl⟩
  have hP : va_P D vwCl w_114 H := by rw [ew_114]; exact hP
  have hD : va_D A w_114 := by rw [ew_114]; exact hD
  have f_115 : w_114[q]? = some (o, .inr (3, [.ref qa_1, .ref qa_8, .ref qa_17, .ref qa_28, .ref qa_41, .ref qa_56, .int 0, .ref qa_73, .ref qa_92, .null])) := by rw [ew_114]; exact kx_push_old f_104
  have f_116 : w_114[q + 1]? = some (qa_1, .inl (k0 0, 8, .inl (fun y9 => nI ((fun _ => 0) y9)))) := by rw [ew_114]; exact kx_push_old f_105
  have f_117 : w_114[q + 2]? = some (qa_8, .inl (k0 0, 8, .inl (fun y9 => nI ((fun _ => 0) y9)))) := by rw [ew_114]; exact kx_push_old f_106
  have f_118 : w_114[q + 3]? = some (qa_17, .inl (k0 2, 8, .inl (fun y9 => nI ((fun _ => 0) y9)))) := by rw [ew_114]; exact kx_push_old f_107
  have f_119 : w_114[q + 4]? = some (qa_28, .inl (k0 0, 192, .inl (fun y9 => nI ((fun _ => 0) y9)))) := by rw [ew_114]; exact kx_push_old f_108
  have f_120 : w_114[q + 5]? = some (qa_41, .inl (k0 0, 96, .inl (fun _ => nI 0))) := by rw [ew_114]; exact kx_push_old f_109
  have f_121 : w_114[q + 6]? = some (qa_56, .inl (k0 0, 24, .inl (fun y9 => nI ((fun _ => 0) y9)))) := by rw [ew_114]; exact kx_push_old f_110
  have f_122 : w_114[q + 7]? = some (qa_73, .inl (k0 0, 32, .inl (fun y9 => nI ((fun _ => 0) y9)))) := by rw [ew_114]; exact kx_push_old f_111
  have f_123 : w_114[q + 8]? = some (qa_92, .inl (k0 3, 4096, .inl (fun y9 => nI ((fun _ => 0) y9)))) := by rw [ew_114]; exact kx_push_old f_112
  have f_124 : w_114[q + 9]? = some (qa_113, .inl (k0 3, 4096, .inl (fun y9 => nI ((fun _ => 0) y9)))) := by rw [ew_114]; exact kx_push_new hlen
  have hfr : kx_fr w0 w_114 (fun j => q ≤ j) := kx_fr_tr hfr (by rw [ew_114]; exact kx_fr_push (by rw [hlen]; omega))
  have hlen : w_114.length = q + 10 := by rw [ew_114]; exact kx_push_len hlen
  refine va_putF (D := D) (ci := 3) (v := .ref qa_113) (ty := .array .byte) (C := RX3) (T := TX3) (N := 10) hx hb hts inX3 tyX3 tyX3_ok nmX3 hown hK hP hD hS q f_115 rfl 9 (by decide) (hts _ tw_259) (fun _ h9 => h9) rfl hnm rfl (by decide +kernel) rfl rfl (Nat.le_of_ble_eq_true rfl) dX3_init_76 (fun H locs hP hD hS => ?_)
  obtain ⟨w_125, ew_125⟩ : ∃ w, w = w_114.set q (o, .inr (3, [.ref qa_1, .ref qa_8, .ref qa_17, .ref qa_28, .ref qa_41, .ref qa_56, .int 0, .ref qa_73, .ref qa_92, .ref qa_113])) := ⟨_, rfl⟩
  have hP : va_P D vwCl w_125 H := by rw [ew_125]; exact hP
  have hD : va_D A w_125 := by rw [ew_125]; exact hD
  have f_126 : w_125[q]? = some (o, .inr (3, [.ref qa_1, .ref qa_8, .ref qa_17, .ref qa_28, .ref qa_41, .ref qa_56, .int 0, .ref qa_73, .ref qa_92, .ref qa_113])) := by rw [ew_125]; exact kx_set_self f_115
  have f_127 : w_125[q + 1]? = some (qa_1, .inl (k0 0, 8, .inl (fun y9 => nI ((fun _ => 0) y9)))) := by rw [ew_125]; exact kx_set_ne f_116 (by omega)
  have f_128 : w_125[q + 2]? = some (qa_8, .inl (k0 0, 8, .inl (fun y9 => nI ((fun _ => 0) y9)))) := by rw [ew_125]; exact kx_set_ne f_117 (by omega)
  have f_129 : w_125[q + 3]? = some (qa_17, .inl (k0 2, 8, .inl (fun y9 => nI ((fun _ => 0) y9)))) := by rw [ew_125]; exact kx_set_ne f_118 (by omega)
  have f_130 : w_125[q + 4]? = some (qa_28, .inl (k0 0, 192, .inl (fun y9 => nI ((fun _ => 0) y9)))) := by rw [ew_125]; exact kx_set_ne f_119 (by omega)
  have f_131 : w_125[q + 5]? = some (qa_41, .inl (k0 0, 96, .inl (fun _ => nI 0))) := by rw [ew_125]; exact kx_set_ne f_120 (by omega)
  have f_132 : w_125[q + 6]? = some (qa_56, .inl (k0 0, 24, .inl (fun y9 => nI ((fun _ => 0) y9)))) := by rw [ew_125]; exact kx_set_ne f_121 (by omega)
  have f_133 : w_125[q + 7]? = some (qa_73, .inl (k0 0, 32, .inl (fun y9 => nI ((fun _ => 0) y9)))) := by rw [ew_125]; exact kx_set_ne f_122 (by omega)
  have f_134 : w_125[q + 8]? = some (qa_92, .inl (k0 3, 4096, .inl (fun y9 => nI ((fun _ => 0) y9)))) := by rw [ew_125]; exact kx_set_ne f_123 (by omega)
  have f_135 : w_125[q + 9]? = some (qa_113, .inl (k0 3, 4096, .inl (fun y9 => nI ((fun _ => 0) y9)))) := by rw [ew_125]; exact kx_set_ne f_124 (by omega)
  have hfr : kx_fr w0 w_125 (fun j => q ≤ j) := kx_fr_tr hfr (by rw [ew_125]; exact kx_fr_set (by omega))
  have hlen : w_125.length = q + 10 := by rw [ew_125]; exact kx_set_len hlen
  refine lv_iconst (v := nI 0) hx hb dX3_init_79 (by decide +kernel) ?_
  refine lv_istore_n (lv' := [(1, .int (nI 0)), (0, .ref o)]) hx hb dX3_init_80 rfl hl (by decide) rfl (fun ls hl => ?_)
  have loop_81 : ∀ (n81 : Nat) (g9 : Nat) (mv1 : Nat → Nat) (mo1 : Nat → Nat), (g9 ≤ 8) → (∀ j, j < g9 → mv1 j = 1 ∧ mo1 j = 1) → (9 ≤ g9 + n81) → ∀ (w1 : va_W), w1[q]? = some (o, .inr (3, [.ref qa_1, .ref qa_8, .ref qa_17, .ref qa_28, .ref qa_41, .ref qa_56, .int 0, .ref qa_73, .ref qa_92, .ref qa_113])) → w1[q + 1]? = some (qa_1, .inl (k0 0, 8, .inl (fun y9 => nI (mv1 y9)))) → w1[q + 2]? = some (qa_8, .inl (k0 0, 8, .inl (fun y9 => nI ((fun _ => 0) y9)))) → w1[q + 3]? = some (qa_17, .inl (k0 2, 8, .inl (fun y9 => nI (mo1 y9)))) → w1[q + 4]? = some (qa_28, .inl (k0 0, 192, .inl (fun y9 => nI ((fun _ => 0) y9)))) → w1[q + 5]? = some (qa_41, .inl (k0 0, 96, .inl (fun _ => nI 0))) → w1[q + 6]? = some (qa_56, .inl (k0 0, 24, .inl (fun y9 => nI ((fun _ => 0) y9)))) → w1[q + 7]? = some (qa_73, .inl (k0 0, 32, .inl (fun y9 => nI ((fun _ => 0) y9)))) → w1[q + 8]? = some (qa_92, .inl (k0 3, 4096, .inl (fun y9 => nI ((fun _ => 0) y9)))) → w1[q + 9]? = some (qa_113, .inl (k0 3, 4096, .inl (fun y9 => nI ((fun _ => 0) y9)))) → kx_fr w0 w1 (fun j => q ≤ j) → (w1.length = q + 10) → ∀ (H : Heap) (locs : List Loc), va_P D vwCl w1 H → va_D A w1 → va_S A s.heap H locs → ∀ (ls : Array Slot), lv_has ls 2 [(1, .int (nI g9)), (0, .ref o)] → W p l e ({ frames := 1, cells := 9, slots := 8560, locals := 24 } : Room) s m ([.ref o] : List Value).toArray below meth c H locs 9 8560 (MQ below (va_Qv (fun (u : va_W) => ∃ am mv mo : Nat → Nat, am 0 = o ∧ atM u q k0 am mv (fun _ => 0) mo (fun _ => 0) (fun _ => nI 0) (fun _ => 0) 0 (fun _ => 0) (fun _ => 0) (fun _ => 0) ∧ (∀ j, j < 8 → mv j = 1 ∧ mo j = 1) ∧ u.length = q + 10 ∧ kx_fr w0 u (fun j => q ≤ j)) (kx_B D (tyL k0) A) A) ([.ref o] : List Value).toArray s 9 8560 A) (F0 m 81 ls []) := by
    intro n81
    induction n81 with
    | zero =>
      intro g9 mv1 mo1 hg9 hvo hme
      exact absurd hme (by omega)
    | succ n81 ih81 =>
      intro g9 mv1 mo1 hg9 hvo hme w1 F81_0 F81_1 F81_2 F81_3 F81_4 F81_5 F81_6 F81_7 F81_8 F81_9 hfr hlen H locs hP hD hS ls hl
      refine lv_iload_n hx hb dX3_init_81 rfl (lv_at hl 0 rfl) ?_
      refine lv_bipush (v := nI 8) hx hb dX3_init_82 (by decide +kernel) ?_
      refine lv_icmp_ge (tgt := 107) hx hb dX3_init_84 (by decide) (fun c_84 => ?_) (fun c_84 => ?_)
      · skip
        have hik : g9 = 8 := by
          have := (nI_leI (by omega) (by omega)).mp c_84
          omega
        subst hik
        refine W.widen (k := 9) (n := 8560) (by omega) (by omega) ?_
        exact kx_vret hx hb hr hlocks hK hP hD hS dX3_init_107 (⟨kx_ad o qa_1 qa_8 qa_17 qa_28 qa_41 qa_56 qa_73 qa_92 (fun _ => qa_113), mv1, mo1, rfl, ⟨F81_0, by assumption, by assumption, by assumption, by assumption, by assumption, by assumption, by assumption, by assumption, by assumption⟩, hvo, hlen, hfr⟩)
      · skip
        have hik : g9 < 8 := by
          rcases Nat.lt_or_ge (g9) (8) with h | h
          · exact h
          · exact absurd ((nI_leI (by omega) (by omega)).mpr h) c_84
        refine lv_aload_n hx hb dX3_init_87 rfl (lv_at hl 1 rfl) ?_
        refine va_get (D := D) (ci := 3) (v := .ref qa_1) (C := RX3) (T := TX3) (N := 10) hx hb hts inX3 hown hK hP q F81_0 rfl 0 (by decide) (hts _ tw_250) (fun _ h9 => h9) rfl dX3_init_88 ?_
        refine lv_iload_n hx hb dX3_init_91 rfl (lv_at hl 0 rfl) ?_
        refine lv_iconst (v := nI 1) hx hb dX3_init_92 (by decide +kernel) ?_
        refine kx_nast hx hb hK hP hD hS (q + 1) F81_1 rfl (i := g9) (x := 1) (by omega) (by decide) dX3_init_93 (fun H locs hP hD hS => ?_)
        obtain ⟨w_136, ew_136⟩ : ∃ w, w = w1.set (q + 1) (qa_1, .inl (k0 0, 8, .inl (fun y9 => nI ((fo_up mv1 g9 1) y9)))) := ⟨_, rfl⟩
        have hP : va_P D vwCl w_136 H := by rw [ew_136]; exact hP
        have hD : va_D A w_136 := by rw [ew_136]; exact hD
        have f_137 : w_136[q]? = some (o, .inr (3, [.ref qa_1, .ref qa_8, .ref qa_17, .ref qa_28, .ref qa_41, .ref qa_56, .int 0, .ref qa_73, .ref qa_92, .ref qa_113])) := by rw [ew_136]; exact kx_set_ne F81_0 (by omega)
        have f_138 : w_136[q + 1]? = some (qa_1, .inl (k0 0, 8, .inl (fun y9 => nI ((fo_up mv1 g9 1) y9)))) := by rw [ew_136]; exact kx_set_self F81_1
        have f_139 : w_136[q + 2]? = some (qa_8, .inl (k0 0, 8, .inl (fun y9 => nI ((fun _ => 0) y9)))) := by rw [ew_136]; exact kx_set_ne F81_2 (by omega)
        have f_140 : w_136[q + 3]? = some (qa_17, .inl (k0 2, 8, .inl (fun y9 => nI (mo1 y9)))) := by rw [ew_136]; exact kx_set_ne F81_3 (by omega)
        have f_141 : w_136[q + 4]? = some (qa_28, .inl (k0 0, 192, .inl (fun y9 => nI ((fun _ => 0) y9)))) := by rw [ew_136]; exact kx_set_ne F81_4 (by omega)
        have f_142 : w_136[q + 5]? = some (qa_41, .inl (k0 0, 96, .inl (fun _ => nI 0))) := by rw [ew_136]; exact kx_set_ne F81_5 (by omega)
        have f_143 : w_136[q + 6]? = some (qa_56, .inl (k0 0, 24, .inl (fun y9 => nI ((fun _ => 0) y9)))) := by rw [ew_136]; exact kx_set_ne F81_6 (by omega)
        have f_144 : w_136[q + 7]? = some (qa_73, .inl (k0 0, 32, .inl (fun y9 => nI ((fun _ => 0) y9)))) := by rw [ew_136]; exact kx_set_ne F81_7 (by omega)
        have f_145 : w_136[q + 8]? = some (qa_92, .inl (k0 3, 4096, .inl (fun y9 => nI ((fun _ => 0) y9)))) := by rw [ew_136]; exact kx_set_ne F81_8 (by omega)
        have f_146 : w_136[q + 9]? = some (qa_113, .inl (k0 3, 4096, .inl (fun y9 => nI ((fun _ => 0) y9)))) := by rw [ew_136]; exact kx_set_ne F81_9 (by omega)
        have hfr : kx_fr w0 w_136 (fun j => q ≤ j) := kx_fr_tr hfr (by rw [ew_136]; exact kx_fr_set (by omega))
        have hlen : w_136.length = q + 10 := by rw [ew_136]; exact kx_set_len hlen
        refine lv_aload_n hx hb dX3_init_94 rfl (lv_at hl 1 rfl) ?_
        refine va_get (D := D) (ci := 3) (v := .ref qa_17) (C := RX3) (T := TX3) (N := 10) hx hb hts inX3 hown hK hP q f_137 rfl 2 (by decide) (hts _ tw_252) (fun _ h9 => h9) rfl dX3_init_95 ?_
        refine lv_iload_n hx hb dX3_init_98 rfl (lv_at hl 0 rfl) ?_
        refine lv_iconst (v := nI 1) hx hb dX3_init_99 (by decide +kernel) ?_
        refine kx_znast hx hb hK hP hD hS (q + 3) f_140 rfl (i := g9) (x := 1) (by omega) (by decide) (by decide) dX3_init_100 (fun H locs hP hD hS => ?_)
        obtain ⟨w_147, ew_147⟩ : ∃ w, w = w_136.set (q + 3) (qa_17, .inl (k0 2, 8, .inl (fun y9 => nI ((fo_up mo1 g9 1) y9)))) := ⟨_, rfl⟩
        have hP : va_P D vwCl w_147 H := by rw [ew_147]; exact hP
        have hD : va_D A w_147 := by rw [ew_147]; exact hD
        have f_148 : w_147[q]? = some (o, .inr (3, [.ref qa_1, .ref qa_8, .ref qa_17, .ref qa_28, .ref qa_41, .ref qa_56, .int 0, .ref qa_73, .ref qa_92, .ref qa_113])) := by rw [ew_147]; exact kx_set_ne f_137 (by omega)
        have f_149 : w_147[q + 1]? = some (qa_1, .inl (k0 0, 8, .inl (fun y9 => nI ((fo_up mv1 g9 1) y9)))) := by rw [ew_147]; exact kx_set_ne f_138 (by omega)
        have f_150 : w_147[q + 2]? = some (qa_8, .inl (k0 0, 8, .inl (fun y9 => nI ((fun _ => 0) y9)))) := by rw [ew_147]; exact kx_set_ne f_139 (by omega)
        have f_151 : w_147[q + 3]? = some (qa_17, .inl (k0 2, 8, .inl (fun y9 => nI ((fo_up mo1 g9 1) y9)))) := by rw [ew_147]; exact kx_set_self f_140
        have f_152 : w_147[q + 4]? = some (qa_28, .inl (k0 0, 192, .inl (fun y9 => nI ((fun _ => 0) y9)))) := by rw [ew_147]; exact kx_set_ne f_141 (by omega)
        have f_153 : w_147[q + 5]? = some (qa_41, .inl (k0 0, 96, .inl (fun _ => nI 0))) := by rw [ew_147]; exact kx_set_ne f_142 (by omega)
        have f_154 : w_147[q + 6]? = some (qa_56, .inl (k0 0, 24, .inl (fun y9 => nI ((fun _ => 0) y9)))) := by rw [ew_147]; exact kx_set_ne f_143 (by omega)
        have f_155 : w_147[q + 7]? = some (qa_73, .inl (k0 0, 32, .inl (fun y9 => nI ((fun _ => 0) y9)))) := by rw [ew_147]; exact kx_set_ne f_144 (by omega)
        have f_156 : w_147[q + 8]? = some (qa_92, .inl (k0 3, 4096, .inl (fun y9 => nI ((fun _ => 0) y9)))) := by rw [ew_147]; exact kx_set_ne f_145 (by omega)
        have f_157 : w_147[q + 9]? = some (qa_113, .inl (k0 3, 4096, .inl (fun y9 => nI ((fun _ => 0) y9)))) := by rw [ew_147]; exact kx_set_ne f_146 (by omega)
        have hfr : kx_fr w0 w_147 (fun j => q ≤ j) := kx_fr_tr hfr (by rw [ew_147]; exact kx_fr_set (by omega))
        have hlen : w_147.length = q + 10 := by rw [ew_147]; exact kx_set_len hlen
        refine lv_iinc (v := nI (g9 + 1)) (lv' := [(1, .int (nI (g9 + 1))), (0, .ref o)]) hx hb dX3_init_101 hl (k := 0) rfl (nI_1 _) (by decide) rfl (fun ls hl => ?_)
        refine lv_goto (tgt := 81) hx hb dX3_init_104 (by decide) ?_
        refine W.widen (k := 9) (n := 8560) (by omega) (by omega) ?_
        exact ih81 (g9 + 1) (fo_up mv1 g9 1) (fo_up mo1 g9 1) (by omega) (fun j h => by
            rcases Nat.lt_or_ge j g9 with h2 | h2
            · rw [fo_up_lt _ _ h2, fo_up_lt _ _ h2]; exact hvo j h2
            · rw [show j = g9 by omega, fo_up_self, fo_up_self]; exact ⟨rfl, rfl⟩) (by omega) w_147 f_148 f_149 f_150 f_151 f_152 f_153 f_154 f_155 f_156 f_157 hfr hlen _ _ hP hD hS _ (lv_sub hl [0, 1] rfl)
  refine W.widen (k := 9) (n := 8560) (by omega) (by omega) ?_
  exact loop_81 (9) 0 (fun _ => 0) (fun _ => 0) (by omega) (fun j h => absurd h (Nat.not_lt_zero j)) (by omega) w_125 f_126 f_127 f_128 f_129 f_130 f_131 f_132 f_133 f_134 f_135 hfr hlen _ _ hP hD hS _ (lv_sub hl [0, 1] rfl)

set_option maxHeartbeats 4000000 in
set_option maxRecDepth 100000 in
/-- the model: measure -/
theorem m_measure1 (l : Launch) (D : va_G) (k0 : Nat → ClassId)  (w0 : va_W) (sz : Nat) (q : Nat) (am mv mc mo me : Nat → Nat) (mw : Nat → Int32) (mm : Nat → Nat) (mk : Nat) (mn fb sb : Nat → Nat) (hM : atM w0 q k0 am mv mc mo me mw mm mk mn fb sb) (hI : minv mv mc mo me mw) (i : Nat) (h8i : i < 8) : kx_v l yX3_measure wsX3_measure ({ frames := 1, cells := 0, slots := 0, locals := 32 } : Room) D (tyL k0) w0 sz [.ref (am 0), .int (nI i), .ref (am 8)] (fun (u : va_W) => ∃ mn9 fb9 : Nat → Nat, (∀ s9, s9 ≤ cf_full (mc i) → fb9 s9 = (jn (mA me i) (mB me i) s9 (mc i)).2) ∧ u[q + 7]? = some (am 7, .inl (k0 0, 32, .inl (fun j => nI (mn9 j)))) ∧ u[q + 8]? = some (am 8, .inl (k0 3, 4096, .inl (fun j => nI (fb9 j)))) ∧ kx_fr w0 u (fun j => j = q + 7 ∨ j = q + 8)) 0 0 := by
  refine kx_of (Qf := fun A => va_Qv (fun (u : va_W) => ∃ mn9 fb9 : Nat → Nat, (∀ s9, s9 ≤ cf_full (mc i) → fb9 s9 = (jn (mA me i) (mB me i) s9 (mc i)).2) ∧ u[q + 7]? = some (am 7, .inl (k0 0, 32, .inl (fun j => nI (mn9 j)))) ∧ u[q + 8]? = some (am 8, .inl (k0 3, 4096, .inl (fun j => nI (fb9 j)))) ∧ kx_fr w0 u (fun j => j = q + 7 ∨ j = q + 8)) (kx_B D (tyL k0) A) A) (cc := cX3_measure) (maxL := 4) (ret := none) (by decide +kernel) (Nat.le_of_ble_eq_true rfl) ?_
  intro p e s m below meth c A ls hx hb hml hown hts hr hlocks hnm hN hK hP hD hS hA hl
  have hown : s.vm.findClass RX3 = some m.cls := hown
  have hl : lv_has ls 4 [(0, .ref (am 0)), (1, .int (nI i)), (2, .ref (am 8))] := hl
  have hfr : kx_fr w0 w0 (fun j => j = q + 7 ∨ j = q + 8) := kx_fr_rf _ _
  obtain ⟨hM0, hM1, hM2, hM3, hM4, hM5, hM6, hM7, hM8, hM9⟩ := id hM
  obtain ⟨hni, hvi, hoi, he2i, hw2i⟩ := hI i h8i
  have hfl := kb_full_lt hni
  refine lv_iconst (v := nI 0) hx hb dX3_measure_0 (by decide +kernel) ?_
  refine lv_istore_n (lv' := [(3, .int (nI 0)), (0, .ref (am 0)), (1, .int (nI i)), (2, .ref (am 8))]) hx hb dX3_measure_1 rfl hl (by decide) rfl (fun ls hl => ?_)
  have loop_2 : ∀ (n2 : Nat) (s9 : Nat) (mn1 : Nat → Nat) (fb1 : Nat → Nat), (s9 ≤ cf_full (mc i) + 1) → (∀ s, s < s9 → fb1 s = (jn (mA me i) (mB me i) s (mc i)).2) → (cf_full (mc i) + 2 ≤ s9 + n2) → ∀ (w1 : va_W), w1[q]? = some (am 0, .inr (3, [.ref (am 1), .ref (am 2), .ref (am 3), .ref (am 4), .ref (am 5), .ref (am 6), .int (nI mk), .ref (am 7), .ref (am 8), .ref (am 9)])) → w1[q + 1]? = some (am 1, .inl (k0 0, 8, .inl (fun y9 => nI (mv y9)))) → w1[q + 2]? = some (am 2, .inl (k0 0, 8, .inl (fun y9 => nI (mc y9)))) → w1[q + 3]? = some (am 3, .inl (k0 2, 8, .inl (fun y9 => nI (mo y9)))) → w1[q + 4]? = some (am 4, .inl (k0 0, 192, .inl (fun y9 => nI (me y9)))) → w1[q + 5]? = some (am 5, .inl (k0 0, 96, .inl mw)) → w1[q + 6]? = some (am 6, .inl (k0 0, 24, .inl (fun y9 => nI (mm y9)))) → w1[q + 7]? = some (am 7, .inl (k0 0, 32, .inl (fun y9 => nI (mn1 y9)))) → w1[q + 8]? = some (am 8, .inl (k0 3, 4096, .inl (fun y9 => nI (fb1 y9)))) → w1[q + 9]? = some (am 9, .inl (k0 3, 4096, .inl (fun y9 => nI (sb y9)))) → kx_fr w0 w1 (fun j => j = q + 7 ∨ j = q + 8) → ∀ (H : Heap) (locs : List Loc), va_P D vwCl w1 H → va_D A w1 → va_S A s.heap H locs → ∀ (ls : Array Slot), lv_has ls 4 [(3, .int (nI s9)), (0, .ref (am 0)), (1, .int (nI i)), (2, .ref (am 8))] → W p l e ({ frames := 1, cells := 0, slots := 0, locals := 32 } : Room) s m ([.ref (am 0), .int (nI i), .ref (am 8)] : List Value).toArray below meth c H locs 0 0 (MQ below (va_Qv (fun (u : va_W) => ∃ mn9 fb9 : Nat → Nat, (∀ s9, s9 ≤ cf_full (mc i) → fb9 s9 = (jn (mA me i) (mB me i) s9 (mc i)).2) ∧ u[q + 7]? = some (am 7, .inl (k0 0, 32, .inl (fun j => nI (mn9 j)))) ∧ u[q + 8]? = some (am 8, .inl (k0 3, 4096, .inl (fun j => nI (fb9 j)))) ∧ kx_fr w0 u (fun j => j = q + 7 ∨ j = q + 8)) (kx_B D (tyL k0) A) A) ([.ref (am 0), .int (nI i), .ref (am 8)] : List Value).toArray s 0 0 A) (F0 m 2 ls []) := by
    intro n2
    induction n2 with
    | zero =>
      intro s9 mn1 fb1 hs9 hfb hme
      exact absurd hme (by omega)
    | succ n2 ih2 =>
      intro s9 mn1 fb1 hs9 hfb hme w1 F2_0 F2_1 F2_2 F2_3 F2_4 F2_5 F2_6 F2_7 F2_8 F2_9 hfr H locs hP hD hS ls hl
      refine lv_iload_n hx hb dX3_measure_2 rfl (lv_at hl 0 rfl) ?_
      refine lv_aload_n hx hb dX3_measure_3 rfl (lv_at hl 1 rfl) ?_
      refine lv_iload_n hx hb dX3_measure_4 rfl (lv_at hl 2 rfl) ?_
      refine kx_goi (va_runV (As := [.int (nI i)]) (rest := [.int (nI s9)]) ⟨hx, hb, hml, hown, hts⟩ (m_whole l D k0 w1 _ q am mv mc mo me mw mm mk mn1 fb1 sb ⟨F2_0, F2_1, F2_2, F2_3, F2_4, F2_5, F2_6, F2_7, F2_8, F2_9⟩ hI i h8i) ⟨(kg_B (k := 1) hts tw_313 tw_310 tw_22 (by decide +kernel) rfl rfl ⟨Nat.le_of_ble_eq_true rfl, Nat.le_of_ble_eq_true rfl⟩), hts _ tw_312, hts _ tw_10⟩ (kx_preV hN hK hP hD rfl F2_0) rfl rfl hl.1 rfl (lv_room (Nat.le_of_ble_eq_true rfl)) dX3_measure_5 ⟨Nat.le_of_ble_eq_true rfl, Nat.le_of_ble_eq_true rfl⟩) hD hS hA (fun r_2 u_3 H locs hp_1 hP hD hS => ?_)
      obtain ⟨er_2, eu_3⟩ := hp_1
      rw [eu_3] at hP hD; subst er_2
      refine lv_icmp_gt (tgt := 27) hx hb dX3_measure_8 (by decide) (fun c_8 => ?_) (fun c_8 => ?_)
      · skip
        have hend : cf_full (mc i) < s9 := (nI_ltI (by omega) (by omega)).mp c_8
        exact kx_vret hx hb hr hlocks hK hP hD hS dX3_measure_27 (⟨mn1, fb1, fun s h => hfb s (by omega), F2_7, F2_8, hfr⟩)
      · skip
        have hle : s9 ≤ cf_full (mc i) := by
          rcases Nat.lt_or_ge (cf_full (mc i)) s9 with h | h
          · exact absurd ((nI_ltI (by omega) (by omega)).mpr h) c_8
          · exact h
        refine lv_aload_n hx hb dX3_measure_11 rfl (lv_at hl 3 rfl) ?_
        refine lv_iload_n hx hb dX3_measure_12 rfl (lv_at hl 0 rfl) ?_
        refine lv_aload_n hx hb dX3_measure_13 rfl (lv_at hl 1 rfl) ?_
        refine lv_iload_n hx hb dX3_measure_14 rfl (lv_at hl 2 rfl) ?_
        refine lv_iload_n hx hb dX3_measure_15 rfl (lv_at hl 0 rfl) ?_
        refine kx_goi (va_runV (As := [.int (nI i), .int (nI s9)]) (rest := [.int (nI s9), .ref (am 8)]) ⟨hx, hb, hml, hown, hts⟩ (m_join l D k0 w1 _ q am mv mc mo me mw mm mk mn1 fb1 sb ⟨F2_0, F2_1, F2_2, F2_3, F2_4, F2_5, F2_6, F2_7, F2_8, F2_9⟩ hI i s9 h8i (by omega)) ⟨(kg_B (k := 2) hts tw_317 tw_314 tw_22 (by decide +kernel) rfl rfl ⟨Nat.le_of_ble_eq_true rfl, Nat.le_of_ble_eq_true rfl⟩), hts _ tw_316, hts _ tw_11⟩ (kx_preV hN hK hP hD rfl F2_0) rfl rfl hl.1 rfl (lv_room (Nat.le_of_ble_eq_true rfl)) dX3_measure_16 ⟨Nat.le_of_ble_eq_true rfl, Nat.le_of_ble_eq_true rfl⟩) hD hS hA (fun r_5 u_6 H locs hp_4 hP hD hS => ?_)
        obtain ⟨mn9, er_mn9, hn_mn9, hM79, hq⟩ := hp_4
        have f_7 : u_6[q]? = some (am 0, .inr (3, [.ref (am 1), .ref (am 2), .ref (am 3), .ref (am 4), .ref (am 5), .ref (am 6), .int (nI mk), .ref (am 7), .ref (am 8), .ref (am 9)])) := by rw [hq _ (by omega)]; exact F2_0
        have f_8 : u_6[q + 1]? = some (am 1, .inl (k0 0, 8, .inl (fun y9 => nI (mv y9)))) := by rw [hq _ (by omega)]; exact F2_1
        have f_9 : u_6[q + 2]? = some (am 2, .inl (k0 0, 8, .inl (fun y9 => nI (mc y9)))) := by rw [hq _ (by omega)]; exact F2_2
        have f_10 : u_6[q + 3]? = some (am 3, .inl (k0 2, 8, .inl (fun y9 => nI (mo y9)))) := by rw [hq _ (by omega)]; exact F2_3
        have f_11 : u_6[q + 4]? = some (am 4, .inl (k0 0, 192, .inl (fun y9 => nI (me y9)))) := by rw [hq _ (by omega)]; exact F2_4
        have f_12 : u_6[q + 5]? = some (am 5, .inl (k0 0, 96, .inl mw)) := by rw [hq _ (by omega)]; exact F2_5
        have f_13 : u_6[q + 6]? = some (am 6, .inl (k0 0, 24, .inl (fun y9 => nI (mm y9)))) := by rw [hq _ (by omega)]; exact F2_6
        have f_14 : u_6[q + 7]? = some (am 7, .inl (k0 0, 32, .inl (fun y9 => nI (mn9 y9)))) := hM79
        have f_15 : u_6[q + 8]? = some (am 8, .inl (k0 3, 4096, .inl (fun y9 => nI (fb1 y9)))) := by rw [hq _ (by omega)]; exact F2_8
        have f_16 : u_6[q + 9]? = some (am 9, .inl (k0 3, 4096, .inl (fun y9 => nI (sb y9)))) := by rw [hq _ (by omega)]; exact F2_9
        have hfr : kx_fr w0 u_6 (fun j => j = q + 7 ∨ j = q + 8) := kx_fr_tr hfr (kx_fr_mono hq (fun j h => by omega))
        subst er_mn9
        refine lv_i2b (v := nI ((jn (mA me i) (mB me i) s9 (mc i)).2)) hx hb dX3_measure_19 (kb_i2b _ (by have := jn_le (mA me i) (mB me i) s9 (mc i); omega)) ?_
        refine kx_bnast hx hb hK hP hD hS (q + 8) f_15 rfl (i := s9) (x := ((jn (mA me i) (mB me i) s9 (mc i)).2)) (by omega) (by decide) (by have := jn_le (mA me i) (mB me i) s9 (mc i); omega) dX3_measure_20 (fun H locs hP hD hS => ?_)
        obtain ⟨w_17, ew_17⟩ : ∃ w, w = u_6.set (q + 8) (am 8, .inl (k0 3, 4096, .inl (fun y9 => nI ((fo_up fb1 s9 ((jn (mA me i) (mB me i) s9 (mc i)).2)) y9)))) := ⟨_, rfl⟩
        have hP : va_P D vwCl w_17 H := by rw [ew_17]; exact hP
        have hD : va_D A w_17 := by rw [ew_17]; exact hD
        have f_18 : w_17[q]? = some (am 0, .inr (3, [.ref (am 1), .ref (am 2), .ref (am 3), .ref (am 4), .ref (am 5), .ref (am 6), .int (nI mk), .ref (am 7), .ref (am 8), .ref (am 9)])) := by rw [ew_17]; exact kx_set_ne f_7 (by omega)
        have f_19 : w_17[q + 1]? = some (am 1, .inl (k0 0, 8, .inl (fun y9 => nI (mv y9)))) := by rw [ew_17]; exact kx_set_ne f_8 (by omega)
        have f_20 : w_17[q + 2]? = some (am 2, .inl (k0 0, 8, .inl (fun y9 => nI (mc y9)))) := by rw [ew_17]; exact kx_set_ne f_9 (by omega)
        have f_21 : w_17[q + 3]? = some (am 3, .inl (k0 2, 8, .inl (fun y9 => nI (mo y9)))) := by rw [ew_17]; exact kx_set_ne f_10 (by omega)
        have f_22 : w_17[q + 4]? = some (am 4, .inl (k0 0, 192, .inl (fun y9 => nI (me y9)))) := by rw [ew_17]; exact kx_set_ne f_11 (by omega)
        have f_23 : w_17[q + 5]? = some (am 5, .inl (k0 0, 96, .inl mw)) := by rw [ew_17]; exact kx_set_ne f_12 (by omega)
        have f_24 : w_17[q + 6]? = some (am 6, .inl (k0 0, 24, .inl (fun y9 => nI (mm y9)))) := by rw [ew_17]; exact kx_set_ne f_13 (by omega)
        have f_25 : w_17[q + 7]? = some (am 7, .inl (k0 0, 32, .inl (fun y9 => nI (mn9 y9)))) := by rw [ew_17]; exact kx_set_ne f_14 (by omega)
        have f_26 : w_17[q + 8]? = some (am 8, .inl (k0 3, 4096, .inl (fun y9 => nI ((fo_up fb1 s9 ((jn (mA me i) (mB me i) s9 (mc i)).2)) y9)))) := by rw [ew_17]; exact kx_set_self f_15
        have f_27 : w_17[q + 9]? = some (am 9, .inl (k0 3, 4096, .inl (fun y9 => nI (sb y9)))) := by rw [ew_17]; exact kx_set_ne f_16 (by omega)
        have hfr : kx_fr w0 w_17 (fun j => j = q + 7 ∨ j = q + 8) := kx_fr_tr hfr (by rw [ew_17]; exact kx_fr_set (by omega))
        refine lv_iinc (v := nI (s9 + 1)) (lv' := [(3, .int (nI (s9 + 1))), (0, .ref (am 0)), (1, .int (nI i)), (2, .ref (am 8))]) hx hb dX3_measure_21 hl (k := 0) rfl (nI_1 _) (by decide) rfl (fun ls hl => ?_)
        refine lv_goto (tgt := 2) hx hb dX3_measure_24 (by decide) ?_
        exact ih2 (s9 + 1) mn9 (fo_up fb1 s9 ((jn (mA me i) (mB me i) s9 (mc i)).2)) (by omega) (fun s h => by
            rcases Nat.lt_or_ge s s9 with h2 | h2
            · rw [fo_up_lt _ _ h2]; exact hfb s h2
            · rw [show s = s9 by omega, fo_up_self]) (by omega) w_17 f_18 f_19 f_20 f_21 f_22 f_23 f_24 f_25 f_26 f_27 hfr _ _ hP hD hS _ (lv_sub hl [0, 1, 2, 3] rfl)
  exact loop_2 (cf_full (mc i) + 2) 0 mn fb (by omega) (fun s h => absurd h (Nat.not_lt_zero s)) (by omega) w0 hM0 hM1 hM2 hM3 hM4 hM5 hM6 hM7 hM8 hM9 hfr _ _ hP hD hS _ (lv_sub hl [0, 1, 2, 3] rfl)

set_option maxHeartbeats 4000000 in
set_option maxRecDepth 100000 in
/-- the model: measure -/
theorem m_measure2 (l : Launch) (D : va_G) (k0 : Nat → ClassId)  (w0 : va_W) (sz : Nat) (q : Nat) (am mv mc mo me : Nat → Nat) (mw : Nat → Int32) (mm : Nat → Nat) (mk : Nat) (mn fb sb : Nat → Nat) (hM : atM w0 q k0 am mv mc mo me mw mm mk mn fb sb) (hI : minv mv mc mo me mw) (i : Nat) (h8i : i < 8) : kx_v l yX3_measure wsX3_measure ({ frames := 1, cells := 0, slots := 0, locals := 32 } : Room) D (tyL k0) w0 sz [.ref (am 0), .int (nI i), .ref (am 9)] (fun (u : va_W) => ∃ mn9 fb9 : Nat → Nat, (∀ s9, s9 ≤ cf_full (mc i) → fb9 s9 = (jn (mA me i) (mB me i) s9 (mc i)).2) ∧ u[q + 7]? = some (am 7, .inl (k0 0, 32, .inl (fun j => nI (mn9 j)))) ∧ u[q + 9]? = some (am 9, .inl (k0 3, 4096, .inl (fun j => nI (fb9 j)))) ∧ kx_fr w0 u (fun j => j = q + 7 ∨ j = q + 9)) 0 0 := by
  refine kx_of (Qf := fun A => va_Qv (fun (u : va_W) => ∃ mn9 fb9 : Nat → Nat, (∀ s9, s9 ≤ cf_full (mc i) → fb9 s9 = (jn (mA me i) (mB me i) s9 (mc i)).2) ∧ u[q + 7]? = some (am 7, .inl (k0 0, 32, .inl (fun j => nI (mn9 j)))) ∧ u[q + 9]? = some (am 9, .inl (k0 3, 4096, .inl (fun j => nI (fb9 j)))) ∧ kx_fr w0 u (fun j => j = q + 7 ∨ j = q + 9)) (kx_B D (tyL k0) A) A) (cc := cX3_measure) (maxL := 4) (ret := none) (by decide +kernel) (Nat.le_of_ble_eq_true rfl) ?_
  intro p e s m below meth c A ls hx hb hml hown hts hr hlocks hnm hN hK hP hD hS hA hl
  have hown : s.vm.findClass RX3 = some m.cls := hown
  have hl : lv_has ls 4 [(0, .ref (am 0)), (1, .int (nI i)), (2, .ref (am 9))] := hl
  have hfr : kx_fr w0 w0 (fun j => j = q + 7 ∨ j = q + 9) := kx_fr_rf _ _
  obtain ⟨hM0, hM1, hM2, hM3, hM4, hM5, hM6, hM7, hM8, hM9⟩ := id hM
  obtain ⟨hni, hvi, hoi, he2i, hw2i⟩ := hI i h8i
  have hfl := kb_full_lt hni
  refine lv_iconst (v := nI 0) hx hb dX3_measure_0 (by decide +kernel) ?_
  refine lv_istore_n (lv' := [(3, .int (nI 0)), (0, .ref (am 0)), (1, .int (nI i)), (2, .ref (am 9))]) hx hb dX3_measure_1 rfl hl (by decide) rfl (fun ls hl => ?_)
  have loop_2 : ∀ (n2 : Nat) (s9 : Nat) (mn1 : Nat → Nat) (sb1 : Nat → Nat), (s9 ≤ cf_full (mc i) + 1) → (∀ s, s < s9 → sb1 s = (jn (mA me i) (mB me i) s (mc i)).2) → (cf_full (mc i) + 2 ≤ s9 + n2) → ∀ (w1 : va_W), w1[q]? = some (am 0, .inr (3, [.ref (am 1), .ref (am 2), .ref (am 3), .ref (am 4), .ref (am 5), .ref (am 6), .int (nI mk), .ref (am 7), .ref (am 8), .ref (am 9)])) → w1[q + 1]? = some (am 1, .inl (k0 0, 8, .inl (fun y9 => nI (mv y9)))) → w1[q + 2]? = some (am 2, .inl (k0 0, 8, .inl (fun y9 => nI (mc y9)))) → w1[q + 3]? = some (am 3, .inl (k0 2, 8, .inl (fun y9 => nI (mo y9)))) → w1[q + 4]? = some (am 4, .inl (k0 0, 192, .inl (fun y9 => nI (me y9)))) → w1[q + 5]? = some (am 5, .inl (k0 0, 96, .inl mw)) → w1[q + 6]? = some (am 6, .inl (k0 0, 24, .inl (fun y9 => nI (mm y9)))) → w1[q + 7]? = some (am 7, .inl (k0 0, 32, .inl (fun y9 => nI (mn1 y9)))) → w1[q + 8]? = some (am 8, .inl (k0 3, 4096, .inl (fun y9 => nI (fb y9)))) → w1[q + 9]? = some (am 9, .inl (k0 3, 4096, .inl (fun y9 => nI (sb1 y9)))) → kx_fr w0 w1 (fun j => j = q + 7 ∨ j = q + 9) → ∀ (H : Heap) (locs : List Loc), va_P D vwCl w1 H → va_D A w1 → va_S A s.heap H locs → ∀ (ls : Array Slot), lv_has ls 4 [(3, .int (nI s9)), (0, .ref (am 0)), (1, .int (nI i)), (2, .ref (am 9))] → W p l e ({ frames := 1, cells := 0, slots := 0, locals := 32 } : Room) s m ([.ref (am 0), .int (nI i), .ref (am 9)] : List Value).toArray below meth c H locs 0 0 (MQ below (va_Qv (fun (u : va_W) => ∃ mn9 fb9 : Nat → Nat, (∀ s9, s9 ≤ cf_full (mc i) → fb9 s9 = (jn (mA me i) (mB me i) s9 (mc i)).2) ∧ u[q + 7]? = some (am 7, .inl (k0 0, 32, .inl (fun j => nI (mn9 j)))) ∧ u[q + 9]? = some (am 9, .inl (k0 3, 4096, .inl (fun j => nI (fb9 j)))) ∧ kx_fr w0 u (fun j => j = q + 7 ∨ j = q + 9)) (kx_B D (tyL k0) A) A) ([.ref (am 0), .int (nI i), .ref (am 9)] : List Value).toArray s 0 0 A) (F0 m 2 ls []) := by
    intro n2
    induction n2 with
    | zero =>
      intro s9 mn1 sb1 hs9 hfb hme
      exact absurd hme (by omega)
    | succ n2 ih2 =>
      intro s9 mn1 sb1 hs9 hfb hme w1 F2_0 F2_1 F2_2 F2_3 F2_4 F2_5 F2_6 F2_7 F2_8 F2_9 hfr H locs hP hD hS ls hl
      refine lv_iload_n hx hb dX3_measure_2 rfl (lv_at hl 0 rfl) ?_
      refine lv_aload_n hx hb dX3_measure_3 rfl (lv_at hl 1 rfl) ?_
      refine lv_iload_n hx hb dX3_measure_4 rfl (lv_at hl 2 rfl) ?_
      refine kx_goi (va_runV (As := [.int (nI i)]) (rest := [.int (nI s9)]) ⟨hx, hb, hml, hown, hts⟩ (m_whole l D k0 w1 _ q am mv mc mo me mw mm mk mn1 fb sb1 ⟨F2_0, F2_1, F2_2, F2_3, F2_4, F2_5, F2_6, F2_7, F2_8, F2_9⟩ hI i h8i) ⟨(kg_B (k := 1) hts tw_313 tw_310 tw_22 (by decide +kernel) rfl rfl ⟨Nat.le_of_ble_eq_true rfl, Nat.le_of_ble_eq_true rfl⟩), hts _ tw_312, hts _ tw_10⟩ (kx_preV hN hK hP hD rfl F2_0) rfl rfl hl.1 rfl (lv_room (Nat.le_of_ble_eq_true rfl)) dX3_measure_5 ⟨Nat.le_of_ble_eq_true rfl, Nat.le_of_ble_eq_true rfl⟩) hD hS hA (fun r_2 u_3 H locs hp_1 hP hD hS => ?_)
      obtain ⟨er_2, eu_3⟩ := hp_1
      rw [eu_3] at hP hD; subst er_2
      refine lv_icmp_gt (tgt := 27) hx hb dX3_measure_8 (by decide) (fun c_8 => ?_) (fun c_8 => ?_)
      · skip
        have hend : cf_full (mc i) < s9 := (nI_ltI (by omega) (by omega)).mp c_8
        exact kx_vret hx hb hr hlocks hK hP hD hS dX3_measure_27 (⟨mn1, sb1, fun s h => hfb s (by omega), F2_7, F2_9, hfr⟩)
      · skip
        have hle : s9 ≤ cf_full (mc i) := by
          rcases Nat.lt_or_ge (cf_full (mc i)) s9 with h | h
          · exact absurd ((nI_ltI (by omega) (by omega)).mpr h) c_8
          · exact h
        refine lv_aload_n hx hb dX3_measure_11 rfl (lv_at hl 3 rfl) ?_
        refine lv_iload_n hx hb dX3_measure_12 rfl (lv_at hl 0 rfl) ?_
        refine lv_aload_n hx hb dX3_measure_13 rfl (lv_at hl 1 rfl) ?_
        refine lv_iload_n hx hb dX3_measure_14 rfl (lv_at hl 2 rfl) ?_
        refine lv_iload_n hx hb dX3_measure_15 rfl (lv_at hl 0 rfl) ?_
        refine kx_goi (va_runV (As := [.int (nI i), .int (nI s9)]) (rest := [.int (nI s9), .ref (am 9)]) ⟨hx, hb, hml, hown, hts⟩ (m_join l D k0 w1 _ q am mv mc mo me mw mm mk mn1 fb sb1 ⟨F2_0, F2_1, F2_2, F2_3, F2_4, F2_5, F2_6, F2_7, F2_8, F2_9⟩ hI i s9 h8i (by omega)) ⟨(kg_B (k := 2) hts tw_317 tw_314 tw_22 (by decide +kernel) rfl rfl ⟨Nat.le_of_ble_eq_true rfl, Nat.le_of_ble_eq_true rfl⟩), hts _ tw_316, hts _ tw_11⟩ (kx_preV hN hK hP hD rfl F2_0) rfl rfl hl.1 rfl (lv_room (Nat.le_of_ble_eq_true rfl)) dX3_measure_16 ⟨Nat.le_of_ble_eq_true rfl, Nat.le_of_ble_eq_true rfl⟩) hD hS hA (fun r_5 u_6 H locs hp_4 hP hD hS => ?_)
        obtain ⟨mn9, er_mn9, hn_mn9, hM79, hq⟩ := hp_4
        have f_7 : u_6[q]? = some (am 0, .inr (3, [.ref (am 1), .ref (am 2), .ref (am 3), .ref (am 4), .ref (am 5), .ref (am 6), .int (nI mk), .ref (am 7), .ref (am 8), .ref (am 9)])) := by rw [hq _ (by omega)]; exact F2_0
        have f_8 : u_6[q + 1]? = some (am 1, .inl (k0 0, 8, .inl (fun y9 => nI (mv y9)))) := by rw [hq _ (by omega)]; exact F2_1
        have f_9 : u_6[q + 2]? = some (am 2, .inl (k0 0, 8, .inl (fun y9 => nI (mc y9)))) := by rw [hq _ (by omega)]; exact F2_2
        have f_10 : u_6[q + 3]? = some (am 3, .inl (k0 2, 8, .inl (fun y9 => nI (mo y9)))) := by rw [hq _ (by omega)]; exact F2_3
        have f_11 : u_6[q + 4]? = some (am 4, .inl (k0 0, 192, .inl (fun y9 => nI (me y9)))) := by rw [hq _ (by omega)]; exact F2_4
        have f_12 : u_6[q + 5]? = some (am 5, .inl (k0 0, 96, .inl mw)) := by rw [hq _ (by omega)]; exact F2_5
        have f_13 : u_6[q + 6]? = some (am 6, .inl (k0 0, 24, .inl (fun y9 => nI (mm y9)))) := by rw [hq _ (by omega)]; exact F2_6
        have f_14 : u_6[q + 7]? = some (am 7, .inl (k0 0, 32, .inl (fun y9 => nI (mn9 y9)))) := hM79
        have f_15 : u_6[q + 8]? = some (am 8, .inl (k0 3, 4096, .inl (fun y9 => nI (fb y9)))) := by rw [hq _ (by omega)]; exact F2_8
        have f_16 : u_6[q + 9]? = some (am 9, .inl (k0 3, 4096, .inl (fun y9 => nI (sb1 y9)))) := by rw [hq _ (by omega)]; exact F2_9
        have hfr : kx_fr w0 u_6 (fun j => j = q + 7 ∨ j = q + 9) := kx_fr_tr hfr (kx_fr_mono hq (fun j h => by omega))
        subst er_mn9
        refine lv_i2b (v := nI ((jn (mA me i) (mB me i) s9 (mc i)).2)) hx hb dX3_measure_19 (kb_i2b _ (by have := jn_le (mA me i) (mB me i) s9 (mc i); omega)) ?_
        refine kx_bnast hx hb hK hP hD hS (q + 9) f_16 rfl (i := s9) (x := ((jn (mA me i) (mB me i) s9 (mc i)).2)) (by omega) (by decide) (by have := jn_le (mA me i) (mB me i) s9 (mc i); omega) dX3_measure_20 (fun H locs hP hD hS => ?_)
        obtain ⟨w_17, ew_17⟩ : ∃ w, w = u_6.set (q + 9) (am 9, .inl (k0 3, 4096, .inl (fun y9 => nI ((fo_up sb1 s9 ((jn (mA me i) (mB me i) s9 (mc i)).2)) y9)))) := ⟨_, rfl⟩
        have hP : va_P D vwCl w_17 H := by rw [ew_17]; exact hP
        have hD : va_D A w_17 := by rw [ew_17]; exact hD
        have f_18 : w_17[q]? = some (am 0, .inr (3, [.ref (am 1), .ref (am 2), .ref (am 3), .ref (am 4), .ref (am 5), .ref (am 6), .int (nI mk), .ref (am 7), .ref (am 8), .ref (am 9)])) := by rw [ew_17]; exact kx_set_ne f_7 (by omega)
        have f_19 : w_17[q + 1]? = some (am 1, .inl (k0 0, 8, .inl (fun y9 => nI (mv y9)))) := by rw [ew_17]; exact kx_set_ne f_8 (by omega)
        have f_20 : w_17[q + 2]? = some (am 2, .inl (k0 0, 8, .inl (fun y9 => nI (mc y9)))) := by rw [ew_17]; exact kx_set_ne f_9 (by omega)
        have f_21 : w_17[q + 3]? = some (am 3, .inl (k0 2, 8, .inl (fun y9 => nI (mo y9)))) := by rw [ew_17]; exact kx_set_ne f_10 (by omega)
        have f_22 : w_17[q + 4]? = some (am 4, .inl (k0 0, 192, .inl (fun y9 => nI (me y9)))) := by rw [ew_17]; exact kx_set_ne f_11 (by omega)
        have f_23 : w_17[q + 5]? = some (am 5, .inl (k0 0, 96, .inl mw)) := by rw [ew_17]; exact kx_set_ne f_12 (by omega)
        have f_24 : w_17[q + 6]? = some (am 6, .inl (k0 0, 24, .inl (fun y9 => nI (mm y9)))) := by rw [ew_17]; exact kx_set_ne f_13 (by omega)
        have f_25 : w_17[q + 7]? = some (am 7, .inl (k0 0, 32, .inl (fun y9 => nI (mn9 y9)))) := by rw [ew_17]; exact kx_set_ne f_14 (by omega)
        have f_26 : w_17[q + 8]? = some (am 8, .inl (k0 3, 4096, .inl (fun y9 => nI (fb y9)))) := by rw [ew_17]; exact kx_set_ne f_15 (by omega)
        have f_27 : w_17[q + 9]? = some (am 9, .inl (k0 3, 4096, .inl (fun y9 => nI ((fo_up sb1 s9 ((jn (mA me i) (mB me i) s9 (mc i)).2)) y9)))) := by rw [ew_17]; exact kx_set_self f_16
        have hfr : kx_fr w0 w_17 (fun j => j = q + 7 ∨ j = q + 9) := kx_fr_tr hfr (by rw [ew_17]; exact kx_fr_set (by omega))
        refine lv_iinc (v := nI (s9 + 1)) (lv' := [(3, .int (nI (s9 + 1))), (0, .ref (am 0)), (1, .int (nI i)), (2, .ref (am 9))]) hx hb dX3_measure_21 hl (k := 0) rfl (nI_1 _) (by decide) rfl (fun ls hl => ?_)
        refine lv_goto (tgt := 2) hx hb dX3_measure_24 (by decide) ?_
        exact ih2 (s9 + 1) mn9 (fo_up sb1 s9 ((jn (mA me i) (mB me i) s9 (mc i)).2)) (by omega) (fun s h => by
            rcases Nat.lt_or_ge s s9 with h2 | h2
            · rw [fo_up_lt _ _ h2]; exact hfb s h2
            · rw [show s = s9 by omega, fo_up_self]) (by omega) w_17 f_18 f_19 f_20 f_21 f_22 f_23 f_24 f_25 f_26 f_27 hfr _ _ hP hD hS _ (lv_sub hl [0, 1, 2, 3] rfl)
  exact loop_2 (cf_full (mc i) + 2) 0 mn sb (by omega) (fun s h => absurd h (Nat.not_lt_zero s)) (by omega) w0 hM0 hM1 hM2 hM3 hM4 hM5 hM6 hM7 hM8 hM9 hfr _ _ hP hD hS _ (lv_sub hl [0, 1, 2, 3] rfl)

theorem mAB_lt {me : Nat → Nat} {i n : Nat} (h : ∀ e, e < n → me (24 * i + 2 * e) < 24 ∧ me (24 * i + 2 * e + 1) < 24) : (∀ e, e < n → mA me i e < 32) ∧ ∀ e, e < n → mB me i e < 32 := ⟨fun e he => by have := h e he; unfold mA; omega, fun e he => by have := h e he; unfold mB; omega⟩

set_option maxHeartbeats 4000000 in
set_option maxRecDepth 100000 in
/-- the model: rank -/
theorem m_rank (l : Launch) (D : va_G) (k0 : Nat → ClassId)  (w0 : va_W) (sz : Nat) (q : Nat) (am mv mc mo me : Nat → Nat) (mw : Nat → Int32) (mm : Nat → Nat) (mk : Nat) (mn fb sb : Nat → Nat) (hM : atM w0 q k0 am mv mc mo me mw mm mk mn fb sb) (hI : minv mv mc mo me mw) (x y : Int32) : kx_i l yX3_rank wsX3_rank ({ frames := 2, cells := 0, slots := 0, locals := 48 } : Room) D (tyL k0) w0 sz [.ref (am 0), .int x, .int y] (fun (r : Int32) (u : va_W) => ((∃ i S, i < 8 ∧ S ≤ cf_full (mc i) ∧ x = nI i ∧ y = nI S ∧ r = nI (cf_rk (jl (mA me i) (mB me i)) (mc i) S)) ∨ (¬ (∃ i S, i < 8 ∧ S ≤ cf_full (mc i) ∧ x = nI i ∧ y = nI S) ∧ r = -1)) ∧ (∃ mn9, atM u q k0 am mv mc mo me mw mm mk mn9 fb sb) ∧ kx_fr w0 u (fun j => q ≤ j ∧ j < q + 10)) 0 0 := by
  refine kx_of (Qf := fun A => va_Qi (fun (r : Int32) (u : va_W) => ((∃ i S, i < 8 ∧ S ≤ cf_full (mc i) ∧ x = nI i ∧ y = nI S ∧ r = nI (cf_rk (jl (mA me i) (mB me i)) (mc i) S)) ∨ (¬ (∃ i S, i < 8 ∧ S ≤ cf_full (mc i) ∧ x = nI i ∧ y = nI S) ∧ r = -1)) ∧ (∃ mn9, atM u q k0 am mv mc mo me mw mm mk mn9 fb sb) ∧ kx_fr w0 u (fun j => q ≤ j ∧ j < q + 10)) (kx_B D (tyL k0) A) A) (cc := cX3_rank) (maxL := 3) (ret := (some .int)) (by decide +kernel) (Nat.le_of_ble_eq_true rfl) ?_
  intro p e s m below meth c A ls hx hb hml hown hts hr hlocks hnm hN hK hP hD hS hA hl
  have hown : s.vm.findClass RX3 = some m.cls := hown
  have hl : lv_has ls 3 [(0, .ref (am 0)), (1, .int x), (2, .int y)] := hl
  skip
  obtain ⟨hM0, hM1, hM2, hM3, hM4, hM5, hM6, hM7, hM8, hM9⟩ := id hM
  refine lv_aload_n hx hb dX3_rank_0 rfl (lv_at hl 0 rfl) ?_
  refine lv_iload_n hx hb dX3_rank_1 rfl (lv_at hl 1 rfl) ?_
  refine lv_iload_n hx hb dX3_rank_2 rfl (lv_at hl 2 rfl) ?_
  refine kx_goi (va_runV (As := [.int x, .int y]) (rest := []) ⟨hx, hb, hml, hown, hts⟩ (m_isSet l D k0 w0 _ q am mv mc mo me mw mm mk mn fb sb ⟨hM0, hM1, hM2, hM3, hM4, hM5, hM6, hM7, hM8, hM9⟩ hI x y) ⟨(kg_B (k := 2) hts tw_309 tw_306 tw_22 (by decide +kernel) rfl rfl ⟨Nat.le_of_ble_eq_true rfl, Nat.le_of_ble_eq_true rfl⟩), hts _ tw_308, hts _ tw_9⟩ (kx_preV hN hK hP hD rfl hM0) rfl rfl hl.1 rfl (lv_room (Nat.le_of_ble_eq_true rfl)) dX3_rank_3 ⟨Nat.le_of_ble_eq_true rfl, Nat.le_of_ble_eq_true rfl⟩) hD hS hA (fun r_2 u_3 H locs hp_1 hP hD hS => ?_)
  obtain ⟨hy_, eu⟩ := hp_1
  rw [eu] at hP hD
  refine lv_if_eq (tgt := 18) hx hb dX3_rank_6 (by decide) (fun c_6 => ?_) (fun c_6 => ?_)
  · skip
    have hno := kg_0 hy_ c_6
    refine lv_iconst (v := -1) hx hb dX3_rank_18 (by decide +kernel) ?_
    exact kx_iret (v := -1) hx hb hr rfl hlocks hK hP hD hS dX3_rank_19 (by first | exact ⟨Or.inr ⟨hno, rfl⟩, ⟨mn, hM⟩, kx_fr_rf _ _⟩ | exact ⟨Or.inl ⟨i, S, h8i, hSS, e_x, e_y, by rw [jn_rk S (mAB_lt he2i).1 (mAB_lt he2i).2]⟩, ⟨mn9, ⟨(by rw [hq _ (by omega)]; exact hM0), (by rw [hq _ (by omega)]; exact hM1), (by rw [hq _ (by omega)]; exact hM2), (by rw [hq _ (by omega)]; exact hM3), (by rw [hq _ (by omega)]; exact hM4), (by rw [hq _ (by omega)]; exact hM5), (by rw [hq _ (by omega)]; exact hM6), h79, (by rw [hq _ (by omega)]; exact hM8), (by rw [hq _ (by omega)]; exact hM9)⟩⟩, kx_fr_mono hq (fun j h => by omega)⟩)
  · skip
    obtain ⟨i, S, h8i, hSS, e_x, e_y⟩ := kg_1 hy_ c_6
    rw [e_x, e_y] at hl
    obtain ⟨hni, hvi, hoi, he2i, hw2i⟩ := hI i h8i
    have hfl := kb_full_lt hni
    refine lv_aload_n hx hb dX3_rank_9 rfl (lv_at hl 0 rfl) ?_
    refine lv_iload_n hx hb dX3_rank_10 rfl (lv_at hl 1 rfl) ?_
    refine lv_iload_n hx hb dX3_rank_11 rfl (lv_at hl 2 rfl) ?_
    refine kx_goi (va_runV (As := [.int (nI i), .int (nI S)]) (rest := []) ⟨hx, hb, hml, hown, hts⟩ (m_join l D k0 w0 _ q am mv mc mo me mw mm mk mn fb sb ⟨hM0, hM1, hM2, hM3, hM4, hM5, hM6, hM7, hM8, hM9⟩ hI i S h8i (by omega)) ⟨(kg_B (k := 2) hts tw_317 tw_314 tw_22 (by decide +kernel) rfl rfl ⟨Nat.le_of_ble_eq_true rfl, Nat.le_of_ble_eq_true rfl⟩), hts _ tw_316, hts _ tw_11⟩ (kx_preV hN hK hP hD rfl hM0) rfl rfl hl.1 rfl (lv_room (Nat.le_of_ble_eq_true rfl)) dX3_rank_12 ⟨Nat.le_of_ble_eq_true rfl, Nat.le_of_ble_eq_true rfl⟩) hD hS hA (fun r_5 u_6 H locs hp_4 hP hD hS => ?_)
    obtain ⟨mn9, er, hn9, h79, hq⟩ := hp_4
    subst er
    refine lv_goto (tgt := 19) hx hb dX3_rank_15 (by decide) ?_
    exact kx_iret (v := nI ((jn (mA me i) (mB me i) S (mc i)).2)) hx hb hr rfl hlocks hK hP hD hS dX3_rank_19 (by first | exact ⟨Or.inr ⟨hno, rfl⟩, ⟨mn, hM⟩, kx_fr_rf _ _⟩ | exact ⟨Or.inl ⟨i, S, h8i, hSS, e_x, e_y, by rw [jn_rk S (mAB_lt he2i).1 (mAB_lt he2i).2]⟩, ⟨mn9, ⟨(by rw [hq _ (by omega)]; exact hM0), (by rw [hq _ (by omega)]; exact hM1), (by rw [hq _ (by omega)]; exact hM2), (by rw [hq _ (by omega)]; exact hM3), (by rw [hq _ (by omega)]; exact hM4), (by rw [hq _ (by omega)]; exact hM5), (by rw [hq _ (by omega)]; exact hM6), h79, (by rw [hq _ (by omega)]; exact hM8), (by rw [hq _ (by omega)]; exact hM9)⟩⟩, kx_fr_mono hq (fun j h => by omega)⟩)

set_option maxHeartbeats 4000000 in
set_option maxRecDepth 100000 in
/-- the model: lay -/
theorem m_lay (l : Launch) (D : va_G) (k0 : Nat → ClassId)  (w0 : va_W) (sz : Nat) (q : Nat) (am mv mc mo me : Nat → Nat) (mw : Nat → Int32) (mm : Nat → Nat) (mk : Nat) (mn fb sb : Nat → Nat) (hM : atM w0 q k0 am mv mc mo me mw mm mk mn fb sb) (a b : Nat) (hk : mk < 12) : kx_v l yX3_lay wsX3_lay ({ frames := 0, cells := 0, slots := 0, locals := 0 } : Room) D (tyL k0) w0 sz [.ref (am 0), .int (nI a), .int (nI b)] (fun (u : va_W) => atM u q k0 am mv mc mo me mw (fo_up (fo_up mm (2 * mk) a) (2 * mk + 1) b) (mk + 1) mn fb sb ∧ kx_fr w0 u (fun j => j = q ∨ j = q + 6)) 0 0 := by
  refine kx_of (Qf := fun A => va_Qv (fun (u : va_W) => atM u q k0 am mv mc mo me mw (fo_up (fo_up mm (2 * mk) a) (2 * mk + 1) b) (mk + 1) mn fb sb ∧ kx_fr w0 u (fun j => j = q ∨ j = q + 6)) (kx_B D (tyL k0) A) A) (cc := cX3_lay) (maxL := 3) (ret := none) (by decide +kernel) (Nat.le_of_ble_eq_true rfl) ?_
  intro p e s m below meth c A ls hx hb hml hown hts hr hlocks hnm hN hK hP hD hS hA hl
  have hown : s.vm.findClass RX3 = some m.cls := hown
  have hl : lv_has ls 3 [(0, .ref (am 0)), (1, .int (nI a)), (2, .int (nI b))] := hl
  have hfr : kx_fr w0 w0 (fun j => j = q ∨ j = q + 6) := kx_fr_rf _ _
  obtain ⟨hM0, hM1, hM2, hM3, hM4, hM5, hM6, hM7, hM8, hM9⟩ := id hM
  refine lv_aload_n hx hb dX3_lay_0 rfl (lv_at hl 0 rfl) ?_
  refine va_get (D := D) (ci := 3) (v := .ref (am 6)) (C := RX3) (T := TX3) (N := 10) hx hb hts inX3 hown hK hP q hM0 rfl 5 (by decide) (hts _ tw_255) (fun _ h9 => h9) rfl dX3_lay_1 ?_
  refine lv_iconst (v := nI 2) hx hb dX3_lay_4 (by decide +kernel) ?_
  refine lv_aload_n hx hb dX3_lay_5 rfl (lv_at hl 0 rfl) ?_
  refine va_get (D := D) (ci := 3) (v := .int (nI mk)) (C := RX3) (T := TX3) (N := 10) hx hb hts inX3 hown hK hP q hM0 rfl 6 (by decide) (hts _ tw_256) (fun _ h9 => h9) rfl dX3_lay_6 ?_
  refine lv_imul hx hb dX3_lay_9 ?_
  refine lv_topi (fun z_1 ez_1 => ?_)
  have ez_1 : z_1 = nI (2 * mk) := by rw [ez_1]; exact pk_mul _ _
  subst ez_1
  refine lv_iload_n hx hb dX3_lay_10 rfl (lv_at hl 1 rfl) ?_
  refine kx_nast hx hb hK hP hD hS (q + 6) hM6 rfl (i := (2 * mk)) (x := a) (by omega) (by decide) dX3_lay_11 (fun H locs hP hD hS => ?_)
  obtain ⟨w_2, ew_2⟩ : ∃ w, w = w0.set (q + 6) (am 6, .inl (k0 0, 24, .inl (fun y9 => nI ((fo_up mm (2 * mk) a) y9)))) := ⟨_, rfl⟩
  have hP : va_P D vwCl w_2 H := by rw [ew_2]; exact hP
  have hD : va_D A w_2 := by rw [ew_2]; exact hD
  have f_3 : w_2[q]? = some (am 0, .inr (3, [.ref (am 1), .ref (am 2), .ref (am 3), .ref (am 4), .ref (am 5), .ref (am 6), .int (nI mk), .ref (am 7), .ref (am 8), .ref (am 9)])) := by rw [ew_2]; exact kx_set_ne hM0 (by omega)
  have f_4 : w_2[q + 1]? = some (am 1, .inl (k0 0, 8, .inl (fun y9 => nI (mv y9)))) := by rw [ew_2]; exact kx_set_ne hM1 (by omega)
  have f_5 : w_2[q + 2]? = some (am 2, .inl (k0 0, 8, .inl (fun y9 => nI (mc y9)))) := by rw [ew_2]; exact kx_set_ne hM2 (by omega)
  have f_6 : w_2[q + 3]? = some (am 3, .inl (k0 2, 8, .inl (fun y9 => nI (mo y9)))) := by rw [ew_2]; exact kx_set_ne hM3 (by omega)
  have f_7 : w_2[q + 4]? = some (am 4, .inl (k0 0, 192, .inl (fun y9 => nI (me y9)))) := by rw [ew_2]; exact kx_set_ne hM4 (by omega)
  have f_8 : w_2[q + 5]? = some (am 5, .inl (k0 0, 96, .inl mw)) := by rw [ew_2]; exact kx_set_ne hM5 (by omega)
  have f_9 : w_2[q + 6]? = some (am 6, .inl (k0 0, 24, .inl (fun y9 => nI ((fo_up mm (2 * mk) a) y9)))) := by rw [ew_2]; exact kx_set_self hM6
  have f_10 : w_2[q + 7]? = some (am 7, .inl (k0 0, 32, .inl (fun y9 => nI (mn y9)))) := by rw [ew_2]; exact kx_set_ne hM7 (by omega)
  have f_11 : w_2[q + 8]? = some (am 8, .inl (k0 3, 4096, .inl (fun y9 => nI (fb y9)))) := by rw [ew_2]; exact kx_set_ne hM8 (by omega)
  have f_12 : w_2[q + 9]? = some (am 9, .inl (k0 3, 4096, .inl (fun y9 => nI (sb y9)))) := by rw [ew_2]; exact kx_set_ne hM9 (by omega)
  have hfr : kx_fr w0 w_2 (fun j => j = q ∨ j = q + 6) := kx_fr_tr hfr (by rw [ew_2]; exact kx_fr_set (by omega))
  refine lv_aload_n hx hb dX3_lay_12 rfl (lv_at hl 0 rfl) ?_
  refine va_get (D := D) (ci := 3) (v := .ref (am 6)) (C := RX3) (T := TX3) (N := 10) hx hb hts inX3 hown hK hP q f_3 rfl 5 (by decide) (hts _ tw_255) (fun _ h9 => h9) rfl dX3_lay_13 ?_
  refine lv_iconst (v := nI 2) hx hb dX3_lay_16 (by decide +kernel) ?_
  refine lv_aload_n hx hb dX3_lay_17 rfl (lv_at hl 0 rfl) ?_
  refine va_get (D := D) (ci := 3) (v := .int (nI mk)) (C := RX3) (T := TX3) (N := 10) hx hb hts inX3 hown hK hP q f_3 rfl 6 (by decide) (hts _ tw_256) (fun _ h9 => h9) rfl dX3_lay_18 ?_
  refine lv_imul hx hb dX3_lay_21 ?_
  refine lv_topi (fun z_13 ez_13 => ?_)
  have ez_13 : z_13 = nI (2 * mk) := by rw [ez_13]; exact pk_mul _ _
  subst ez_13
  refine lv_iconst (v := nI 1) hx hb dX3_lay_22 (by decide +kernel) ?_
  refine lv_iadd hx hb dX3_lay_23 ?_
  refine lv_topi (fun z_14 ez_14 => ?_)
  have ez_14 : z_14 = nI (2 * mk + 1) := by rw [ez_14]; exact nI_add _ _
  subst ez_14
  refine lv_iload_n hx hb dX3_lay_24 rfl (lv_at hl 2 rfl) ?_
  refine kx_nast hx hb hK hP hD hS (q + 6) f_9 rfl (i := (2 * mk + 1)) (x := b) (by omega) (by decide) dX3_lay_25 (fun H locs hP hD hS => ?_)
  obtain ⟨w_15, ew_15⟩ : ∃ w, w = w_2.set (q + 6) (am 6, .inl (k0 0, 24, .inl (fun y9 => nI ((fo_up (fo_up mm (2 * mk) a) (2 * mk + 1) b) y9)))) := ⟨_, rfl⟩
  have hP : va_P D vwCl w_15 H := by rw [ew_15]; exact hP
  have hD : va_D A w_15 := by rw [ew_15]; exact hD
  have f_16 : w_15[q]? = some (am 0, .inr (3, [.ref (am 1), .ref (am 2), .ref (am 3), .ref (am 4), .ref (am 5), .ref (am 6), .int (nI mk), .ref (am 7), .ref (am 8), .ref (am 9)])) := by rw [ew_15]; exact kx_set_ne f_3 (by omega)
  have f_17 : w_15[q + 1]? = some (am 1, .inl (k0 0, 8, .inl (fun y9 => nI (mv y9)))) := by rw [ew_15]; exact kx_set_ne f_4 (by omega)
  have f_18 : w_15[q + 2]? = some (am 2, .inl (k0 0, 8, .inl (fun y9 => nI (mc y9)))) := by rw [ew_15]; exact kx_set_ne f_5 (by omega)
  have f_19 : w_15[q + 3]? = some (am 3, .inl (k0 2, 8, .inl (fun y9 => nI (mo y9)))) := by rw [ew_15]; exact kx_set_ne f_6 (by omega)
  have f_20 : w_15[q + 4]? = some (am 4, .inl (k0 0, 192, .inl (fun y9 => nI (me y9)))) := by rw [ew_15]; exact kx_set_ne f_7 (by omega)
  have f_21 : w_15[q + 5]? = some (am 5, .inl (k0 0, 96, .inl mw)) := by rw [ew_15]; exact kx_set_ne f_8 (by omega)
  have f_22 : w_15[q + 6]? = some (am 6, .inl (k0 0, 24, .inl (fun y9 => nI ((fo_up (fo_up mm (2 * mk) a) (2 * mk + 1) b) y9)))) := by rw [ew_15]; exact kx_set_self f_9
  have f_23 : w_15[q + 7]? = some (am 7, .inl (k0 0, 32, .inl (fun y9 => nI (mn y9)))) := by rw [ew_15]; exact kx_set_ne f_10 (by omega)
  have f_24 : w_15[q + 8]? = some (am 8, .inl (k0 3, 4096, .inl (fun y9 => nI (fb y9)))) := by rw [ew_15]; exact kx_set_ne f_11 (by omega)
  have f_25 : w_15[q + 9]? = some (am 9, .inl (k0 3, 4096, .inl (fun y9 => nI (sb y9)))) := by rw [ew_15]; exact kx_set_ne f_12 (by omega)
  have hfr : kx_fr w0 w_15 (fun j => j = q ∨ j = q + 6) := kx_fr_tr hfr (by rw [ew_15]; exact kx_fr_set (by omega))
  refine lv_aload_n hx hb dX3_lay_26 rfl (lv_at hl 0 rfl) ?_
  refine lv_dup hx hb dX3_lay_27 rfl ?_
  refine va_get (D := D) (ci := 3) (v := .int (nI mk)) (C := RX3) (T := TX3) (N := 10) hx hb hts inX3 hown hK hP q f_16 rfl 6 (by decide) (hts _ tw_256) (fun _ h9 => h9) rfl dX3_lay_28 ?_
  refine lv_iconst (v := nI 1) hx hb dX3_lay_31 (by decide +kernel) ?_
  refine lv_iadd hx hb dX3_lay_32 ?_
  refine lv_topi (fun z_26 ez_26 => ?_)
  have ez_26 : z_26 = nI (mk + 1) := by rw [ez_26]; exact nI_add _ _
  subst ez_26
  refine va_put (D := D) (ci := 3) (v := .int (nI (mk + 1))) (ty := .int) (C := RX3) (T := TX3) (N := 10) hx hb hts inX3 tyX3 tyX3_ok nmX3 hown hK hP hD hS q f_16 rfl 6 (by decide) (hts _ tw_256) (fun _ h9 => h9) rfl (by decide +kernel) rfl rfl (Nat.le_of_ble_eq_true rfl) dX3_lay_33 (fun H locs hP hD hS => ?_)
  obtain ⟨w_27, ew_27⟩ : ∃ w, w = w_15.set q (am 0, .inr (3, [.ref (am 1), .ref (am 2), .ref (am 3), .ref (am 4), .ref (am 5), .ref (am 6), .int (nI (mk + 1)), .ref (am 7), .ref (am 8), .ref (am 9)])) := ⟨_, rfl⟩
  have hP : va_P D vwCl w_27 H := by rw [ew_27]; exact hP
  have hD : va_D A w_27 := by rw [ew_27]; exact hD
  have f_28 : w_27[q]? = some (am 0, .inr (3, [.ref (am 1), .ref (am 2), .ref (am 3), .ref (am 4), .ref (am 5), .ref (am 6), .int (nI (mk + 1)), .ref (am 7), .ref (am 8), .ref (am 9)])) := by rw [ew_27]; exact kx_set_self f_16
  have f_29 : w_27[q + 1]? = some (am 1, .inl (k0 0, 8, .inl (fun y9 => nI (mv y9)))) := by rw [ew_27]; exact kx_set_ne f_17 (by omega)
  have f_30 : w_27[q + 2]? = some (am 2, .inl (k0 0, 8, .inl (fun y9 => nI (mc y9)))) := by rw [ew_27]; exact kx_set_ne f_18 (by omega)
  have f_31 : w_27[q + 3]? = some (am 3, .inl (k0 2, 8, .inl (fun y9 => nI (mo y9)))) := by rw [ew_27]; exact kx_set_ne f_19 (by omega)
  have f_32 : w_27[q + 4]? = some (am 4, .inl (k0 0, 192, .inl (fun y9 => nI (me y9)))) := by rw [ew_27]; exact kx_set_ne f_20 (by omega)
  have f_33 : w_27[q + 5]? = some (am 5, .inl (k0 0, 96, .inl mw)) := by rw [ew_27]; exact kx_set_ne f_21 (by omega)
  have f_34 : w_27[q + 6]? = some (am 6, .inl (k0 0, 24, .inl (fun y9 => nI ((fo_up (fo_up mm (2 * mk) a) (2 * mk + 1) b) y9)))) := by rw [ew_27]; exact kx_set_ne f_22 (by omega)
  have f_35 : w_27[q + 7]? = some (am 7, .inl (k0 0, 32, .inl (fun y9 => nI (mn y9)))) := by rw [ew_27]; exact kx_set_ne f_23 (by omega)
  have f_36 : w_27[q + 8]? = some (am 8, .inl (k0 3, 4096, .inl (fun y9 => nI (fb y9)))) := by rw [ew_27]; exact kx_set_ne f_24 (by omega)
  have f_37 : w_27[q + 9]? = some (am 9, .inl (k0 3, 4096, .inl (fun y9 => nI (sb y9)))) := by rw [ew_27]; exact kx_set_ne f_25 (by omega)
  have hfr : kx_fr w0 w_27 (fun j => j = q ∨ j = q + 6) := kx_fr_tr hfr (by rw [ew_27]; exact kx_fr_set (by omega))
  exact kx_vret hx hb hr hlocks hK hP hD hS dX3_lay_36 (⟨⟨f_28, f_29, f_30, f_31, f_32, f_33, f_34, f_35, f_36, f_37⟩, hfr⟩)

set_option maxHeartbeats 4000000 in
set_option maxRecDepth 100000 in
/-- the model: keep -/
theorem m_keep (l : Launch) (D : va_G) (k0 : Nat → ClassId)  (w0 : va_W) (sz : Nat) (q : Nat) (am mv mc mo me : Nat → Nat) (mw : Nat → Int32) (mm : Nat → Nat) (mk : Nat) (mn fb sb : Nat → Nat) (hM : atM w0 q k0 am mv mc mo me mw mm mk mn fb sb) (i v : Nat) (h8i : i < 8) (hk : mk ≤ 12) : kx_i l yX3_keep wsX3_keep ({ frames := 0, cells := 0, slots := 0, locals := 0 } : Room) D (tyL k0) w0 sz [.ref (am 0), .int (nI i), .int (nI v)] (fun (r : Int32) (u : va_W) => r = nI mk ∧ (∃ (me9 : Nat → Nat) (mw9 : Nat → Int32), atM u q k0 am (fo_up mv i v) (fo_up mc i mk) (fo_up mo i 0) me9 mw9 mm mk mn fb sb ∧ (∀ e, e < mk → me9 (24 * i + 2 * e) = mm (2 * e) ∧ me9 (24 * i + 2 * e + 1) = mm (2 * e + 1) ∧ mw9 (12 * i + e) = 0) ∧ (∀ k, k < 24 * i ∨ 24 * i + 24 ≤ k → me9 k = me k) ∧ (∀ k, k < 12 * i ∨ 12 * i + 12 ≤ k → mw9 k = mw k)) ∧ kx_fr w0 u (fun j => q ≤ j ∧ j < q + 10)) 0 0 := by
  refine kx_of (Qf := fun A => va_Qi (fun (r : Int32) (u : va_W) => r = nI mk ∧ (∃ (me9 : Nat → Nat) (mw9 : Nat → Int32), atM u q k0 am (fo_up mv i v) (fo_up mc i mk) (fo_up mo i 0) me9 mw9 mm mk mn fb sb ∧ (∀ e, e < mk → me9 (24 * i + 2 * e) = mm (2 * e) ∧ me9 (24 * i + 2 * e + 1) = mm (2 * e + 1) ∧ mw9 (12 * i + e) = 0) ∧ (∀ k, k < 24 * i ∨ 24 * i + 24 ≤ k → me9 k = me k) ∧ (∀ k, k < 12 * i ∨ 12 * i + 12 ≤ k → mw9 k = mw k)) ∧ kx_fr w0 u (fun j => q ≤ j ∧ j < q + 10)) (kx_B D (tyL k0) A) A) (cc := cX3_keep) (maxL := 4) (ret := (some .int)) (by decide +kernel) (Nat.le_of_ble_eq_true rfl) ?_
  intro p e s m below meth c A ls hx hb hml hown hts hr hlocks hnm hN hK hP hD hS hA hl
  have hown : s.vm.findClass RX3 = some m.cls := hown
  have hl : lv_has ls 4 [(0, .ref (am 0)), (1, .int (nI i)), (2, .int (nI v))] := hl
  have hfr : kx_fr w0 w0 (fun j => q ≤ j ∧ j < q + 10) := kx_fr_rf _ _
  obtain ⟨hM0, hM1, hM2, hM3, hM4, hM5, hM6, hM7, hM8, hM9⟩ := id hM
  refine lv_aload_n hx hb dX3_keep_0 rfl (lv_at hl 0 rfl) ?_
  refine va_get (D := D) (ci := 3) (v := .ref (am 1)) (C := RX3) (T := TX3) (N := 10) hx hb hts inX3 hown hK hP q hM0 rfl 0 (by decide) (hts _ tw_250) (fun _ h9 => h9) rfl dX3_keep_1 ?_
  refine lv_iload_n hx hb dX3_keep_4 rfl (lv_at hl 1 rfl) ?_
  refine lv_iload_n hx hb dX3_keep_5 rfl (lv_at hl 2 rfl) ?_
  refine kx_nast hx hb hK hP hD hS (q + 1) hM1 rfl (i := i) (x := v) (by omega) (by decide) dX3_keep_6 (fun H locs hP hD hS => ?_)
  obtain ⟨w_1, ew_1⟩ : ∃ w, w = w0.set (q + 1) (am 1, .inl (k0 0, 8, .inl (fun y9 => nI ((fo_up mv i v) y9)))) := ⟨_, rfl⟩
  have hP : va_P D vwCl w_1 H := by rw [ew_1]; exact hP
  have hD : va_D A w_1 := by rw [ew_1]; exact hD
  have f_2 : w_1[q]? = some (am 0, .inr (3, [.ref (am 1), .ref (am 2), .ref (am 3), .ref (am 4), .ref (am 5), .ref (am 6), .int (nI mk), .ref (am 7), .ref (am 8), .ref (am 9)])) := by rw [ew_1]; exact kx_set_ne hM0 (by omega)
  have f_3 : w_1[q + 1]? = some (am 1, .inl (k0 0, 8, .inl (fun y9 => nI ((fo_up mv i v) y9)))) := by rw [ew_1]; exact kx_set_self hM1
  have f_4 : w_1[q + 2]? = some (am 2, .inl (k0 0, 8, .inl (fun y9 => nI (mc y9)))) := by rw [ew_1]; exact kx_set_ne hM2 (by omega)
  have f_5 : w_1[q + 3]? = some (am 3, .inl (k0 2, 8, .inl (fun y9 => nI (mo y9)))) := by rw [ew_1]; exact kx_set_ne hM3 (by omega)
  have f_6 : w_1[q + 4]? = some (am 4, .inl (k0 0, 192, .inl (fun y9 => nI (me y9)))) := by rw [ew_1]; exact kx_set_ne hM4 (by omega)
  have f_7 : w_1[q + 5]? = some (am 5, .inl (k0 0, 96, .inl mw)) := by rw [ew_1]; exact kx_set_ne hM5 (by omega)
  have f_8 : w_1[q + 6]? = some (am 6, .inl (k0 0, 24, .inl (fun y9 => nI (mm y9)))) := by rw [ew_1]; exact kx_set_ne hM6 (by omega)
  have f_9 : w_1[q + 7]? = some (am 7, .inl (k0 0, 32, .inl (fun y9 => nI (mn y9)))) := by rw [ew_1]; exact kx_set_ne hM7 (by omega)
  have f_10 : w_1[q + 8]? = some (am 8, .inl (k0 3, 4096, .inl (fun y9 => nI (fb y9)))) := by rw [ew_1]; exact kx_set_ne hM8 (by omega)
  have f_11 : w_1[q + 9]? = some (am 9, .inl (k0 3, 4096, .inl (fun y9 => nI (sb y9)))) := by rw [ew_1]; exact kx_set_ne hM9 (by omega)
  have hfr : kx_fr w0 w_1 (fun j => q ≤ j ∧ j < q + 10) := kx_fr_tr hfr (by rw [ew_1]; exact kx_fr_set (by omega))
  refine lv_aload_n hx hb dX3_keep_7 rfl (lv_at hl 0 rfl) ?_
  refine va_get (D := D) (ci := 3) (v := .ref (am 3)) (C := RX3) (T := TX3) (N := 10) hx hb hts inX3 hown hK hP q f_2 rfl 2 (by decide) (hts _ tw_252) (fun _ h9 => h9) rfl dX3_keep_8 ?_
  refine lv_iload_n hx hb dX3_keep_11 rfl (lv_at hl 1 rfl) ?_
  refine lv_iconst (v := nI 0) hx hb dX3_keep_12 (by decide +kernel) ?_
  refine kx_znast hx hb hK hP hD hS (q + 3) f_5 rfl (i := i) (x := 0) (by omega) (by decide) (by decide) dX3_keep_13 (fun H locs hP hD hS => ?_)
  obtain ⟨w_12, ew_12⟩ : ∃ w, w = w_1.set (q + 3) (am 3, .inl (k0 2, 8, .inl (fun y9 => nI ((fo_up mo i 0) y9)))) := ⟨_, rfl⟩
  have hP : va_P D vwCl w_12 H := by rw [ew_12]; exact hP
  have hD : va_D A w_12 := by rw [ew_12]; exact hD
  have f_13 : w_12[q]? = some (am 0, .inr (3, [.ref (am 1), .ref (am 2), .ref (am 3), .ref (am 4), .ref (am 5), .ref (am 6), .int (nI mk), .ref (am 7), .ref (am 8), .ref (am 9)])) := by rw [ew_12]; exact kx_set_ne f_2 (by omega)
  have f_14 : w_12[q + 1]? = some (am 1, .inl (k0 0, 8, .inl (fun y9 => nI ((fo_up mv i v) y9)))) := by rw [ew_12]; exact kx_set_ne f_3 (by omega)
  have f_15 : w_12[q + 2]? = some (am 2, .inl (k0 0, 8, .inl (fun y9 => nI (mc y9)))) := by rw [ew_12]; exact kx_set_ne f_4 (by omega)
  have f_16 : w_12[q + 3]? = some (am 3, .inl (k0 2, 8, .inl (fun y9 => nI ((fo_up mo i 0) y9)))) := by rw [ew_12]; exact kx_set_self f_5
  have f_17 : w_12[q + 4]? = some (am 4, .inl (k0 0, 192, .inl (fun y9 => nI (me y9)))) := by rw [ew_12]; exact kx_set_ne f_6 (by omega)
  have f_18 : w_12[q + 5]? = some (am 5, .inl (k0 0, 96, .inl mw)) := by rw [ew_12]; exact kx_set_ne f_7 (by omega)
  have f_19 : w_12[q + 6]? = some (am 6, .inl (k0 0, 24, .inl (fun y9 => nI (mm y9)))) := by rw [ew_12]; exact kx_set_ne f_8 (by omega)
  have f_20 : w_12[q + 7]? = some (am 7, .inl (k0 0, 32, .inl (fun y9 => nI (mn y9)))) := by rw [ew_12]; exact kx_set_ne f_9 (by omega)
  have f_21 : w_12[q + 8]? = some (am 8, .inl (k0 3, 4096, .inl (fun y9 => nI (fb y9)))) := by rw [ew_12]; exact kx_set_ne f_10 (by omega)
  have f_22 : w_12[q + 9]? = some (am 9, .inl (k0 3, 4096, .inl (fun y9 => nI (sb y9)))) := by rw [ew_12]; exact kx_set_ne f_11 (by omega)
  have hfr : kx_fr w0 w_12 (fun j => q ≤ j ∧ j < q + 10) := kx_fr_tr hfr (by rw [ew_12]; exact kx_fr_set (by omega))
  refine lv_aload_n hx hb dX3_keep_14 rfl (lv_at hl 0 rfl) ?_
  refine va_get (D := D) (ci := 3) (v := .ref (am 2)) (C := RX3) (T := TX3) (N := 10) hx hb hts inX3 hown hK hP q f_13 rfl 1 (by decide) (hts _ tw_251) (fun _ h9 => h9) rfl dX3_keep_15 ?_
  refine lv_iload_n hx hb dX3_keep_18 rfl (lv_at hl 1 rfl) ?_
  refine lv_aload_n hx hb dX3_keep_19 rfl (lv_at hl 0 rfl) ?_
  refine va_get (D := D) (ci := 3) (v := .int (nI mk)) (C := RX3) (T := TX3) (N := 10) hx hb hts inX3 hown hK hP q f_13 rfl 6 (by decide) (hts _ tw_256) (fun _ h9 => h9) rfl dX3_keep_20 ?_
  refine kx_nast hx hb hK hP hD hS (q + 2) f_15 rfl (i := i) (x := mk) (by omega) (by decide) dX3_keep_23 (fun H locs hP hD hS => ?_)
  obtain ⟨w_23, ew_23⟩ : ∃ w, w = w_12.set (q + 2) (am 2, .inl (k0 0, 8, .inl (fun y9 => nI ((fo_up mc i mk) y9)))) := ⟨_, rfl⟩
  have hP : va_P D vwCl w_23 H := by rw [ew_23]; exact hP
  have hD : va_D A w_23 := by rw [ew_23]; exact hD
  have f_24 : w_23[q]? = some (am 0, .inr (3, [.ref (am 1), .ref (am 2), .ref (am 3), .ref (am 4), .ref (am 5), .ref (am 6), .int (nI mk), .ref (am 7), .ref (am 8), .ref (am 9)])) := by rw [ew_23]; exact kx_set_ne f_13 (by omega)
  have f_25 : w_23[q + 1]? = some (am 1, .inl (k0 0, 8, .inl (fun y9 => nI ((fo_up mv i v) y9)))) := by rw [ew_23]; exact kx_set_ne f_14 (by omega)
  have f_26 : w_23[q + 2]? = some (am 2, .inl (k0 0, 8, .inl (fun y9 => nI ((fo_up mc i mk) y9)))) := by rw [ew_23]; exact kx_set_self f_15
  have f_27 : w_23[q + 3]? = some (am 3, .inl (k0 2, 8, .inl (fun y9 => nI ((fo_up mo i 0) y9)))) := by rw [ew_23]; exact kx_set_ne f_16 (by omega)
  have f_28 : w_23[q + 4]? = some (am 4, .inl (k0 0, 192, .inl (fun y9 => nI (me y9)))) := by rw [ew_23]; exact kx_set_ne f_17 (by omega)
  have f_29 : w_23[q + 5]? = some (am 5, .inl (k0 0, 96, .inl mw)) := by rw [ew_23]; exact kx_set_ne f_18 (by omega)
  have f_30 : w_23[q + 6]? = some (am 6, .inl (k0 0, 24, .inl (fun y9 => nI (mm y9)))) := by rw [ew_23]; exact kx_set_ne f_19 (by omega)
  have f_31 : w_23[q + 7]? = some (am 7, .inl (k0 0, 32, .inl (fun y9 => nI (mn y9)))) := by rw [ew_23]; exact kx_set_ne f_20 (by omega)
  have f_32 : w_23[q + 8]? = some (am 8, .inl (k0 3, 4096, .inl (fun y9 => nI (fb y9)))) := by rw [ew_23]; exact kx_set_ne f_21 (by omega)
  have f_33 : w_23[q + 9]? = some (am 9, .inl (k0 3, 4096, .inl (fun y9 => nI (sb y9)))) := by rw [ew_23]; exact kx_set_ne f_22 (by omega)
  have hfr : kx_fr w0 w_23 (fun j => q ≤ j ∧ j < q + 10) := kx_fr_tr hfr (by rw [ew_23]; exact kx_fr_set (by omega))
  refine lv_iconst (v := nI 0) hx hb dX3_keep_24 (by decide +kernel) ?_
  refine lv_istore_n (lv' := [(3, .int (nI 0)), (0, .ref (am 0)), (1, .int (nI i)), (2, .int (nI v))]) hx hb dX3_keep_25 rfl hl (by decide) rfl (fun ls hl => ?_)
  have loop_26 : ∀ (n26 : Nat) (e9 : Nat) (me1 : Nat → Nat) (mw1 : Nat → Int32), (e9 ≤ mk) → ((∀ e, e < e9 → me1 (24 * i + 2 * e) = mm (2 * e) ∧ me1 (24 * i + 2 * e + 1) = mm (2 * e + 1) ∧ mw1 (12 * i + e) = 0)) → ((∀ k, k < 24 * i ∨ 24 * i + 24 ≤ k → me1 k = me k) ∧ (∀ k, k < 12 * i ∨ 12 * i + 12 ≤ k → mw1 k = mw k)) → (mk + 1 ≤ e9 + n26) → ∀ (w1 : va_W), w1[q]? = some (am 0, .inr (3, [.ref (am 1), .ref (am 2), .ref (am 3), .ref (am 4), .ref (am 5), .ref (am 6), .int (nI mk), .ref (am 7), .ref (am 8), .ref (am 9)])) → w1[q + 1]? = some (am 1, .inl (k0 0, 8, .inl (fun y9 => nI ((fo_up mv i v) y9)))) → w1[q + 2]? = some (am 2, .inl (k0 0, 8, .inl (fun y9 => nI ((fo_up mc i mk) y9)))) → w1[q + 3]? = some (am 3, .inl (k0 2, 8, .inl (fun y9 => nI ((fo_up mo i 0) y9)))) → w1[q + 4]? = some (am 4, .inl (k0 0, 192, .inl (fun y9 => nI (me1 y9)))) → w1[q + 5]? = some (am 5, .inl (k0 0, 96, .inl mw1)) → w1[q + 6]? = some (am 6, .inl (k0 0, 24, .inl (fun y9 => nI (mm y9)))) → w1[q + 7]? = some (am 7, .inl (k0 0, 32, .inl (fun y9 => nI (mn y9)))) → w1[q + 8]? = some (am 8, .inl (k0 3, 4096, .inl (fun y9 => nI (fb y9)))) → w1[q + 9]? = some (am 9, .inl (k0 3, 4096, .inl (fun y9 => nI (sb y9)))) → kx_fr w0 w1 (fun j => q ≤ j ∧ j < q + 10) → ∀ (H : Heap) (locs : List Loc), va_P D vwCl w1 H → va_D A w1 → va_S A s.heap H locs → ∀ (ls : Array Slot), lv_has ls 4 [(3, .int (nI e9)), (0, .ref (am 0)), (1, .int (nI i)), (2, .int (nI v))] → W p l e ({ frames := 0, cells := 0, slots := 0, locals := 0 } : Room) s m ([.ref (am 0), .int (nI i), .int (nI v)] : List Value).toArray below meth c H locs 0 0 (MQ below (va_Qi (fun (r : Int32) (u : va_W) => r = nI mk ∧ (∃ (me9 : Nat → Nat) (mw9 : Nat → Int32), atM u q k0 am (fo_up mv i v) (fo_up mc i mk) (fo_up mo i 0) me9 mw9 mm mk mn fb sb ∧ (∀ e, e < mk → me9 (24 * i + 2 * e) = mm (2 * e) ∧ me9 (24 * i + 2 * e + 1) = mm (2 * e + 1) ∧ mw9 (12 * i + e) = 0) ∧ (∀ k, k < 24 * i ∨ 24 * i + 24 ≤ k → me9 k = me k) ∧ (∀ k, k < 12 * i ∨ 12 * i + 12 ≤ k → mw9 k = mw k)) ∧ kx_fr w0 u (fun j => q ≤ j ∧ j < q + 10)) (kx_B D (tyL k0) A) A) ([.ref (am 0), .int (nI i), .int (nI v)] : List Value).toArray s 0 0 A) (F0 m 26 ls []) := by
    intro n26
    induction n26 with
    | zero =>
      intro e9 me1 mw1 he hki hko hme
      exact absurd hme (by omega)
    | succ n26 ih26 =>
      intro e9 me1 mw1 he hki hko hme w1 F26_0 F26_1 F26_2 F26_3 F26_4 F26_5 F26_6 F26_7 F26_8 F26_9 hfr H locs hP hD hS ls hl
      refine lv_iload_n hx hb dX3_keep_26 rfl (lv_at hl 0 rfl) ?_
      refine lv_aload_n hx hb dX3_keep_27 rfl (lv_at hl 1 rfl) ?_
      refine va_get (D := D) (ci := 3) (v := .int (nI mk)) (C := RX3) (T := TX3) (N := 10) hx hb hts inX3 hown hK hP q F26_0 rfl 6 (by decide) (hts _ tw_256) (fun _ h9 => h9) rfl dX3_keep_28 ?_
      refine lv_icmp_ge (tgt := 98) hx hb dX3_keep_31 (by decide) (fun c_31 => ?_) (fun c_31 => ?_)
      · skip
        have hik : e9 = mk := by
          have := (nI_leI (by omega) (by omega)).mp c_31
          omega
        refine lv_aload_n hx hb dX3_keep_98 rfl (lv_at hl 1 rfl) ?_
        refine va_get (D := D) (ci := 3) (v := .int (nI mk)) (C := RX3) (T := TX3) (N := 10) hx hb hts inX3 hown hK hP q F26_0 rfl 6 (by decide) (hts _ tw_256) (fun _ h9 => h9) rfl dX3_keep_99 ?_
        exact kx_iret (v := nI mk) hx hb hr rfl hlocks hK hP hD hS dX3_keep_102 (⟨rfl, ⟨me1, mw1, ⟨F26_0, F26_1, F26_2, F26_3, F26_4, F26_5, F26_6, F26_7, F26_8, F26_9⟩, by rw [← hik]; exact hki, hko⟩, hfr⟩)
      · skip
        have hik : e9 < mk := by
          rcases Nat.lt_or_ge (e9) (mk) with h | h
          · exact h
          · exact absurd ((nI_leI (by omega) (by omega)).mpr h) c_31
        refine lv_aload_n hx hb dX3_keep_34 rfl (lv_at hl 1 rfl) ?_
        refine va_get (D := D) (ci := 3) (v := .ref (am 4)) (C := RX3) (T := TX3) (N := 10) hx hb hts inX3 hown hK hP q F26_0 rfl 3 (by decide) (hts _ tw_253) (fun _ h9 => h9) rfl dX3_keep_35 ?_
        refine lv_bipush (v := nI 24) hx hb dX3_keep_38 (by decide +kernel) ?_
        refine lv_iload_n hx hb dX3_keep_40 rfl (lv_at hl 2 rfl) ?_
        refine lv_imul hx hb dX3_keep_41 ?_
        refine lv_topi (fun z_34 ez_34 => ?_)
        have ez_34 : z_34 = nI (24 * i) := by rw [ez_34]; exact pk_mul _ _
        subst ez_34
        refine lv_iconst (v := nI 2) hx hb dX3_keep_42 (by decide +kernel) ?_
        refine lv_iload_n hx hb dX3_keep_43 rfl (lv_at hl 0 rfl) ?_
        refine lv_imul hx hb dX3_keep_44 ?_
        refine lv_topi (fun z_35 ez_35 => ?_)
        have ez_35 : z_35 = nI (2 * e9) := by rw [ez_35]; exact pk_mul _ _
        subst ez_35
        refine lv_iadd hx hb dX3_keep_45 ?_
        refine lv_topi (fun z_36 ez_36 => ?_)
        have ez_36 : z_36 = nI (24 * i + 2 * e9) := by rw [ez_36]; exact nI_add _ _
        subst ez_36
        refine lv_aload_n hx hb dX3_keep_46 rfl (lv_at hl 1 rfl) ?_
        refine va_get (D := D) (ci := 3) (v := .ref (am 6)) (C := RX3) (T := TX3) (N := 10) hx hb hts inX3 hown hK hP q F26_0 rfl 5 (by decide) (hts _ tw_255) (fun _ h9 => h9) rfl dX3_keep_47 ?_
        refine lv_iconst (v := nI 2) hx hb dX3_keep_50 (by decide +kernel) ?_
        refine lv_iload_n hx hb dX3_keep_51 rfl (lv_at hl 0 rfl) ?_
        refine lv_imul hx hb dX3_keep_52 ?_
        refine lv_topi (fun z_37 ez_37 => ?_)
        have ez_37 : z_37 = nI (2 * e9) := by rw [ez_37]; exact pk_mul _ _
        subst ez_37
        refine kx_nald hx hb hK hP (q + 6) F26_6 rfl (i := (2 * e9)) (by omega) (by decide) dX3_keep_53 ?_
        refine kx_nast hx hb hK hP hD hS (q + 4) F26_4 rfl (i := (24 * i + 2 * e9)) (x := (mm (2 * e9))) (by omega) (by decide) dX3_keep_54 (fun H locs hP hD hS => ?_)
        obtain ⟨w_38, ew_38⟩ : ∃ w, w = w1.set (q + 4) (am 4, .inl (k0 0, 192, .inl (fun y9 => nI ((fo_up me1 (24 * i + 2 * e9) (mm (2 * e9))) y9)))) := ⟨_, rfl⟩
        have hP : va_P D vwCl w_38 H := by rw [ew_38]; exact hP
        have hD : va_D A w_38 := by rw [ew_38]; exact hD
        have f_39 : w_38[q]? = some (am 0, .inr (3, [.ref (am 1), .ref (am 2), .ref (am 3), .ref (am 4), .ref (am 5), .ref (am 6), .int (nI mk), .ref (am 7), .ref (am 8), .ref (am 9)])) := by rw [ew_38]; exact kx_set_ne F26_0 (by omega)
        have f_40 : w_38[q + 1]? = some (am 1, .inl (k0 0, 8, .inl (fun y9 => nI ((fo_up mv i v) y9)))) := by rw [ew_38]; exact kx_set_ne F26_1 (by omega)
        have f_41 : w_38[q + 2]? = some (am 2, .inl (k0 0, 8, .inl (fun y9 => nI ((fo_up mc i mk) y9)))) := by rw [ew_38]; exact kx_set_ne F26_2 (by omega)
        have f_42 : w_38[q + 3]? = some (am 3, .inl (k0 2, 8, .inl (fun y9 => nI ((fo_up mo i 0) y9)))) := by rw [ew_38]; exact kx_set_ne F26_3 (by omega)
        have f_43 : w_38[q + 4]? = some (am 4, .inl (k0 0, 192, .inl (fun y9 => nI ((fo_up me1 (24 * i + 2 * e9) (mm (2 * e9))) y9)))) := by rw [ew_38]; exact kx_set_self F26_4
        have f_44 : w_38[q + 5]? = some (am 5, .inl (k0 0, 96, .inl mw1)) := by rw [ew_38]; exact kx_set_ne F26_5 (by omega)
        have f_45 : w_38[q + 6]? = some (am 6, .inl (k0 0, 24, .inl (fun y9 => nI (mm y9)))) := by rw [ew_38]; exact kx_set_ne F26_6 (by omega)
        have f_46 : w_38[q + 7]? = some (am 7, .inl (k0 0, 32, .inl (fun y9 => nI (mn y9)))) := by rw [ew_38]; exact kx_set_ne F26_7 (by omega)
        have f_47 : w_38[q + 8]? = some (am 8, .inl (k0 3, 4096, .inl (fun y9 => nI (fb y9)))) := by rw [ew_38]; exact kx_set_ne F26_8 (by omega)
        have f_48 : w_38[q + 9]? = some (am 9, .inl (k0 3, 4096, .inl (fun y9 => nI (sb y9)))) := by rw [ew_38]; exact kx_set_ne F26_9 (by omega)
        have hfr : kx_fr w0 w_38 (fun j => q ≤ j ∧ j < q + 10) := kx_fr_tr hfr (by rw [ew_38]; exact kx_fr_set (by omega))
        refine lv_aload_n hx hb dX3_keep_55 rfl (lv_at hl 1 rfl) ?_
        refine va_get (D := D) (ci := 3) (v := .ref (am 4)) (C := RX3) (T := TX3) (N := 10) hx hb hts inX3 hown hK hP q f_39 rfl 3 (by decide) (hts _ tw_253) (fun _ h9 => h9) rfl dX3_keep_56 ?_
        refine lv_bipush (v := nI 24) hx hb dX3_keep_59 (by decide +kernel) ?_
        refine lv_iload_n hx hb dX3_keep_61 rfl (lv_at hl 2 rfl) ?_
        refine lv_imul hx hb dX3_keep_62 ?_
        refine lv_topi (fun z_49 ez_49 => ?_)
        have ez_49 : z_49 = nI (24 * i) := by rw [ez_49]; exact pk_mul _ _
        subst ez_49
        refine lv_iconst (v := nI 2) hx hb dX3_keep_63 (by decide +kernel) ?_
        refine lv_iload_n hx hb dX3_keep_64 rfl (lv_at hl 0 rfl) ?_
        refine lv_imul hx hb dX3_keep_65 ?_
        refine lv_topi (fun z_50 ez_50 => ?_)
        have ez_50 : z_50 = nI (2 * e9) := by rw [ez_50]; exact pk_mul _ _
        subst ez_50
        refine lv_iadd hx hb dX3_keep_66 ?_
        refine lv_topi (fun z_51 ez_51 => ?_)
        have ez_51 : z_51 = nI (24 * i + 2 * e9) := by rw [ez_51]; exact nI_add _ _
        subst ez_51
        refine lv_iconst (v := nI 1) hx hb dX3_keep_67 (by decide +kernel) ?_
        refine lv_iadd hx hb dX3_keep_68 ?_
        refine lv_topi (fun z_52 ez_52 => ?_)
        have ez_52 : z_52 = nI (24 * i + 2 * e9 + 1) := by rw [ez_52]; exact nI_add _ _
        subst ez_52
        refine lv_aload_n hx hb dX3_keep_69 rfl (lv_at hl 1 rfl) ?_
        refine va_get (D := D) (ci := 3) (v := .ref (am 6)) (C := RX3) (T := TX3) (N := 10) hx hb hts inX3 hown hK hP q f_39 rfl 5 (by decide) (hts _ tw_255) (fun _ h9 => h9) rfl dX3_keep_70 ?_
        refine lv_iconst (v := nI 2) hx hb dX3_keep_73 (by decide +kernel) ?_
        refine lv_iload_n hx hb dX3_keep_74 rfl (lv_at hl 0 rfl) ?_
        refine lv_imul hx hb dX3_keep_75 ?_
        refine lv_topi (fun z_53 ez_53 => ?_)
        have ez_53 : z_53 = nI (2 * e9) := by rw [ez_53]; exact pk_mul _ _
        subst ez_53
        refine lv_iconst (v := nI 1) hx hb dX3_keep_76 (by decide +kernel) ?_
        refine lv_iadd hx hb dX3_keep_77 ?_
        refine lv_topi (fun z_54 ez_54 => ?_)
        have ez_54 : z_54 = nI (2 * e9 + 1) := by rw [ez_54]; exact nI_add _ _
        subst ez_54
        refine kx_nald hx hb hK hP (q + 6) f_45 rfl (i := (2 * e9 + 1)) (by omega) (by decide) dX3_keep_78 ?_
        refine kx_nast hx hb hK hP hD hS (q + 4) f_43 rfl (i := (24 * i + 2 * e9 + 1)) (x := (mm (2 * e9 + 1))) (by omega) (by decide) dX3_keep_79 (fun H locs hP hD hS => ?_)
        obtain ⟨w_55, ew_55⟩ : ∃ w, w = w_38.set (q + 4) (am 4, .inl (k0 0, 192, .inl (fun y9 => nI ((fo_up (fo_up me1 (24 * i + 2 * e9) (mm (2 * e9))) (24 * i + 2 * e9 + 1) (mm (2 * e9 + 1))) y9)))) := ⟨_, rfl⟩
        have hP : va_P D vwCl w_55 H := by rw [ew_55]; exact hP
        have hD : va_D A w_55 := by rw [ew_55]; exact hD
        have f_56 : w_55[q]? = some (am 0, .inr (3, [.ref (am 1), .ref (am 2), .ref (am 3), .ref (am 4), .ref (am 5), .ref (am 6), .int (nI mk), .ref (am 7), .ref (am 8), .ref (am 9)])) := by rw [ew_55]; exact kx_set_ne f_39 (by omega)
        have f_57 : w_55[q + 1]? = some (am 1, .inl (k0 0, 8, .inl (fun y9 => nI ((fo_up mv i v) y9)))) := by rw [ew_55]; exact kx_set_ne f_40 (by omega)
        have f_58 : w_55[q + 2]? = some (am 2, .inl (k0 0, 8, .inl (fun y9 => nI ((fo_up mc i mk) y9)))) := by rw [ew_55]; exact kx_set_ne f_41 (by omega)
        have f_59 : w_55[q + 3]? = some (am 3, .inl (k0 2, 8, .inl (fun y9 => nI ((fo_up mo i 0) y9)))) := by rw [ew_55]; exact kx_set_ne f_42 (by omega)
        have f_60 : w_55[q + 4]? = some (am 4, .inl (k0 0, 192, .inl (fun y9 => nI ((fo_up (fo_up me1 (24 * i + 2 * e9) (mm (2 * e9))) (24 * i + 2 * e9 + 1) (mm (2 * e9 + 1))) y9)))) := by rw [ew_55]; exact kx_set_self f_43
        have f_61 : w_55[q + 5]? = some (am 5, .inl (k0 0, 96, .inl mw1)) := by rw [ew_55]; exact kx_set_ne f_44 (by omega)
        have f_62 : w_55[q + 6]? = some (am 6, .inl (k0 0, 24, .inl (fun y9 => nI (mm y9)))) := by rw [ew_55]; exact kx_set_ne f_45 (by omega)
        have f_63 : w_55[q + 7]? = some (am 7, .inl (k0 0, 32, .inl (fun y9 => nI (mn y9)))) := by rw [ew_55]; exact kx_set_ne f_46 (by omega)
        have f_64 : w_55[q + 8]? = some (am 8, .inl (k0 3, 4096, .inl (fun y9 => nI (fb y9)))) := by rw [ew_55]; exact kx_set_ne f_47 (by omega)
        have f_65 : w_55[q + 9]? = some (am 9, .inl (k0 3, 4096, .inl (fun y9 => nI (sb y9)))) := by rw [ew_55]; exact kx_set_ne f_48 (by omega)
        have hfr : kx_fr w0 w_55 (fun j => q ≤ j ∧ j < q + 10) := kx_fr_tr hfr (by rw [ew_55]; exact kx_fr_set (by omega))
        refine lv_aload_n hx hb dX3_keep_80 rfl (lv_at hl 1 rfl) ?_
        refine va_get (D := D) (ci := 3) (v := .ref (am 5)) (C := RX3) (T := TX3) (N := 10) hx hb hts inX3 hown hK hP q f_56 rfl 4 (by decide) (hts _ tw_254) (fun _ h9 => h9) rfl dX3_keep_81 ?_
        refine lv_bipush (v := nI 12) hx hb dX3_keep_84 (by decide +kernel) ?_
        refine lv_iload_n hx hb dX3_keep_86 rfl (lv_at hl 2 rfl) ?_
        refine lv_imul hx hb dX3_keep_87 ?_
        refine lv_topi (fun z_66 ez_66 => ?_)
        have ez_66 : z_66 = nI (12 * i) := by rw [ez_66]; exact pk_mul _ _
        subst ez_66
        refine lv_iload_n hx hb dX3_keep_88 rfl (lv_at hl 0 rfl) ?_
        refine lv_iadd hx hb dX3_keep_89 ?_
        refine lv_topi (fun z_67 ez_67 => ?_)
        have ez_67 : z_67 = nI (12 * i + e9) := by rw [ez_67]; exact nI_add _ _
        subst ez_67
        refine lv_iconst (v := 0) hx hb dX3_keep_90 (by decide +kernel) ?_
        refine kx_iast hx hb hK hP hD hS (q + 5) f_61 rfl (i := (12 * i + e9)) (x := 0) (by omega) (by decide) dX3_keep_91 (fun H locs hP hD hS => ?_)
        obtain ⟨w_68, ew_68⟩ : ∃ w, w = w_55.set (q + 5) (am 5, .inl (k0 0, 96, .inl (upd mw1 (12 * i + e9) 0))) := ⟨_, rfl⟩
        have hP : va_P D vwCl w_68 H := by rw [ew_68]; exact hP
        have hD : va_D A w_68 := by rw [ew_68]; exact hD
        have f_69 : w_68[q]? = some (am 0, .inr (3, [.ref (am 1), .ref (am 2), .ref (am 3), .ref (am 4), .ref (am 5), .ref (am 6), .int (nI mk), .ref (am 7), .ref (am 8), .ref (am 9)])) := by rw [ew_68]; exact kx_set_ne f_56 (by omega)
        have f_70 : w_68[q + 1]? = some (am 1, .inl (k0 0, 8, .inl (fun y9 => nI ((fo_up mv i v) y9)))) := by rw [ew_68]; exact kx_set_ne f_57 (by omega)
        have f_71 : w_68[q + 2]? = some (am 2, .inl (k0 0, 8, .inl (fun y9 => nI ((fo_up mc i mk) y9)))) := by rw [ew_68]; exact kx_set_ne f_58 (by omega)
        have f_72 : w_68[q + 3]? = some (am 3, .inl (k0 2, 8, .inl (fun y9 => nI ((fo_up mo i 0) y9)))) := by rw [ew_68]; exact kx_set_ne f_59 (by omega)
        have f_73 : w_68[q + 4]? = some (am 4, .inl (k0 0, 192, .inl (fun y9 => nI ((fo_up (fo_up me1 (24 * i + 2 * e9) (mm (2 * e9))) (24 * i + 2 * e9 + 1) (mm (2 * e9 + 1))) y9)))) := by rw [ew_68]; exact kx_set_ne f_60 (by omega)
        have f_74 : w_68[q + 5]? = some (am 5, .inl (k0 0, 96, .inl (upd mw1 (12 * i + e9) 0))) := by rw [ew_68]; exact kx_set_self f_61
        have f_75 : w_68[q + 6]? = some (am 6, .inl (k0 0, 24, .inl (fun y9 => nI (mm y9)))) := by rw [ew_68]; exact kx_set_ne f_62 (by omega)
        have f_76 : w_68[q + 7]? = some (am 7, .inl (k0 0, 32, .inl (fun y9 => nI (mn y9)))) := by rw [ew_68]; exact kx_set_ne f_63 (by omega)
        have f_77 : w_68[q + 8]? = some (am 8, .inl (k0 3, 4096, .inl (fun y9 => nI (fb y9)))) := by rw [ew_68]; exact kx_set_ne f_64 (by omega)
        have f_78 : w_68[q + 9]? = some (am 9, .inl (k0 3, 4096, .inl (fun y9 => nI (sb y9)))) := by rw [ew_68]; exact kx_set_ne f_65 (by omega)
        have hfr : kx_fr w0 w_68 (fun j => q ≤ j ∧ j < q + 10) := kx_fr_tr hfr (by rw [ew_68]; exact kx_fr_set (by omega))
        refine lv_iinc (v := nI (e9 + 1)) (lv' := [(3, .int (nI (e9 + 1))), (0, .ref (am 0)), (1, .int (nI i)), (2, .int (nI v))]) hx hb dX3_keep_92 hl (k := 0) rfl (nI_1 _) (by decide) rfl (fun ls hl => ?_)
        refine lv_goto (tgt := 26) hx hb dX3_keep_95 (by decide) ?_
        exact ih26 (e9 + 1) (fo_up (fo_up me1 (24 * i + 2 * e9) (mm (2 * e9))) (24 * i + 2 * e9 + 1) (mm (2 * e9 + 1))) (upd mw1 (12 * i + e9) 0) (by omega) (fun e h => by
            rcases Nat.lt_or_ge e e9 with h2 | h2
            · obtain ⟨z1, z2, z3⟩ := hki e h2
              refine ⟨?_, ?_, ?_⟩
              · simp only [fo_up]; rw [if_neg (by omega), if_neg (by omega)]; exact z1
              · simp only [fo_up]; rw [if_neg (by omega), if_neg (by omega)]; exact z2
              · simp only [upd]; rw [if_neg (by omega)]; exact z3
            · rw [show e = e9 by omega]
              refine ⟨?_, ?_, ?_⟩
              · simp only [fo_up]; rw [if_neg (by omega), if_pos trivial]
              · simp only [fo_up]; rw [if_pos trivial]
              · simp only [upd]; rw [if_pos trivial]) (⟨fun k h => by
            simp only [fo_up]; rw [if_neg (by omega), if_neg (by omega)]; exact hko.1 k h, fun k h => by
            simp only [upd]; rw [if_neg (by omega)]; exact hko.2 k h⟩) (by omega) w_68 f_69 f_70 f_71 f_72 f_73 f_74 f_75 f_76 f_77 f_78 hfr _ _ hP hD hS _ (lv_sub hl [0, 1, 2, 3] rfl)
  exact loop_26 (mk + 1) 0 me mw (Nat.zero_le _) (fun e h => absurd h (Nat.not_lt_zero e)) (⟨fun _ _ => rfl, fun _ _ => rfl⟩) (by omega) w_23 f_24 f_25 f_26 f_27 f_28 f_29 f_30 f_31 f_32 f_33 hfr _ _ hP hD hS _ (lv_sub hl [0, 1, 2, 3] rfl)
