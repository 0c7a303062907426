def kx_ad (a0 a1 a2 a3 a4 a5 a6 a7 a8 : Nat) (gd : Nat → Nat) : Nat → Nat
  | 0 => a0
  | 1 => a1
  | 2 => a2
  | 3 => a3
  | 4 => a4
  | 5 => a5
  | 6 => a6
  | 7 => a7
  | 8 => a8
  | k + 9 => gd (k + 9)
theorem kx_ad_ge {a0 a1 a2 a3 a4 a5 a6 a7 a8 : Nat} {gd : Nat → Nat} {x : Nat} (h : 9 ≤ x) : kx_ad a0 a1 a2 a3 a4 a5 a6 a7 a8 gd x = gd x := by
  obtain ⟨k, rfl⟩ : ∃ k, x = k + 9 := ⟨x - 9, by omega⟩
  rfl

set_option maxHeartbeats 4000000 in
set_option maxRecDepth 100000 in
/-- CommonForests() -/
theorem c_Cinit (l : Launch) (D : va_G) (k0 : Nat → ClassId)  (w0 : va_W) (sz : Nat) (b o : Nat) (hO : w0[b]? = some (o, .inr (2, [.null, .null, .null, .null]))) (hlen : w0.length = b + 1) : kx_v l yX2_init wsX2_init ({ frames := 2, cells := 32, slots := 306, locals := 48 } : Room) D (tyL k0) w0 sz [.ref o] (fun (u : va_W) => ∃ ad : Nat → Nat, ad 0 = o ∧ atC u b k0 ad (fun _ => 0) (fun _ => 1) (fun _ => 1) (fun _ _ => 0) (fun _ _ => nI 0) ∧ u.length = b + 33 ∧ kx_fr w0 u (fun j => b ≤ j)) 32 306 := by
  refine kx_of (Qf := fun A => va_Qv (fun (u : va_W) => ∃ ad : Nat → Nat, ad 0 = o ∧ atC u b k0 ad (fun _ => 0) (fun _ => 1) (fun _ => 1) (fun _ _ => 0) (fun _ _ => nI 0) ∧ u.length = b + 33 ∧ kx_fr w0 u (fun j => b ≤ j)) (kx_B D (tyL k0) A) A) (cc := cX2_init) (maxL := 2) (ret := none) (by decide +kernel) (Nat.le_of_ble_eq_true rfl) ?_
  intro p e s m below meth c A ls hx hb hml hown hts hr hlocks hnm hN hK hP hD hS hA hl
  have hown : s.vm.findClass RX2 = some m.cls := hown
  have hl : lv_has ls 2 [(0, .ref o)] := hl
  have hfr : kx_fr w0 w0 (fun j => b ≤ j) := kx_fr_rf _ _
  refine lv_aload_n hx hb dX2_init_0 rfl (lv_at hl 0 rfl) ?_
  refine W.objInit hx hb hown (hts _ tw_30) (hts _ tw_31) (hts _ tw_obj) rfl (by rw [hml]; exact hl.1) rfl dX2_init_1 (Nat.le_of_ble_eq_true rfl) (Nat.le_of_ble_eq_true rfl) ?_
  refine W.eq (g2 := F0 m 4 ls []) rfl ?_
  refine lv_aload_n hx hb dX2_init_4 rfl (lv_at hl 0 rfl) ?_
  refine lv_bipush (v := nI 8) hx hb dX2_init_5 (by decide +kernel) ?_
  refine kx_newq hx hb hown (hts _ tw_33) hN hK hP hD hS hA (n := 8) (by decide) (by show 0 + 1 ≤ (32 : Nat); omega) (by show 0 + 8 ≤ (306 : Nat); omega) dX2_init_7 (fun qa_1 H hP hD hS => ?_)
  obtain ⟨w_2, ew_2⟩ : ∃ w, w = w0 ++ [(qa_1, .inl (k0 1, 8, .inr (.inr (.inr (.inr (fun _ => none))))))] := ⟨_, rfl⟩
  have hP : va_P D vwCl w_2 H := by rw [ew_2]; exact hP
  have hD : va_D A w_2 := by rw [ew_2]; exact hD
  have f_3 : w_2[b]? = some (o, .inr (2, [.null, .null, .null, .null])) := by rw [ew_2]; exact kx_push_old hO
  have f_4 : w_2[b + 1]? = some (qa_1, .inl (k0 1, 8, .inr (.inr (.inr (.inr (fun _ => none)))))) := by rw [ew_2]; exact kx_push_new hlen
  have hfr : kx_fr w0 w_2 (fun j => b ≤ j) := kx_fr_tr hfr (by rw [ew_2]; exact kx_fr_push (by rw [hlen]; omega))
  have hlen : w_2.length = b + 2 := by rw [ew_2]; exact kx_push_len hlen
  refine va_putF (D := D) (ci := 2) (v := .ref qa_1) (ty := .array (.object "CommonForests$Graph")) (C := RX2) (T := TX2) (N := 4) hx hb hts inX2 tyX2 tyX2_ok nmX2 hown hK hP hD hS b f_3 rfl 0 (by decide) (hts _ tw_78) (fun _ h9 => h9) rfl hnm rfl (by decide +kernel) rfl rfl (Nat.le_of_ble_eq_true rfl) dX2_init_10 (fun H locs hP hD hS => ?_)
  obtain ⟨w_5, ew_5⟩ : ∃ w, w = w_2.set b (o, .inr (2, [.ref qa_1, .null, .null, .null])) := ⟨_, rfl⟩
  have hP : va_P D vwCl w_5 H := by rw [ew_5]; exact hP
  have hD : va_D A w_5 := by rw [ew_5]; exact hD
  have f_6 : w_5[b]? = some (o, .inr (2, [.ref qa_1, .null, .null, .null])) := by rw [ew_5]; exact kx_set_self f_3
  have f_7 : w_5[b + 1]? = some (qa_1, .inl (k0 1, 8, .inr (.inr (.inr (.inr (fun _ => none)))))) := by rw [ew_5]; exact kx_set_ne f_4 (by omega)
  have hfr : kx_fr w0 w_5 (fun j => b ≤ j) := kx_fr_tr hfr (by rw [ew_5]; exact kx_fr_set (by omega))
  have hlen : w_5.length = b + 2 := by rw [ew_5]; exact kx_set_len hlen
  refine lv_aload_n hx hb dX2_init_13 rfl (lv_at hl 0 rfl) ?_
  refine va_new (ci := 0) (fs := [.null, .null, .int 0]) (C := RX0) (T := TX0) (N := 3) hx hb hts inX0 tyX0 tyX0_ok hown (hts _ tw_35) (hts _ tw_36) (hts _ tw_20) hK hP hD hS hA rfl (fun j hj => by rcases (show j = 0 ∨ j = 1 ∨ j = 2 by omega) with rfl | rfl | rfl <;> rfl) (by show (0 + 1) + 1 ≤ (32 : Nat); omega) (by show (0 + 8) + 3 ≤ (306 : Nat); omega) dX2_init_14 (fun qa_8 H hP hD hS => ?_)
  obtain ⟨w_9, ew_9⟩ : ∃ w, w = w_5 ++ [(qa_8, .inr (0, [.null, .null, .int 0]))] := ⟨_, rfl⟩
  have hP : va_P D vwCl w_9 H := by rw [ew_9]; exact hP
  have hD : va_D A w_9 := by rw [ew_9]; exact hD
  have f_10 : w_9[b]? = some (o, .inr (2, [.ref qa_1, .null, .null, .null])) := by rw [ew_9]; exact kx_push_old f_6
  have f_11 : w_9[b + 1]? = some (qa_1, .inl (k0 1, 8, .inr (.inr (.inr (.inr (fun _ => none)))))) := by rw [ew_9]; exact kx_push_old f_7
  have f_12 : w_9[b + 2]? = some (qa_8, .inr (0, [.null, .null, .int 0])) := by rw [ew_9]; exact kx_push_new hlen
  have hfr : kx_fr w0 w_9 (fun j => b ≤ j) := kx_fr_tr hfr (by rw [ew_9]; exact kx_fr_push (by rw [hlen]; omega))
  have hlen : w_9.length = b + 3 := by rw [ew_9]; exact kx_push_len hlen
  refine lv_dup hx hb dX2_init_17 rfl ?_
  refine kx_gov (va_runIN (As := []) (rest := [.ref qa_8, .ref o]) ⟨hx, hb, hml, hown, hts⟩ (c_Finit l D k0 w_9 _ (b + 2) qa_8 f_12 hlen) ⟨(kg_N (k := 0) hts tw_39 hN.1 tw_20 (by decide +kernel) rfl rfl ⟨Nat.le_of_ble_eq_true rfl, Nat.le_of_ble_eq_true rfl⟩), rfl, hts _ tw_38⟩ (kx_preS hN hK hP hD) rfl rfl hl.1 rfl (lv_room (Nat.le_of_ble_eq_true rfl)) dX2_init_18 ⟨by show ((0 + 1) + 1) + 2 ≤ (32 : Nat); omega, by show ((0 + 8) + 3) + 24 ≤ (306 : Nat); omega⟩) hD hS hA (fun u_15 H locs hp_13 hP hD hS => ?_)
  obtain ⟨ra_16, pa_17, ⟨hF1, hR1, hT1⟩, hlen, hq⟩ := hp_13
  have f_18 : u_15[b]? = some (o, .inr (2, [.ref qa_1, .null, .null, .null])) := by rw [hq _ (by omega)]; exact f_10
  have f_19 : u_15[b + 1]? = some (qa_1, .inl (k0 1, 8, .inr (.inr (.inr (.inr (fun _ => none)))))) := by rw [hq _ (by omega)]; exact f_11
  have f_20 : u_15[b + 2]? = some (qa_8, .inr (0, [.ref ra_16, .ref pa_17, .int (nI 0)])) := hF1
  have f_21 : u_15[b + 3]? = some (ra_16, .inl (k0 0, 12, .inl (fun y9 => nI ((fun _ => 0) y9)))) := hR1
  have f_22 : u_15[b + 4]? = some (pa_17, .inl (k0 0, 12, .inl (fun y9 => nI ((fun _ => 0) y9)))) := hT1
  have hfr : kx_fr w0 u_15 (fun j => b ≤ j) := kx_fr_tr hfr (kx_fr_mono hq (fun j h => by omega))
  have hlen : u_15.length = b + 5 := hlen
  refine va_putF (D := D) (ci := 2) (v := .ref qa_8) (ty := .object "CommonForests$Forest") (C := RX2) (T := TX2) (N := 4) hx hb hts inX2 tyX2 tyX2_ok nmX2 hown hK hP hD hS b f_18 rfl 1 (by decide) (hts _ tw_79) (fun _ h9 => h9) rfl hnm rfl (by decide +kernel) rfl rfl (Nat.le_of_ble_eq_true rfl) dX2_init_21 (fun H locs hP hD hS => ?_)
  obtain ⟨w_23, ew_23⟩ : ∃ w, w = u_15.set b (o, .inr (2, [.ref qa_1, .ref qa_8, .null, .null])) := ⟨_, rfl⟩
  have hP : va_P D vwCl w_23 H := by rw [ew_23]; exact hP
  have hD : va_D A w_23 := by rw [ew_23]; exact hD
  have f_24 : w_23[b]? = some (o, .inr (2, [.ref qa_1, .ref qa_8, .null, .null])) := by rw [ew_23]; exact kx_set_self f_18
  have f_25 : w_23[b + 1]? = some (qa_1, .inl (k0 1, 8, .inr (.inr (.inr (.inr (fun _ => none)))))) := by rw [ew_23]; exact kx_set_ne f_19 (by omega)
  have f_26 : w_23[b + 2]? = some (qa_8, .inr (0, [.ref ra_16, .ref pa_17, .int (nI 0)])) := by rw [ew_23]; exact kx_set_ne f_20 (by omega)
  have f_27 : w_23[b + 3]? = some (ra_16, .inl (k0 0, 12, .inl (fun y9 => nI ((fun _ => 0) y9)))) := by rw [ew_23]; exact kx_set_ne f_21 (by omega)
  have f_28 : w_23[b + 4]? = some (pa_17, .inl (k0 0, 12, .inl (fun y9 => nI ((fun _ => 0) y9)))) := by rw [ew_23]; exact kx_set_ne f_22 (by omega)
  have hfr : kx_fr w0 w_23 (fun j => b ≤ j) := kx_fr_tr hfr (by rw [ew_23]; exact kx_fr_set (by omega))
  have hlen : w_23.length = b + 5 := by rw [ew_23]; exact kx_set_len hlen
  refine lv_aload_n hx hb dX2_init_24 rfl (lv_at hl 0 rfl) ?_
  refine va_new (ci := 0) (fs := [.null, .null, .int 0]) (C := RX0) (T := TX0) (N := 3) hx hb hts inX0 tyX0 tyX0_ok hown (hts _ tw_35) (hts _ tw_36) (hts _ tw_20) hK hP hD hS hA rfl (fun j hj => by rcases (show j = 0 ∨ j = 1 ∨ j = 2 by omega) with rfl | rfl | rfl <;> rfl) (by show (((0 + 1) + 1) + 2) + 1 ≤ (32 : Nat); omega) (by show (((0 + 8) + 3) + 24) + 3 ≤ (306 : Nat); omega) dX2_init_25 (fun qa_29 H hP hD hS => ?_)
  obtain ⟨w_30, ew_30⟩ : ∃ w, w = w_23 ++ [(qa_29, .inr (0, [.null, .null, .int 0]))] := ⟨_, rfl⟩
  have hP : va_P D vwCl w_30 H := by rw [ew_30]; exact hP
  have hD : va_D A w_30 := by rw [ew_30]; exact hD
  have f_31 : w_30[b]? = some (o, .inr (2, [.ref qa_1, .ref qa_8, .null, .null])) := by rw [ew_30]; exact kx_push_old f_24
  have f_32 : w_30[b + 1]? = some (qa_1, .inl (k0 1, 8, .inr (.inr (.inr (.inr (fun _ => none)))))) := by rw [ew_30]; exact kx_push_old f_25
  have f_33 : w_30[b + 2]? = some (qa_8, .inr (0, [.ref ra_16, .ref pa_17, .int (nI 0)])) := by rw [ew_30]; exact kx_push_old f_26
  have f_34 : w_30[b + 3]? = some (ra_16, .inl (k0 0, 12, .inl (fun y9 => nI ((fun _ => 0) y9)))) := by rw [ew_30]; exact kx_push_old f_27
  have f_35 : w_30[b + 4]? = some (pa_17, .inl (k0 0, 12, .inl (fun y9 => nI ((fun _ => 0) y9)))) := by rw [ew_30]; exact kx_push_old f_28
  have f_36 : w_30[b + 5]? = some (qa_29, .inr (0, [.null, .null, .int 0])) := by rw [ew_30]; exact kx_push_new hlen
  have hfr : kx_fr w0 w_30 (fun j => b ≤ j) := kx_fr_tr hfr (by rw [ew_30]; exact kx_fr_push (by rw [hlen]; omega))
  have hlen : w_30.length = b + 6 := by rw [ew_30]; exact kx_push_len hlen
  refine lv_dup hx hb dX2_init_28 rfl ?_
  refine kx_gov (va_runIN (As := []) (rest := [.ref qa_29, .ref o]) ⟨hx, hb, hml, hown, hts⟩ (c_Finit l D k0 w_30 _ (b + 5) qa_29 f_36 hlen) ⟨(kg_N (k := 0) hts tw_39 hN.1 tw_20 (by decide +kernel) rfl rfl ⟨Nat.le_of_ble_eq_true rfl, Nat.le_of_ble_eq_true rfl⟩), rfl, hts _ tw_38⟩ (kx_preS hN hK hP hD) rfl rfl hl.1 rfl (lv_room (Nat.le_of_ble_eq_true rfl)) dX2_init_29 ⟨by show ((((0 + 1) + 1) + 2) + 1) + 2 ≤ (32 : Nat); omega, by show ((((0 + 8) + 3) + 24) + 3) + 24 ≤ (306 : Nat); omega⟩) hD hS hA (fun u_39 H locs hp_37 hP hD hS => ?_)
  obtain ⟨ra_40, pa_41, ⟨hF1, hR1, hT1⟩, hlen, hq⟩ := hp_37
  have f_42 : u_39[b]? = some (o, .inr (2, [.ref qa_1, .ref qa_8, .null, .null])) := by rw [hq _ (by omega)]; exact f_31
  have f_43 : u_39[b + 1]? = some (qa_1, .inl (k0 1, 8, .inr (.inr (.inr (.inr (fun _ => none)))))) := by rw [hq _ (by omega)]; exact f_32
  have f_44 : u_39[b + 2]? = some (qa_8, .inr (0, [.ref ra_16, .ref pa_17, .int (nI 0)])) := by rw [hq _ (by omega)]; exact f_33
  have f_45 : u_39[b + 3]? = some (ra_16, .inl (k0 0, 12, .inl (fun y9 => nI ((fun _ => 0) y9)))) := by rw [hq _ (by omega)]; exact f_34
  have f_46 : u_39[b + 4]? = some (pa_17, .inl (k0 0, 12, .inl (fun y9 => nI ((fun _ => 0) y9)))) := by rw [hq _ (by omega)]; exact f_35
  have f_47 : u_39[b + 5]? = some (qa_29, .inr (0, [.ref ra_40, .ref pa_41, .int (nI 0)])) := hF1
  have f_48 : u_39[b + 6]? = some (ra_40, .inl (k0 0, 12, .inl (fun y9 => nI ((fun _ => 0) y9)))) := hR1
  have f_49 : u_39[b + 7]? = some (pa_41, .inl (k0 0, 12, .inl (fun y9 => nI ((fun _ => 0) y9)))) := hT1
  have hfr : kx_fr w0 u_39 (fun j => b ≤ j) := kx_fr_tr hfr (kx_fr_mono hq (fun j h => by omega))
  have hlen : u_39.length = b + 8 := hlen
  refine va_putF (D := D) (ci := 2) (v := .ref qa_29) (ty := .object "CommonForests$Forest") (C := RX2) (T := TX2) (N := 4) hx hb hts inX2 tyX2 tyX2_ok nmX2 hown hK hP hD hS b f_42 rfl 2 (by decide) (hts _ tw_80) (fun _ h9 => h9) rfl hnm rfl (by decide +kernel) rfl rfl (Nat.le_of_ble_eq_true rfl) dX2_init_32 (fun H locs hP hD hS => ?_)
  obtain ⟨w_50, ew_50⟩ : ∃ w, w = u_39.set b (o, .inr (2, [.ref qa_1, .ref qa_8, .ref qa_29, .null])) := ⟨_, rfl⟩
  have hP : va_P D vwCl w_50 H := by rw [ew_50]; exact hP
  have hD : va_D A w_50 := by rw [ew_50]; exact hD
  have f_51 : w_50[b]? = some (o, .inr (2, [.ref qa_1, .ref qa_8, .ref qa_29, .null])) := by rw [ew_50]; exact kx_set_self f_42
  have f_52 : w_50[b + 1]? = some (qa_1, .inl (k0 1, 8, .inr (.inr (.inr (.inr (fun _ => none)))))) := by rw [ew_50]; exact kx_set_ne f_43 (by omega)
  have f_53 : w_50[b + 2]? = some (qa_8, .inr (0, [.ref ra_16, .ref pa_17, .int (nI 0)])) := by rw [ew_50]; exact kx_set_ne f_44 (by omega)
  have f_54 : w_50[b + 3]? = some (ra_16, .inl (k0 0, 12, .inl (fun y9 => nI ((fun _ => 0) y9)))) := by rw [ew_50]; exact kx_set_ne f_45 (by omega)
  have f_55 : w_50[b + 4]? = some (pa_17, .inl (k0 0, 12, .inl (fun y9 => nI ((fun _ => 0) y9)))) := by rw [ew_50]; exact kx_set_ne f_46 (by omega)
  have f_56 : w_50[b + 5]? = some (qa_29, .inr (0, [.ref ra_40, .ref pa_41, .int (nI 0)])) := by rw [ew_50]; exact kx_set_ne f_47 (by omega)
  have f_57 : w_50[b + 6]? = some (ra_40, .inl (k0 0, 12, .inl (fun y9 => nI ((fun _ => 0) y9)))) := by rw [ew_50]; exact kx_set_ne f_48 (by omega)
  have f_58 : w_50[b + 7]? = some (pa_41, .inl (k0 0, 12, .inl (fun y9 => nI ((fun _ => 0) y9)))) := by rw [ew_50]; exact kx_set_ne f_49 (by omega)
  have hfr : kx_fr w0 w_50 (fun j => b ≤ j) := kx_fr_tr hfr (by rw [ew_50]; exact kx_fr_set (by omega))
  have hlen : w_50.length = b + 8 := by rw [ew_50]; exact kx_set_len hlen
  refine lv_aload_n hx hb dX2_init_35 rfl (lv_at hl 0 rfl) ?_
  refine lv_bipush (v := nI 12) hx hb dX2_init_36 (by decide +kernel) ?_
  refine kx_newi hx hb (hts _ tw_51) hK hP hD hS hA (n := 12) (by decide) (by show (((((0 + 1) + 1) + 2) + 1) + 2) + 1 ≤ (32 : Nat); omega) (by show (((((0 + 8) + 3) + 24) + 3) + 24) + 12 ≤ (306 : Nat); omega) dX2_init_38 (fun qa_59 H hP hD hS => ?_)
  obtain ⟨w_60, ew_60⟩ : ∃ w, w = w_50 ++ [(qa_59, .inl (k0 0, 12, .inl (fun y9 => nI ((fun _ => 0) y9))))] := ⟨_, rfl⟩
  have hP : va_P D vwCl w_60 H := by rw [ew_60]; exact hP
  have hD : va_D A w_60 := by rw [ew_60]; exact hD
  have f_61 : w_60[b]? = some (o, .inr (2, [.ref qa_1, .ref qa_8, .ref qa_29, .null])) := by rw [ew_60]; exact kx_push_old f_51
  have f_62 : w_60[b + 1]? = some (qa_1, .inl (k0 1, 8, .inr (.inr (.inr (.inr (fun _ => none)))))) := by rw [ew_60]; exact kx_push_old f_52
  have f_63 : w_60[b + 2]? = some (qa_8, .inr (0, [.ref ra_16, .ref pa_17, .int (nI 0)])) := by rw [ew_60]; exact kx_push_old f_53
  have f_64 : w_60[b + 3]? = some (ra_16, .inl (k0 0, 12, .inl (fun y9 => nI ((fun _ => 0) y9)))) := by rw [ew_60]; exact kx_push_old f_54
  have f_65 : w_60[b + 4]? = some (pa_17, .inl (k0 0, 12, .inl (fun y9 => nI ((fun _ => 0) y9)))) := by rw [ew_60]; exact kx_push_old f_55
  have f_66 : w_60[b + 5]? = some (qa_29, .inr (0, [.ref ra_40, .ref pa_41, .int (nI 0)])) := by rw [ew_60]; exact kx_push_old f_56
  have f_67 : w_60[b + 6]? = some (ra_40, .inl (k0 0, 12, .inl (fun y9 => nI ((fun _ => 0) y9)))) := by rw [ew_60]; exact kx_push_old f_57
  have f_68 : w_60[b + 7]? = some (pa_41, .inl (k0 0, 12, .inl (fun y9 => nI ((fun _ => 0) y9)))) := by rw [ew_60]; exact kx_push_old f_58
  have f_69 : w_60[b + 8]? = some (qa_59, .inl (k0 0, 12, .inl (fun y9 => nI ((fun _ => 0) y9)))) := by rw [ew_60]; exact kx_push_new hlen
  have hfr : kx_fr w0 w_60 (fun j => b ≤ j) := kx_fr_tr hfr (by rw [ew_60]; exact kx_fr_push (by rw [hlen]; omega))
  have hlen : w_60.length = b + 9 := by rw [ew_60]; exact kx_push_len hlen
  refine va_putF (D := D) (ci := 2) (v := .ref qa_59) (ty := .array .int) (C := RX2) (T := TX2) (N := 4) hx hb hts inX2 tyX2 tyX2_ok nmX2 hown hK hP hD hS b f_61 rfl 3 (by decide) (hts _ tw_81) (fun _ h9 => h9) rfl hnm rfl (by decide +kernel) rfl rfl (Nat.le_of_ble_eq_true rfl) dX2_init_40 (fun H locs hP hD hS => ?_)
  obtain ⟨w_70, ew_70⟩ : ∃ w, w = w_60.set b (o, .inr (2, [.ref qa_1, .ref qa_8, .ref qa_29, .ref qa_59])) := ⟨_, rfl⟩
  have hP : va_P D vwCl w_70 H := by rw [ew_70]; exact hP
  have hD : va_D A w_70 := by rw [ew_70]; exact hD
  have f_71 : w_70[b]? = some (o, .inr (2, [.ref qa_1, .ref qa_8, .ref qa_29, .ref qa_59])) := by rw [ew_70]; exact kx_set_self f_61
  have f_72 : w_70[b + 1]? = some (qa_1, .inl (k0 1, 8, .inr (.inr (.inr (.inr (fun _ => none)))))) := by rw [ew_70]; exact kx_set_ne f_62 (by omega)
  have f_73 : w_70[b + 2]? = some (qa_8, .inr (0, [.ref ra_16, .ref pa_17, .int (nI 0)])) := by rw [ew_70]; exact kx_set_ne f_63 (by omega)
  have f_74 : w_70[b + 3]? = some (ra_16, .inl (k0 0, 12, .inl (fun y9 => nI ((fun _ => 0) y9)))) := by rw [ew_70]; exact kx_set_ne f_64 (by omega)
  have f_75 : w_70[b + 4]? = some (pa_17, .inl (k0 0, 12, .inl (fun y9 => nI ((fun _ => 0) y9)))) := by rw [ew_70]; exact kx_set_ne f_65 (by omega)
  have f_76 : w_70[b + 5]? = some (qa_29, .inr (0, [.ref ra_40, .ref pa_41, .int (nI 0)])) := by rw [ew_70]; exact kx_set_ne f_66 (by omega)
  have f_77 : w_70[b + 6]? = some (ra_40, .inl (k0 0, 12, .inl (fun y9 => nI ((fun _ => 0) y9)))) := by rw [ew_70]; exact kx_set_ne f_67 (by omega)
  have f_78 : w_70[b + 7]? = some (pa_41, .inl (k0 0, 12, .inl (fun y9 => nI ((fun _ => 0) y9)))) := by rw [ew_70]; exact kx_set_ne f_68 (by omega)
  have f_79 : w_70[b + 8]? = some (qa_59, .inl (k0 0, 12, .inl (fun y9 => nI ((fun _ => 0) y9)))) := by rw [ew_70]; exact kx_set_ne f_69 (by omega)
  have hfr : kx_fr w0 w_70 (fun j => b ≤ j) := kx_fr_tr hfr (by rw [ew_70]; exact kx_fr_set (by omega))
  have hlen : w_70.length = b + 9 := by rw [ew_70]; exact kx_set_len hlen
  refine lv_iconst (v := nI 0) hx hb dX2_init_43 (by decide +kernel) ?_
  refine lv_istore_n (lv' := [(1, .int (nI 0)), (0, .ref o)]) hx hb dX2_init_44 rfl hl (by decide) rfl (fun ls hl => ?_)
  have loop_45 : ∀ (n45 : Nat) (i : Nat) (fq : Nat → Option Nat) (gd : Nat → Nat), (i ≤ 8) → (9 ≤ i + n45) → ∀ (w1 : va_W), w1[b]? = some (o, .inr (2, [.ref qa_1, .ref qa_8, .ref qa_29, .ref qa_59])) → w1[b + 1]? = some (qa_1, .inl (k0 1, 8, .inr (.inr (.inr (.inr fq))))) → w1[b + 2]? = some (qa_8, .inr (0, [.ref ra_16, .ref pa_17, .int (nI 0)])) → w1[b + 3]? = some (ra_16, .inl (k0 0, 12, .inl (fun y9 => nI ((fun _ => 0) y9)))) → w1[b + 4]? = some (pa_17, .inl (k0 0, 12, .inl (fun y9 => nI ((fun _ => 0) y9)))) → w1[b + 5]? = some (qa_29, .inr (0, [.ref ra_40, .ref pa_41, .int (nI 0)])) → w1[b + 6]? = some (ra_40, .inl (k0 0, 12, .inl (fun y9 => nI ((fun _ => 0) y9)))) → w1[b + 7]? = some (pa_41, .inl (k0 0, 12, .inl (fun y9 => nI ((fun _ => 0) y9)))) → w1[b + 8]? = some (qa_59, .inl (k0 0, 12, .inl (fun y9 => nI ((fun _ => 0) y9)))) → kx_fr w0 w1 (fun j => b ≤ j) → (w1.length = b + 9 + 3 * i) → (∀ j, j < i → fq j = some (gd (9 + 3 * j)) ∧ atG w1 (b + 9 + 3 * j) k0 (gd (9 + 3 * j)) (gd (10 + 3 * j)) (gd (11 + 3 * j)) (fun _ => 0) (fun _ => nI 0) 0 (nI 1) 1) → ∀ (H : Heap) (locs : List Loc), va_P D vwCl w1 H → va_D A w1 → va_S A s.heap H locs → ∀ (ls : Array Slot), lv_has ls 2 [(1, .int (nI i)), (0, .ref o)] → W p l e ({ frames := 2, cells := 32, slots := 306, locals := 48 } : Room) s m ([.ref o] : List Value).toArray below meth c H locs (8 + 3 * i) (74 + 29 * i) (MQ below (va_Qv (fun (u : va_W) => ∃ ad : Nat → Nat, ad 0 = o ∧ atC u b k0 ad (fun _ => 0) (fun _ => 1) (fun _ => 1) (fun _ _ => 0) (fun _ _ => nI 0) ∧ u.length = b + 33 ∧ kx_fr w0 u (fun j => b ≤ j)) (kx_B D (tyL k0) A) A) ([.ref o] : List Value).toArray s 32 306 A) (F0 m 45 ls []) := by
    intro n45
    induction n45 with
    | zero =>
      intro i fq gd hi hme
      exact absurd hme (by omega)
    | succ n45 ih45 =>
      intro i fq gd hi hme w1 F45_0 F45_1 F45_2 F45_3 F45_4 F45_5 F45_6 F45_7 F45_8 hfr hlen hgr H locs hP hD hS ls hl
      have hfr2 : kx_fr w1 w1 (fun j => j = b + 1 ∨ b + 9 + 3 * i ≤ j) := kx_fr_rf _ _
      refine lv_iload_n hx hb dX2_init_45 rfl (lv_at hl 0 rfl) ?_
      refine lv_bipush (v := nI 8) hx hb dX2_init_46 (by decide +kernel) ?_
      refine lv_icmp_ge (tgt := 70) hx hb dX2_init_48 (by decide) (fun c_48 => ?_) (fun c_48 => ?_)
      · skip
        have hik : i = 8 := by
          have := (nI_leI (by omega) (by omega)).mp c_48
          omega
        subst hik
        refine W.widen (k := 32) (n := 306) (by omega) (by omega) ?_
        exact kx_vret hx hb hr hlocks hK hP hD hS dX2_init_70 (⟨kx_ad o qa_1 qa_8 ra_16 pa_17 qa_29 ra_40 pa_41 qa_59 gd, rfl, ⟨F45_0, ⟨fq, by assumption, fun j hj => by rw [kx_ad_ge (by omega)]; exact (hgr j hj).1⟩, ⟨_, _, _, by assumption, by assumption, by assumption⟩, ⟨_, _, _, by assumption, by assumption, by assumption⟩, ⟨_, by assumption⟩, fun j hj => by rw [kx_ad_ge (by omega), kx_ad_ge (by omega), kx_ad_ge (by omega)]; exact (hgr j hj).2⟩, hlen, hfr⟩)
      · skip
        have hik : i < 8 := by
          rcases Nat.lt_or_ge (i) (8) with h | h
          · exact h
          · exact absurd ((nI_leI (by omega) (by omega)).mpr h) c_48
        refine lv_aload_n hx hb dX2_init_51 rfl (lv_at hl 1 rfl) ?_
        refine va_get (D := D) (ci := 2) (v := .ref qa_1) (C := RX2) (T := TX2) (N := 4) hx hb hts inX2 hown hK hP b F45_0 rfl 0 (by decide) (hts _ tw_78) (fun _ h9 => h9) rfl dX2_init_52 ?_
        refine lv_iload_n hx hb dX2_init_55 rfl (lv_at hl 0 rfl) ?_
        refine va_new (ci := 1) (fs := [.null, .null, .int 0, .int 0, .int 0]) (C := RX1) (T := TX1) (N := 5) hx hb hts inX1 tyX1 tyX1_ok hown (hts _ tw_33) (hts _ tw_52) (hts _ tw_21) hK hP hD hS hA rfl (fun j hj => by rcases (show j = 0 ∨ j = 1 ∨ j = 2 ∨ j = 3 ∨ j = 4 by omega) with rfl | rfl | rfl | rfl | rfl <;> rfl) (by show (8 + 3 * i) + 1 ≤ (32 : Nat); omega) (by show (74 + 29 * i) + 5 ≤ (306 : Nat); omega) dX2_init_56 (fun qa_80 H hP hD hS => ?_)
        obtain ⟨w_81, ew_81⟩ : ∃ w, w = w1 ++ [(qa_80, .inr (1, [.null, .null, .int 0, .int 0, .int 0]))] := ⟨_, rfl⟩
        have hP : va_P D vwCl w_81 H := by rw [ew_81]; exact hP
        have hD : va_D A w_81 := by rw [ew_81]; exact hD
        have f_82 : w_81[b]? = some (o, .inr (2, [.ref qa_1, .ref qa_8, .ref qa_29, .ref qa_59])) := by rw [ew_81]; exact kx_push_old F45_0
        have f_83 : w_81[b + 1]? = some (qa_1, .inl (k0 1, 8, .inr (.inr (.inr (.inr fq))))) := by rw [ew_81]; exact kx_push_old F45_1
        have f_84 : w_81[b + 2]? = some (qa_8, .inr (0, [.ref ra_16, .ref pa_17, .int (nI 0)])) := by rw [ew_81]; exact kx_push_old F45_2
        have f_85 : w_81[b + 3]? = some (ra_16, .inl (k0 0, 12, .inl (fun y9 => nI ((fun _ => 0) y9)))) := by rw [ew_81]; exact kx_push_old F45_3
        have f_86 : w_81[b + 4]? = some (pa_17, .inl (k0 0, 12, .inl (fun y9 => nI ((fun _ => 0) y9)))) := by rw [ew_81]; exact kx_push_old F45_4
        have f_87 : w_81[b + 5]? = some (qa_29, .inr (0, [.ref ra_40, .ref pa_41, .int (nI 0)])) := by rw [ew_81]; exact kx_push_old F45_5
        have f_88 : w_81[b + 6]? = some (ra_40, .inl (k0 0, 12, .inl (fun y9 => nI ((fun _ => 0) y9)))) := by rw [ew_81]; exact kx_push_old F45_6
        have f_89 : w_81[b + 7]? = some (pa_41, .inl (k0 0, 12, .inl (fun y9 => nI ((fun _ => 0) y9)))) := by rw [ew_81]; exact kx_push_old F45_7
        have f_90 : w_81[b + 8]? = some (qa_59, .inl (k0 0, 12, .inl (fun y9 => nI ((fun _ => 0) y9)))) := by rw [ew_81]; exact kx_push_old F45_8
        have f_91 : w_81[b + 9 + 3 * i]? = some (qa_80, .inr (1, [.null, .null, .int 0, .int 0, .int 0])) := by rw [ew_81]; exact kx_push_new hlen
        have hfr : kx_fr w0 w_81 (fun j => b ≤ j) := kx_fr_tr hfr (by rw [ew_81]; exact kx_fr_push (by rw [hlen]; omega))
        have hfr2 : kx_fr w1 w_81 (fun j => j = b + 1 ∨ b + 9 + 3 * i ≤ j) := kx_fr_tr hfr2 (by rw [ew_81]; exact kx_fr_push (by rw [hlen]; omega))
        have hlen : w_81.length = b + 9 + 3 * i + 1 := by rw [ew_81]; exact kx_push_len hlen
        refine lv_dup hx hb dX2_init_59 rfl ?_
        refine kx_gov (va_runIN (As := []) (rest := [.ref qa_80, .int (nI i), .ref qa_1]) ⟨hx, hb, hml, hown, hts⟩ (c_Ginit l D k0 w_81 _ (b + 9 + 3 * i) qa_80 f_91 hlen) ⟨(kg_N (k := 0) hts tw_55 hN.2.1 tw_21 (by decide +kernel) rfl rfl ⟨Nat.le_of_ble_eq_true rfl, Nat.le_of_ble_eq_true rfl⟩), rfl, hts _ tw_54⟩ (kx_preS hN hK hP hD) rfl rfl hl.1 rfl (lv_room (Nat.le_of_ble_eq_true rfl)) dX2_init_60 ⟨by show ((8 + 3 * i) + 1) + 2 ≤ (32 : Nat); omega, by show ((74 + 29 * i) + 5) + 24 ≤ (306 : Nat); omega⟩) hD hS hA (fun u_94 H locs hp_92 hP hD hS => ?_)
        obtain ⟨ra_95, pa_96, ⟨hF1, hR1, hT1⟩, hlen, hq⟩ := hp_92
        have f_97 : u_94[b]? = some (o, .inr (2, [.ref qa_1, .ref qa_8, .ref qa_29, .ref qa_59])) := by rw [hq _ (by omega)]; exact f_82
        have f_98 : u_94[b + 1]? = some (qa_1, .inl (k0 1, 8, .inr (.inr (.inr (.inr fq))))) := by rw [hq _ (by omega)]; exact f_83
        have f_99 : u_94[b + 2]? = some (qa_8, .inr (0, [.ref ra_16, .ref pa_17, .int (nI 0)])) := by rw [hq _ (by omega)]; exact f_84
        have f_100 : u_94[b + 3]? = some (ra_16, .inl (k0 0, 12, .inl (fun y9 => nI ((fun _ => 0) y9)))) := by rw [hq _ (by omega)]; exact f_85
        have f_101 : u_94[b + 4]? = some (pa_17, .inl (k0 0, 12, .inl (fun y9 => nI ((fun _ => 0) y9)))) := by rw [hq _ (by omega)]; exact f_86
        have f_102 : u_94[b + 5]? = some (qa_29, .inr (0, [.ref ra_40, .ref pa_41, .int (nI 0)])) := by rw [hq _ (by omega)]; exact f_87
        have f_103 : u_94[b + 6]? = some (ra_40, .inl (k0 0, 12, .inl (fun y9 => nI ((fun _ => 0) y9)))) := by rw [hq _ (by omega)]; exact f_88
        have f_104 : u_94[b + 7]? = some (pa_41, .inl (k0 0, 12, .inl (fun y9 => nI ((fun _ => 0) y9)))) := by rw [hq _ (by omega)]; exact f_89
        have f_105 : u_94[b + 8]? = some (qa_59, .inl (k0 0, 12, .inl (fun y9 => nI ((fun _ => 0) y9)))) := by rw [hq _ (by omega)]; exact f_90
        have f_106 : u_94[b + 9 + 3 * i]? = some (qa_80, .inr (1, [.ref ra_95, .ref pa_96, .int (nI 0), .int (nI 1), .int 1])) := hF1
        have f_107 : u_94[b + 9 + 3 * i + 1]? = some (ra_95, .inl (k0 0, 12, .inl (fun y9 => nI ((fun _ => 0) y9)))) := hR1
        have f_108 : u_94[b + 9 + 3 * i + 2]? = some (pa_96, .inl (k0 0, 12, .inl (fun _ => nI 0))) := hT1
        have hfr : kx_fr w0 u_94 (fun j => b ≤ j) := kx_fr_tr hfr (kx_fr_mono hq (fun j h => by omega))
        have hfr2 : kx_fr w1 u_94 (fun j => j = b + 1 ∨ b + 9 + 3 * i ≤ j) := kx_fr_tr hfr2 (kx_fr_mono hq (fun j h => by omega))
        have hlen : u_94.length = b + 9 + 3 * i + 3 := hlen
        refine kx_qast hx hb hK hP hD hS (b + 1) (b + 9 + 3 * i) f_98 f_106 (i := i) (by omega) (by decide) dX2_init_63 (fun H locs hP hD hS => ?_)
        obtain ⟨w_109, ew_109⟩ : ∃ w, w = u_94.set (b + 1) (qa_1, .inl (k0 1, 8, .inr (.inr (.inr (.inr (va_up fq i (some qa_80))))))) := ⟨_, rfl⟩
        have hP : va_P D vwCl w_109 H := by rw [ew_109]; exact hP
        have hD : va_D A w_109 := by rw [ew_109]; exact hD
        have f_110 : w_109[b]? = some (o, .inr (2, [.ref qa_1, .ref qa_8, .ref qa_29, .ref qa_59])) := by rw [ew_109]; exact kx_set_ne f_97 (by omega)
        have f_111 : w_109[b + 1]? = some (qa_1, .inl (k0 1, 8, .inr (.inr (.inr (.inr (va_up fq i (some qa_80))))))) := by rw [ew_109]; exact kx_set_self f_98
        have f_112 : w_109[b + 2]? = some (qa_8, .inr (0, [.ref ra_16, .ref pa_17, .int (nI 0)])) := by rw [ew_109]; exact kx_set_ne f_99 (by omega)
        have f_113 : w_109[b + 3]? = some (ra_16, .inl (k0 0, 12, .inl (fun y9 => nI ((fun _ => 0) y9)))) := by rw [ew_109]; exact kx_set_ne f_100 (by omega)
        have f_114 : w_109[b + 4]? = some (pa_17, .inl (k0 0, 12, .inl (fun y9 => nI ((fun _ => 0) y9)))) := by rw [ew_109]; exact kx_set_ne f_101 (by omega)
        have f_115 : w_109[b + 5]? = some (qa_29, .inr (0, [.ref ra_40, .ref pa_41, .int (nI 0)])) := by rw [ew_109]; exact kx_set_ne f_102 (by omega)
        have f_116 : w_109[b + 6]? = some (ra_40, .inl (k0 0, 12, .inl (fun y9 => nI ((fun _ => 0) y9)))) := by rw [ew_109]; exact kx_set_ne f_103 (by omega)
        have f_117 : w_109[b + 7]? = some (pa_41, .inl (k0 0, 12, .inl (fun y9 => nI ((fun _ => 0) y9)))) := by rw [ew_109]; exact kx_set_ne f_104 (by omega)
        have f_118 : w_109[b + 8]? = some (qa_59, .inl (k0 0, 12, .inl (fun y9 => nI ((fun _ => 0) y9)))) := by rw [ew_109]; exact kx_set_ne f_105 (by omega)
        have f_119 : w_109[b + 9 + 3 * i]? = some (qa_80, .inr (1, [.ref ra_95, .ref pa_96, .int (nI 0), .int (nI 1), .int 1])) := by rw [ew_109]; exact kx_set_ne f_106 (by omega)
        have f_120 : w_109[b + 9 + 3 * i + 1]? = some (ra_95, .inl (k0 0, 12, .inl (fun y9 => nI ((fun _ => 0) y9)))) := by rw [ew_109]; exact kx_set_ne f_107 (by omega)
        have f_121 : w_109[b + 9 + 3 * i + 2]? = some (pa_96, .inl (k0 0, 12, .inl (fun _ => nI 0))) := by rw [ew_109]; exact kx_set_ne f_108 (by omega)
        have hfr : kx_fr w0 w_109 (fun j => b ≤ j) := kx_fr_tr hfr (by rw [ew_109]; exact kx_fr_set (by omega))
        have hfr2 : kx_fr w1 w_109 (fun j => j = b + 1 ∨ b + 9 + 3 * i ≤ j) := kx_fr_tr hfr2 (by rw [ew_109]; exact kx_fr_set (by omega))
        have hlen : w_109.length = b + 9 + 3 * i + 3 := by rw [ew_109]; exact kx_set_len hlen
        refine lv_iinc (v := nI (i + 1)) (lv' := [(1, .int (nI (i + 1))), (0, .ref o)]) hx hb dX2_init_64 hl (k := 0) rfl (nI_1 _) (by decide) rfl (fun ls hl => ?_)
        refine lv_goto (tgt := 45) hx hb dX2_init_67 (by decide) ?_
        refine W.widen (k := (8 + 3 * (i + 1))) (n := (74 + 29 * (i + 1))) (by omega) (by omega) ?_
        exact ih45 (i + 1) (va_up fq i (some qa_80)) (va_up (va_up (va_up gd (9 + 3 * i) qa_80) (10 + 3 * i) ra_95) (11 + 3 * i) pa_96) (by omega) (by omega) w_109 f_110 f_111 f_112 f_113 f_114 f_115 f_116 f_117 f_118 hfr (by rw [hlen]; omega) (fun j hj => by
            by_cases hji : j = i
            · subst hji
              refine ⟨?_, ?_⟩
              · simp [va_up]
              · have e1 : (va_up (va_up (va_up gd (9 + 3 * j) qa_80) (10 + 3 * j) ra_95) (11 + 3 * j) pa_96) (9 + 3 * j) = qa_80 := by simp only [va_up]; rw [if_neg (by omega), if_neg (by omega), if_pos trivial]
                have e2 : (va_up (va_up (va_up gd (9 + 3 * j) qa_80) (10 + 3 * j) ra_95) (11 + 3 * j) pa_96) (10 + 3 * j) = ra_95 := by simp only [va_up]; rw [if_neg (by omega), if_pos trivial]
                have e3 : (va_up (va_up (va_up gd (9 + 3 * j) qa_80) (10 + 3 * j) ra_95) (11 + 3 * j) pa_96) (11 + 3 * j) = pa_96 := by simp only [va_up]; rw [if_pos trivial]
                rw [e1, e2, e3]; exact ⟨f_119, f_120, f_121⟩
            · have h9 := hgr j (by omega)
              have e1 : (va_up (va_up (va_up gd (9 + 3 * i) qa_80) (10 + 3 * i) ra_95) (11 + 3 * i) pa_96) (9 + 3 * j) = gd (9 + 3 * j) := by simp only [va_up]; rw [if_neg (by omega), if_neg (by omega), if_neg (by omega)]
              have e2 : (va_up (va_up (va_up gd (9 + 3 * i) qa_80) (10 + 3 * i) ra_95) (11 + 3 * i) pa_96) (10 + 3 * j) = gd (10 + 3 * j) := by simp only [va_up]; rw [if_neg (by omega), if_neg (by omega), if_neg (by omega)]
              have e3 : (va_up (va_up (va_up gd (9 + 3 * i) qa_80) (10 + 3 * i) ra_95) (11 + 3 * i) pa_96) (11 + 3 * j) = gd (11 + 3 * j) := by simp only [va_up]; rw [if_neg (by omega), if_neg (by omega), if_neg (by omega)]
              rw [e1, e2, e3, va_up_ne _ _ hji]
              exact ⟨h9.1, atG_fr h9.2 hfr2 ⟨by omega, by omega, by omega⟩⟩) _ _ hP hD hS _ (lv_sub hl [0, 1] rfl)
  refine W.widen (k := 8) (n := 74) (by omega) (by omega) ?_
  exact loop_45 (9) 0 (fun _ => none) (fun _ => 0) (by omega) (by omega) w_70 f_71 f_72 f_73 f_74 f_75 f_76 f_77 f_78 f_79 hfr hlen (fun j h => absurd h (Nat.not_lt_zero j)) _ _ hP hD hS _ (lv_sub hl [0, 1] rfl)
