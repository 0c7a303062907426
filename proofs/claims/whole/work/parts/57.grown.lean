set_option maxHeartbeats 4000000 in
set_option maxRecDepth 100000 in
/-- largestInBoth(g, h) -/
theorem c_largest (l : Launch) (D : va_G) (k0 : Nat → ClassId)  (w0 : va_W) (sz : Nat) (b o a1 a8 : Nat) (f ra pa : Nat) (rows parts : Nat → Nat) (k : Nat) (hF : w0[b + 2]? = some (f, .inr (0, [.ref ra, .ref pa, .int (nI k)]))) (hR : w0[b + 2 + 1]? = some (ra, .inl (k0 0, 12, .inl (fun j => nI (rows j))))) (hT : w0[b + 2 + 2]? = some (pa, .inl (k0 0, 12, .inl (fun j => nI (parts j))))) (f2 rb pb : Nat) (rows2 parts2 : Nat → Nat) (kk : Nat) (hF2 : w0[b + 5]? = some (f2, .inr (0, [.ref rb, .ref pb, .int (nI kk)]))) (hR2 : w0[b + 5 + 1]? = some (rb, .inl (k0 0, 12, .inl (fun j => nI (rows2 j))))) (hT2 : w0[b + 5 + 2]? = some (pb, .inl (k0 0, 12, .inl (fun j => nI (parts2 j))))) (hO : w0[b]? = some (o, .inr (2, [.ref a1, .ref f, .ref f2, .ref a8]))) (qg g ga gb : Nat) (L : Nat → Nat) (wt : Nat → Int32) (n : Nat) (vv oo : Int32) (hG : w0[qg]? = some (g, .inr (1, [.ref ga, .ref gb, .int (nI n), .int vv, .int oo]))) (hL : w0[qg + 1]? = some (ga, .inl (k0 0, 12, .inl (fun j => nI (L j))))) (hW : w0[qg + 2]? = some (gb, .inl (k0 0, 12, .inl wt))) (qh g2 ma mb : Nat) (M : Nat → Nat) (wt2 : Nat → Int32) (vv2 oo2 : Int32) (hG2 : w0[qh]? = some (g2, .inr (1, [.ref ma, .ref mb, .int (nI n), .int vv2, .int oo2]))) (hL2 : w0[qh + 1]? = some (ma, .inl (k0 0, 12, .inl (fun j => nI (M j))))) (hW2 : w0[qh + 2]? = some (mb, .inl (k0 0, 12, .inl wt2))) (hag : b + 9 ≤ qg) (hah : b + 9 ≤ qh) (hn : n ≤ 12) (hLb : ∀ j, j < n → L j < 2 ^ 24) (hMb : ∀ j, j < n → M j < 2 ^ 24) : kx_i l yX2_largestInBoth wsX2_largestInBoth ({ frames := 17, cells := 0, slots := 0, locals := 464 } : Room) D (tyL k0) w0 sz [.ref o, .ref g, .ref g2] (fun (r : Int32) (u : va_W) => ∃ res, r = nI res ∧ cm_spec L M n res ∧ ∃ (ro1 pt1 ro2 pt2 : Nat → Nat), atF u (b + 2) k0 f ra pa ro1 pt1 0 ∧ atF u (b + 5) k0 f2 rb pb ro2 pt2 0 ∧ kx_fr w0 u (fun j => b + 2 ≤ j ∧ j < b + 8)) 0 0 := by
  refine kx_of (Qf := fun A => va_Qi (fun (r : Int32) (u : va_W) => ∃ res, r = nI res ∧ cm_spec L M n res ∧ ∃ (ro1 pt1 ro2 pt2 : Nat → Nat), atF u (b + 2) k0 f ra pa ro1 pt1 0 ∧ atF u (b + 5) k0 f2 rb pb ro2 pt2 0 ∧ kx_fr w0 u (fun j => b + 2 ≤ j ∧ j < b + 8)) (kx_B D (tyL k0) A) A) (cc := cX2_largestInBoth) (maxL := 4) (ret := (some .int)) (by decide +kernel) (Nat.le_of_ble_eq_true rfl) ?_
  intro p e s m below meth c A ls hx hb hml hown hts hr hlocks hnm hN hK hP hD hS hA hl
  have hown : s.vm.findClass RX2 = some m.cls := hown
  have hl : lv_has ls 4 [(0, .ref o), (1, .ref g), (2, .ref g2)] := hl
  have hfr : kx_fr w0 w0 (fun j => b + 2 ≤ j ∧ j < b + 8) := kx_fr_rf _ _
  have hfl := kb_full_lt hn
  refine lv_aload_n hx hb dX2_largestInBoth_0 rfl (lv_at hl 0 rfl) ?_
  refine va_get (D := D) (ci := 2) (v := .ref f) (C := RX2) (T := TX2) (N := 4) hx hb hts inX2 hown hK hP b hO rfl 1 (by decide) (hts _ tw_79) (fun _ h9 => h9) rfl dX2_largestInBoth_1 ?_
  refine lv_aload_n hx hb dX2_largestInBoth_4 rfl (lv_at hl 1 rfl) ?_
  refine lv_aload_n hx hb dX2_largestInBoth_5 rfl (lv_at hl 1 rfl) ?_
  refine va_get (D := D) (ci := 1) (v := .int (nI n)) (C := RX1) (T := TX1) (N := 5) hx hb hts inX1 hown hK hP qg hG rfl 2 (by decide) (hts _ tw_64) (fun _ h9 => h9) rfl dX2_largestInBoth_6 ?_
  refine kx_goi (va_runS (As := [.int (nI n)]) (rest := [.ref g, .ref f]) ⟨hx, hb, hml, hown, hts⟩ (c_all l D k0 w0 _ n hn) ⟨(kg_B (k := 1) hts tw_132 tw_130 tw_19 (by decide +kernel) rfl rfl ⟨Nat.le_of_ble_eq_true rfl, Nat.le_of_ble_eq_true rfl⟩), hts _ tw_131⟩ (kx_preS hN hK hP hD) rfl rfl hl.1 rfl (lv_room (Nat.le_of_ble_eq_true rfl)) dX2_largestInBoth_9 ⟨Nat.le_of_ble_eq_true rfl, Nat.le_of_ble_eq_true rfl⟩) hD hS hA (fun r_2 u_3 H locs hp_1 hP hD hS => ?_)
  obtain ⟨er_2, eu_3⟩ := hp_1
  rw [eu_3] at hP hD; subst er_2
  refine kx_goi (va_runV (As := [.ref g, .int (nI (cf_full n))]) (rest := []) ⟨hx, hb, hml, hown, hts⟩ (c_fill l D k0 w0 _ (b + 2) f ra pa rows parts k hF hR hT qg g ga gb L wt n vv oo hG hL hW (by omega) hn hLb (cf_full n) (by omega)) ⟨(kg_B (k := 2) hts tw_136 tw_133 tw_20 (by decide +kernel) rfl rfl ⟨Nat.le_of_ble_eq_true rfl, Nat.le_of_ble_eq_true rfl⟩), hts _ tw_134, hts _ tw_135⟩ (kx_preV hN hK hP hD rfl hF) rfl rfl hl.1 rfl (lv_room (Nat.le_of_ble_eq_true rfl)) dX2_largestInBoth_12 ⟨Nat.le_of_ble_eq_true rfl, Nat.le_of_ble_eq_true rfl⟩) hD hS hA (fun r_5 u_6 H locs hp_4 hP hD hS => ?_)
  obtain ⟨FA, eFA⟩ : ∃ F : fo_St, F = fo_fill L (cf_full n) rows parts n := ⟨_, rfl⟩
  rw [← eFA] at hp_4
  obtain ⟨erFA, ⟨hF9, hR9, hT9⟩, hq⟩ := hp_4
  have f_7 : u_6[b]? = some (o, .inr (2, [.ref a1, .ref f, .ref f2, .ref a8])) := by rw [hq _ (by omega)]; exact hO
  have f_8 : u_6[b + 2]? = some (f, .inr (0, [.ref ra, .ref pa, .int (nI FA.2.2)])) := hF9
  have f_9 : u_6[b + 2 + 1]? = some (ra, .inl (k0 0, 12, .inl (fun y9 => nI (FA.1 y9)))) := hR9
  have f_10 : u_6[b + 2 + 2]? = some (pa, .inl (k0 0, 12, .inl (fun y9 => nI (FA.2.1 y9)))) := hT9
  have f_11 : u_6[b + 5]? = some (f2, .inr (0, [.ref rb, .ref pb, .int (nI kk)])) := by rw [hq _ (by omega)]; exact hF2
  have f_12 : u_6[b + 5 + 1]? = some (rb, .inl (k0 0, 12, .inl (fun y9 => nI (rows2 y9)))) := by rw [hq _ (by omega)]; exact hR2
  have f_13 : u_6[b + 5 + 2]? = some (pb, .inl (k0 0, 12, .inl (fun y9 => nI (parts2 y9)))) := by rw [hq _ (by omega)]; exact hT2
  have f_14 : u_6[qg]? = some (g, .inr (1, [.ref ga, .ref gb, .int (nI n), .int vv, .int oo])) := by rw [hq _ (by omega)]; exact hG
  have f_15 : u_6[qg + 1]? = some (ga, .inl (k0 0, 12, .inl (fun y9 => nI (L y9)))) := by rw [hq _ (by omega)]; exact hL
  have f_16 : u_6[qg + 2]? = some (gb, .inl (k0 0, 12, .inl wt)) := by rw [hq _ (by omega)]; exact hW
  have f_17 : u_6[qh]? = some (g2, .inr (1, [.ref ma, .ref mb, .int (nI n), .int vv2, .int oo2])) := by rw [hq _ (by omega)]; exact hG2
  have f_18 : u_6[qh + 1]? = some (ma, .inl (k0 0, 12, .inl (fun y9 => nI (M y9)))) := by rw [hq _ (by omega)]; exact hL2
  have f_19 : u_6[qh + 2]? = some (mb, .inl (k0 0, 12, .inl wt2)) := by rw [hq _ (by omega)]; exact hW2
  have hfr : kx_fr w0 u_6 (fun j => b + 2 ≤ j ∧ j < b + 8) := kx_fr_tr hfr (kx_fr_mono hq (fun j h => by omega))
  subst erFA
  refine lv_aload_n hx hb dX2_largestInBoth_15 rfl (lv_at hl 0 rfl) ?_
  refine va_get (D := D) (ci := 2) (v := .ref f2) (C := RX2) (T := TX2) (N := 4) hx hb hts inX2 hown hK hP b f_7 rfl 2 (by decide) (hts _ tw_80) (fun _ h9 => h9) rfl dX2_largestInBoth_16 ?_
  refine lv_aload_n hx hb dX2_largestInBoth_19 rfl (lv_at hl 2 rfl) ?_
  refine lv_aload_n hx hb dX2_largestInBoth_20 rfl (lv_at hl 2 rfl) ?_
  refine va_get (D := D) (ci := 1) (v := .int (nI n)) (C := RX1) (T := TX1) (N := 5) hx hb hts inX1 hown hK hP qh f_17 rfl 2 (by decide) (hts _ tw_64) (fun _ h9 => h9) rfl dX2_largestInBoth_21 ?_
  refine kx_goi (va_runS (As := [.int (nI n)]) (rest := [.ref g2, .ref f2, .int (nI FA.2.2)]) ⟨hx, hb, hml, hown, hts⟩ (c_all l D k0 u_6 _ n hn) ⟨(kg_B (k := 1) hts tw_132 tw_130 tw_19 (by decide +kernel) rfl rfl ⟨Nat.le_of_ble_eq_true rfl, Nat.le_of_ble_eq_true rfl⟩), hts _ tw_131⟩ (kx_preS hN hK hP hD) rfl rfl hl.1 rfl (lv_room (Nat.le_of_ble_eq_true rfl)) dX2_largestInBoth_24 ⟨Nat.le_of_ble_eq_true rfl, Nat.le_of_ble_eq_true rfl⟩) hD hS hA (fun r_21 u_22 H locs hp_20 hP hD hS => ?_)
  obtain ⟨er_21, eu_22⟩ := hp_20
  rw [eu_22] at hP hD; subst er_21
  refine kx_goi (va_runV (As := [.ref g2, .int (nI (cf_full n))]) (rest := [.int (nI FA.2.2)]) ⟨hx, hb, hml, hown, hts⟩ (c_fill l D k0 u_6 _ (b + 5) f2 rb pb rows2 parts2 kk f_11 f_12 f_13 qh g2 ma mb M wt2 n vv2 oo2 f_17 f_18 f_19 (by omega) hn hMb (cf_full n) (by omega)) ⟨(kg_B (k := 2) hts tw_136 tw_133 tw_20 (by decide +kernel) rfl rfl ⟨Nat.le_of_ble_eq_true rfl, Nat.le_of_ble_eq_true rfl⟩), hts _ tw_134, hts _ tw_135⟩ (kx_preV hN hK hP hD rfl f_11) rfl rfl hl.1 rfl (lv_room (Nat.le_of_ble_eq_true rfl)) dX2_largestInBoth_27 ⟨Nat.le_of_ble_eq_true rfl, Nat.le_of_ble_eq_true rfl⟩) hD hS hA (fun r_24 u_25 H locs hp_23 hP hD hS => ?_)
  obtain ⟨FB, eFB⟩ : ∃ F : fo_St, F = fo_fill M (cf_full n) rows2 parts2 n := ⟨_, rfl⟩
  rw [← eFB] at hp_23
  obtain ⟨erFB, ⟨hF9, hR9, hT9⟩, hq⟩ := hp_23
  have f_26 : u_25[b]? = some (o, .inr (2, [.ref a1, .ref f, .ref f2, .ref a8])) := by rw [hq _ (by omega)]; exact f_7
  have f_27 : u_25[b + 2]? = some (f, .inr (0, [.ref ra, .ref pa, .int (nI FA.2.2)])) := by rw [hq _ (by omega)]; exact f_8
  have f_28 : u_25[b + 2 + 1]? = some (ra, .inl (k0 0, 12, .inl (fun y9 => nI (FA.1 y9)))) := by rw [hq _ (by omega)]; exact f_9
  have f_29 : u_25[b + 2 + 2]? = some (pa, .inl (k0 0, 12, .inl (fun y9 => nI (FA.2.1 y9)))) := by rw [hq _ (by omega)]; exact f_10
  have f_30 : u_25[b + 5]? = some (f2, .inr (0, [.ref rb, .ref pb, .int (nI FB.2.2)])) := hF9
  have f_31 : u_25[b + 5 + 1]? = some (rb, .inl (k0 0, 12, .inl (fun y9 => nI (FB.1 y9)))) := hR9
  have f_32 : u_25[b + 5 + 2]? = some (pb, .inl (k0 0, 12, .inl (fun y9 => nI (FB.2.1 y9)))) := hT9
  have f_33 : u_25[qg]? = some (g, .inr (1, [.ref ga, .ref gb, .int (nI n), .int vv, .int oo])) := by rw [hq _ (by omega)]; exact f_14
  have f_34 : u_25[qg + 1]? = some (ga, .inl (k0 0, 12, .inl (fun y9 => nI (L y9)))) := by rw [hq _ (by omega)]; exact f_15
  have f_35 : u_25[qg + 2]? = some (gb, .inl (k0 0, 12, .inl wt)) := by rw [hq _ (by omega)]; exact f_16
  have f_36 : u_25[qh]? = some (g2, .inr (1, [.ref ma, .ref mb, .int (nI n), .int vv2, .int oo2])) := by rw [hq _ (by omega)]; exact f_17
  have f_37 : u_25[qh + 1]? = some (ma, .inl (k0 0, 12, .inl (fun y9 => nI (M y9)))) := by rw [hq _ (by omega)]; exact f_18
  have f_38 : u_25[qh + 2]? = some (mb, .inl (k0 0, 12, .inl wt2)) := by rw [hq _ (by omega)]; exact f_19
  have hfr : kx_fr w0 u_25 (fun j => b + 2 ≤ j ∧ j < b + 8) := kx_fr_tr hfr (kx_fr_mono hq (fun j h => by omega))
  subst erFB
  have eA := fo_fill_rk L n (cf_full n) rows parts
  have eB := fo_fill_rk M n (cf_full n) rows2 parts2
  rw [← eFA] at eA
  rw [← eFB] at eB
  have hA12 : FA.2.2 ≤ 12 := by rw [eA]; exact Nat.le_trans cf_rk_le (Nat.le_trans (cf_card_le _ _) hn)
  have hB12 : FB.2.2 ≤ 12 := by rw [eB]; exact Nat.le_trans cf_rk_le (Nat.le_trans (cf_card_le _ _) hn)
  have hfull : ∀ J j : Nat, j < n → J.testBit j = true → (cf_full n).testBit j = true := fun J j hj _ => by rw [cf_full_bit]; exact decide_eq_true hj
  have hlim : ∀ J, cf_ind L n J → cf_ind M n J → cf_card n J ≤ min FA.2.2 FB.2.2 := fun J h1 h2 => by
    have k1 := cf_rk_ind (S := cf_full n) h1 (hfull J)
    have k2 := cf_rk_ind (S := cf_full n) h2 (hfull J)
    omega
  refine va_mmin hx hb (by rw [hml]; exact hl.1.symm) hown (hts _ tw_222) (hts _ tw_153) (hts _ tw_23) (hts _ tw_min) (Nat.le_of_ble_eq_true rfl) (Nat.le_of_ble_eq_true rfl) (Nat.le_of_ble_eq_true rfl) (Nat.le_of_ble_eq_true rfl) dX2_largestInBoth_30 ?_
  refine lv_topi (fun z_39 ez_39 => ?_)
  have ez_39 : z_39 = nI (min FA.2.2 FB.2.2) := by rw [ez_39]; exact kb_minN (by omega) (by omega)
  subst ez_39
  refine lv_istore_n (lv' := [(3, .int (nI (min FA.2.2 FB.2.2))), (0, .ref o), (1, .ref g), (2, .ref g2)]) hx hb dX2_largestInBoth_33 rfl hl (by decide) rfl (fun ls hl => ?_)
  refine lv_aload_n hx hb dX2_largestInBoth_34 rfl (lv_at hl 1 rfl) ?_
  refine va_get (D := D) (ci := 2) (v := .ref f) (C := RX2) (T := TX2) (N := 4) hx hb hts inX2 hown hK hP b f_26 rfl 1 (by decide) (hts _ tw_79) (fun _ h9 => h9) rfl dX2_largestInBoth_35 ?_
  refine kx_gov (va_runV (As := []) (rest := []) ⟨hx, hb, hml, hown, hts⟩ (c_clear l D k0 u_25 _ (b + 2) f ra pa FA.1 FA.2.1 FA.2.2 f_27 f_28 f_29) ⟨(kg_B (k := 0) hts tw_140 tw_203 tw_20 (by decide +kernel) rfl rfl ⟨Nat.le_of_ble_eq_true rfl, Nat.le_of_ble_eq_true rfl⟩), hts _ tw_138, hts _ tw_139⟩ (kx_preV hN hK hP hD rfl f_27) rfl rfl hl.1 rfl (lv_room (Nat.le_of_ble_eq_true rfl)) dX2_largestInBoth_38 ⟨Nat.le_of_ble_eq_true rfl, Nat.le_of_ble_eq_true rfl⟩) hD hS hA (fun u_42 H locs hp_40 hP hD hS => ?_)
  obtain ⟨⟨hF9, hR9, hT9⟩, hq⟩ := hp_40
  have f_43 : u_42[b]? = some (o, .inr (2, [.ref a1, .ref f, .ref f2, .ref a8])) := by rw [hq _ (by omega)]; exact f_26
  have f_44 : u_42[b + 2]? = some (f, .inr (0, [.ref ra, .ref pa, .int (nI 0)])) := hF9
  have f_45 : u_42[b + 2 + 1]? = some (ra, .inl (k0 0, 12, .inl (fun y9 => nI (FA.1 y9)))) := hR9
  have f_46 : u_42[b + 2 + 2]? = some (pa, .inl (k0 0, 12, .inl (fun y9 => nI (FA.2.1 y9)))) := hT9
  have f_47 : u_42[b + 5]? = some (f2, .inr (0, [.ref rb, .ref pb, .int (nI FB.2.2)])) := by rw [hq _ (by omega)]; exact f_30
  have f_48 : u_42[b + 5 + 1]? = some (rb, .inl (k0 0, 12, .inl (fun y9 => nI (FB.1 y9)))) := by rw [hq _ (by omega)]; exact f_31
  have f_49 : u_42[b + 5 + 2]? = some (pb, .inl (k0 0, 12, .inl (fun y9 => nI (FB.2.1 y9)))) := by rw [hq _ (by omega)]; exact f_32
  have f_50 : u_42[qg]? = some (g, .inr (1, [.ref ga, .ref gb, .int (nI n), .int vv, .int oo])) := by rw [hq _ (by omega)]; exact f_33
  have f_51 : u_42[qg + 1]? = some (ga, .inl (k0 0, 12, .inl (fun y9 => nI (L y9)))) := by rw [hq _ (by omega)]; exact f_34
  have f_52 : u_42[qg + 2]? = some (gb, .inl (k0 0, 12, .inl wt)) := by rw [hq _ (by omega)]; exact f_35
  have f_53 : u_42[qh]? = some (g2, .inr (1, [.ref ma, .ref mb, .int (nI n), .int vv2, .int oo2])) := by rw [hq _ (by omega)]; exact f_36
  have f_54 : u_42[qh + 1]? = some (ma, .inl (k0 0, 12, .inl (fun y9 => nI (M y9)))) := by rw [hq _ (by omega)]; exact f_37
  have f_55 : u_42[qh + 2]? = some (mb, .inl (k0 0, 12, .inl wt2)) := by rw [hq _ (by omega)]; exact f_38
  have hfr : kx_fr w0 u_42 (fun j => b + 2 ≤ j ∧ j < b + 8) := kx_fr_tr hfr (kx_fr_mono hq (fun j h => by omega))
  refine lv_aload_n hx hb dX2_largestInBoth_41 rfl (lv_at hl 1 rfl) ?_
  refine va_get (D := D) (ci := 2) (v := .ref f2) (C := RX2) (T := TX2) (N := 4) hx hb hts inX2 hown hK hP b f_43 rfl 2 (by decide) (hts _ tw_80) (fun _ h9 => h9) rfl dX2_largestInBoth_42 ?_
  refine kx_gov (va_runV (As := []) (rest := []) ⟨hx, hb, hml, hown, hts⟩ (c_clear l D k0 u_42 _ (b + 5) f2 rb pb FB.1 FB.2.1 FB.2.2 f_47 f_48 f_49) ⟨(kg_B (k := 0) hts tw_140 tw_203 tw_20 (by decide +kernel) rfl rfl ⟨Nat.le_of_ble_eq_true rfl, Nat.le_of_ble_eq_true rfl⟩), hts _ tw_138, hts _ tw_139⟩ (kx_preV hN hK hP hD rfl f_47) rfl rfl hl.1 rfl (lv_room (Nat.le_of_ble_eq_true rfl)) dX2_largestInBoth_45 ⟨Nat.le_of_ble_eq_true rfl, Nat.le_of_ble_eq_true rfl⟩) hD hS hA (fun u_58 H locs hp_56 hP hD hS => ?_)
  obtain ⟨⟨hF9, hR9, hT9⟩, hq⟩ := hp_56
  have f_59 : u_58[b]? = some (o, .inr (2, [.ref a1, .ref f, .ref f2, .ref a8])) := by rw [hq _ (by omega)]; exact f_43
  have f_60 : u_58[b + 2]? = some (f, .inr (0, [.ref ra, .ref pa, .int (nI 0)])) := by rw [hq _ (by omega)]; exact f_44
  have f_61 : u_58[b + 2 + 1]? = some (ra, .inl (k0 0, 12, .inl (fun y9 => nI (FA.1 y9)))) := by rw [hq _ (by omega)]; exact f_45
  have f_62 : u_58[b + 2 + 2]? = some (pa, .inl (k0 0, 12, .inl (fun y9 => nI (FA.2.1 y9)))) := by rw [hq _ (by omega)]; exact f_46
  have f_63 : u_58[b + 5]? = some (f2, .inr (0, [.ref rb, .ref pb, .int (nI 0)])) := hF9
  have f_64 : u_58[b + 5 + 1]? = some (rb, .inl (k0 0, 12, .inl (fun y9 => nI (FB.1 y9)))) := hR9
  have f_65 : u_58[b + 5 + 2]? = some (pb, .inl (k0 0, 12, .inl (fun y9 => nI (FB.2.1 y9)))) := hT9
  have f_66 : u_58[qg]? = some (g, .inr (1, [.ref ga, .ref gb, .int (nI n), .int vv, .int oo])) := by rw [hq _ (by omega)]; exact f_50
  have f_67 : u_58[qg + 1]? = some (ga, .inl (k0 0, 12, .inl (fun y9 => nI (L y9)))) := by rw [hq _ (by omega)]; exact f_51
  have f_68 : u_58[qg + 2]? = some (gb, .inl (k0 0, 12, .inl wt)) := by rw [hq _ (by omega)]; exact f_52
  have f_69 : u_58[qh]? = some (g2, .inr (1, [.ref ma, .ref mb, .int (nI n), .int vv2, .int oo2])) := by rw [hq _ (by omega)]; exact f_53
  have f_70 : u_58[qh + 1]? = some (ma, .inl (k0 0, 12, .inl (fun y9 => nI (M y9)))) := by rw [hq _ (by omega)]; exact f_54
  have f_71 : u_58[qh + 2]? = some (mb, .inl (k0 0, 12, .inl wt2)) := by rw [hq _ (by omega)]; exact f_55
  have hfr : kx_fr w0 u_58 (fun j => b + 2 ≤ j ∧ j < b + 8) := kx_fr_tr hfr (kx_fr_mono hq (fun j h => by omega))
  refine lv_aload_n hx hb dX2_largestInBoth_48 rfl (lv_at hl 1 rfl) ?_
  refine lv_aload_n hx hb dX2_largestInBoth_49 rfl (lv_at hl 2 rfl) ?_
  refine lv_aload_n hx hb dX2_largestInBoth_50 rfl (lv_at hl 3 rfl) ?_
  refine lv_iconst (v := nI 0) hx hb dX2_largestInBoth_51 (by decide +kernel) ?_
  refine lv_iconst (v := nI 0) hx hb dX2_largestInBoth_52 (by decide +kernel) ?_
  refine lv_iconst (v := nI 0) hx hb dX2_largestInBoth_53 (by decide +kernel) ?_
  refine lv_iload_n hx hb dX2_largestInBoth_54 rfl (lv_at hl 0 rfl) ?_
  refine kx_goi (va_runV (As := [.ref g, .ref g2, .int (nI 0), .int (nI 0), .int (nI 0), .int (nI (min FA.2.2 FB.2.2))]) (rest := []) ⟨hx, hb, hml, hown, hts⟩ (c_searched l D k0 n u_58 _ b o a1 a8 f ra pa FA.1 FA.2.1 0 f_60 f_61 f_62 f2 rb pb FB.1 FB.2.1 0 f_63 f_64 f_65 f_59 qg g ga gb L wt n vv oo f_66 f_67 f_68 qh g2 ma mb M wt2 vv2 oo2 f_69 f_70 f_71 hag hah hn hLb hMb 0 0 0 (min FA.2.2 FB.2.2) (Nat.zero_add n) (fun i _ => Nat.zero_testBit i) (fo_ok_0 _ _ _ _) (fo_ok_0 _ _ _ _) (fun j h => absurd h (Nat.not_lt_zero j)) (fun j h => absurd h (Nat.not_lt_zero j)) (cf_sub_0 _) hlim (by omega)) ⟨(kg_B (k := 6) hts tw_226 tw_223 tw_19 (by decide +kernel) rfl rfl ⟨by show 4 + n + 1 ≤ (17 : Nat); omega, by show (8 : Nat) + (9 + 11) + (100 + 28 * n) ≤ 464; omega⟩), hts _ tw_225, hts _ tw_5⟩ (kx_preV hN hK hP hD rfl f_59) rfl rfl hl.1 rfl (lv_room (Nat.le_of_ble_eq_true rfl)) dX2_largestInBoth_55 ⟨Nat.le_of_ble_eq_true rfl, Nat.le_of_ble_eq_true rfl⟩) hD hS hA (fun r_73 u_74 H locs hp_72 hP hD hS => ?_)
  obtain ⟨res, er, _, hsp, so1, st1, so2, st2, hF9, hF8, _, _, hq⟩ := hp_72
  subst er
  have hfr : kx_fr w0 u_74 (fun j => b + 2 ≤ j ∧ j < b + 8) := kx_fr_tr hfr hq
  exact kx_iret (v := nI res) hx hb hr rfl hlocks hK hP hD hS dX2_largestInBoth_58 (⟨res, rfl, cm_of_se hsp, so1, st1, so2, st2, hF9, hF8, hfr⟩)

theorem cv_grown_lt {I C n : Nat} {w1 w2 : Nat → Nat} (hn : n ≤ 12) (hC : C < 2 ^ 12) (h1 : ∀ e, e < n → w1 e < 2 ^ 12) : ∀ m, m ≤ n → cv_grown I w1 w2 C m < 2 ^ 12 := by
  intro m
  induction m with
  | zero => intro _; exact hC
  | succ m ih =>
    intro hm
    have h := ih (by omega)
    simp only [cv_grown]
    split
    · exact h
    · split
      · exact Nat.or_lt_two_pow h (h1 m (by omega))
      · split
        · exact h
        · exact Nat.or_lt_two_pow h (Nat.pow_lt_pow_right (by omega) (by omega))
theorem cv_g_1 {I C e : Nat} {w1 w2 : Nat → Nat} (h : I.testBit e = true) : cv_grown I w1 w2 C (e + 1) = cv_grown I w1 w2 C e := by simp only [cv_grown]; rw [if_pos h]
theorem cv_g_2 {I C e : Nat} {w1 w2 : Nat → Nat} (h : I.testBit e = false) (h2 : (cv_grown I w1 w2 C e).testBit e = true) : cv_grown I w1 w2 C (e + 1) = cv_grown I w1 w2 C e ||| w1 e := by simp only [cv_grown]; rw [if_neg (by rw [h]; simp), if_pos h2]
theorem cv_g_3 {I C e : Nat} {w1 w2 : Nat → Nat} (h : I.testBit e = false) (h2 : (cv_grown I w1 w2 C e).testBit e = false) (h3 : w2 e &&& cv_grown I w1 w2 C e = 0) : cv_grown I w1 w2 C (e + 1) = cv_grown I w1 w2 C e := by simp only [cv_grown]; rw [if_neg (by rw [h]; simp), if_neg (by rw [h2]; simp), if_pos h3]
theorem cv_g_4 {I C e : Nat} {w1 w2 : Nat → Nat} (h : I.testBit e = false) (h2 : (cv_grown I w1 w2 C e).testBit e = false) (h3 : ¬ w2 e &&& cv_grown I w1 w2 C e = 0) : cv_grown I w1 w2 C (e + 1) = cv_grown I w1 w2 C e ||| 2 ^ e := by simp only [cv_grown]; rw [if_neg (by rw [h]; simp), if_neg (by rw [h2]; simp), if_neg h3]

set_option maxHeartbeats 4000000 in
set_option maxRecDepth 100000 in
/-- grown(g, h, common, cover) -/
theorem c_grown (l : Launch) (D : va_G) (k0 : Nat → ClassId)  (w0 : va_W) (sz : Nat) (b o a1 a8 : Nat) (f ra pa : Nat) (rows parts : Nat → Nat) (k : Nat) (hF : w0[b + 2]? = some (f, .inr (0, [.ref ra, .ref pa, .int (nI k)]))) (hR : w0[b + 2 + 1]? = some (ra, .inl (k0 0, 12, .inl (fun j => nI (rows j))))) (hT : w0[b + 2 + 2]? = some (pa, .inl (k0 0, 12, .inl (fun j => nI (parts j))))) (f2 rb pb : Nat) (rows2 parts2 : Nat → Nat) (kk : Nat) (hF2 : w0[b + 5]? = some (f2, .inr (0, [.ref rb, .ref pb, .int (nI kk)]))) (hR2 : w0[b + 5 + 1]? = some (rb, .inl (k0 0, 12, .inl (fun j => nI (rows2 j))))) (hT2 : w0[b + 5 + 2]? = some (pb, .inl (k0 0, 12, .inl (fun j => nI (parts2 j))))) (hO : w0[b]? = some (o, .inr (2, [.ref a1, .ref f, .ref f2, .ref a8]))) (qg g ga gb : Nat) (L : Nat → Nat) (wt : Nat → Int32) (n : Nat) (vv oo : Int32) (hG : w0[qg]? = some (g, .inr (1, [.ref ga, .ref gb, .int (nI n), .int vv, .int oo]))) (hL : w0[qg + 1]? = some (ga, .inl (k0 0, 12, .inl (fun j => nI (L j))))) (hW : w0[qg + 2]? = some (gb, .inl (k0 0, 12, .inl wt))) (qh g2 ma mb : Nat) (M : Nat → Nat) (wt2 : Nat → Int32) (vv2 oo2 : Int32) (hG2 : w0[qh]? = some (g2, .inr (1, [.ref ma, .ref mb, .int (nI n), .int vv2, .int oo2]))) (hL2 : w0[qh + 1]? = some (ma, .inl (k0 0, 12, .inl (fun j => nI (M j))))) (hW2 : w0[qh + 2]? = some (mb, .inl (k0 0, 12, .inl wt2))) (hag : b + 9 ≤ qg) (hah : b + 9 ≤ qh) (hn : n ≤ 12) (hLb : ∀ j, j < n → L j < 2 ^ 24) (hMb : ∀ j, j < n → M j < 2 ^ 24) (hk : k ≤ 12) (hkk : kk ≤ 12) (hrow1 : ∀ j, j < k → rows j < 2 ^ 24) (hrow2 : ∀ j, j < kk → rows2 j < 2 ^ 24) (hpt1 : ∀ j, j < k → parts j < 2 ^ 12) (hpt2 : ∀ j, j < kk → parts2 j < 2 ^ 12) (I9 C : Nat) (hI9 : I9 < 2 ^ 12) (hC9 : C < 2 ^ 12) : kx_i l yX2_grown wsX2_grown ({ frames := 1, cells := 0, slots := 0, locals := 32 } : Room) D (tyL k0) w0 sz [.ref o, .ref g, .ref g2, .int (nI I9), .int (nI C)] (fun (r : Int32) (u : va_W) => r = nI (cv_grown I9 (fun e => fo_way rows parts (L e) k) (fun e => fo_way rows2 parts2 (M e) kk) C n) ∧ u = w0) 0 0 := by
  refine kx_of (Qf := fun A => va_Qi (fun (r : Int32) (u : va_W) => r = nI (cv_grown I9 (fun e => fo_way rows parts (L e) k) (fun e => fo_way rows2 parts2 (M e) kk) C n) ∧ u = w0) (kx_B D (tyL k0) A) A) (cc := cX2_grown) (maxL := 7) (ret := (some .int)) (by decide +kernel) (Nat.le_of_ble_eq_true rfl) ?_
  intro p e s m below meth c A ls hx hb hml hown hts hr hlocks hnm hN hK hP hD hS hA hl
  have hown : s.vm.findClass RX2 = some m.cls := hown
  have hl : lv_has ls 7 [(0, .ref o), (1, .ref g), (2, .ref g2), (3, .int (nI I9)), (4, .int (nI C))] := hl
  skip
  refine lv_iload hx hb dX2_grown_0 (lv_at hl 4 rfl) ?_
  refine lv_istore (lv' := [(5, .int (nI C)), (0, .ref o), (1, .ref g), (2, .ref g2), (3, .int (nI I9)), (4, .int (nI C))]) hx hb dX2_grown_2 hl (by decide) rfl (fun ls hl => ?_)
  refine lv_iconst (v := nI 0) hx hb dX2_grown_4 (by decide +kernel) ?_
  refine lv_istore (lv' := [(6, .int (nI 0)), (5, .int (nI C)), (0, .ref o), (1, .ref g), (2, .ref g2), (3, .int (nI I9)), (4, .int (nI C))]) hx hb dX2_grown_5 hl (by decide) rfl (fun ls hl => ?_)
  have loop_7 : ∀ (n7 : Nat) (e9 : Nat), (e9 ≤ n) → (n + 1 ≤ e9 + n7) → ∀ (H : Heap) (locs : List Loc), va_P D vwCl w0 H → va_D A w0 → va_S A s.heap H locs → ∀ (ls : Array Slot), lv_has ls 7 [(6, .int (nI e9)), (5, .int (nI (cv_grown I9 (fun e => fo_way rows parts (L e) k) (fun e => fo_way rows2 parts2 (M e) kk) C e9))), (0, .ref o), (1, .ref g), (2, .ref g2), (3, .int (nI I9)), (4, .int (nI C))] → W p l e ({ frames := 1, cells := 0, slots := 0, locals := 32 } : Room) s m ([.ref o, .ref g, .ref g2, .int (nI I9), .int (nI C)] : List Value).toArray below meth c H locs 0 0 (MQ below (va_Qi (fun (r : Int32) (u : va_W) => r = nI (cv_grown I9 (fun e => fo_way rows parts (L e) k) (fun e => fo_way rows2 parts2 (M e) kk) C n) ∧ u = w0) (kx_B D (tyL k0) A) A) ([.ref o, .ref g, .ref g2, .int (nI I9), .int (nI C)] : List Value).toArray s 0 0 A) (F0 m 7 ls []) := by
    intro n7
    induction n7 with
    | zero =>
      intro e9 he hme
      exact absurd hme (by omega)
    | succ n7 ih7 =>
      intro e9 he hme  H locs hP hD hS ls hl
      refine lv_iload hx hb dX2_grown_7 (lv_at hl 0 rfl) ?_
      refine lv_aload_n hx hb dX2_grown_9 rfl (lv_at hl 3 rfl) ?_
      refine va_get (D := D) (ci := 1) (v := .int (nI n)) (C := RX1) (T := TX1) (N := 5) hx hb hts inX1 hown hK hP qg hG rfl 2 (by decide) (hts _ tw_64) (fun _ h9 => h9) rfl dX2_grown_10 ?_
      refine lv_icmp_ge (tgt := 95) hx hb dX2_grown_13 (by decide) (fun c_13 => ?_) (fun c_13 => ?_)
      · skip
        have hik : e9 = n := by
          have := (nI_leI (by omega) (by omega)).mp c_13
          omega
        subst hik
        refine lv_iload hx hb dX2_grown_95 (lv_at hl 1 rfl) ?_
        exact kx_iret (v := nI (cv_grown I9 (fun e => fo_way rows parts (L e) k) (fun e => fo_way rows2 parts2 (M e) kk) C e9)) hx hb hr rfl hlocks hK hP hD hS dX2_grown_97 (⟨rfl, rfl⟩)
      · skip
        have hik : e9 < n := by
          rcases Nat.lt_or_ge (e9) (n) with h | h
          · exact h
          · exact absurd ((nI_leI (by omega) (by omega)).mpr h) c_13
        have hgl : cv_grown I9 (fun e => fo_way rows parts (L e) k) (fun e => fo_way rows2 parts2 (M e) kk) C e9 < 2 ^ 12 := cv_grown_lt hn hC9 (fun e _ => fo_way_lt hpt1 k (Nat.le_refl k)) e9 he
        have hw2 : fo_way rows2 parts2 (M e9) kk < 2 ^ 12 := fo_way_lt hpt2 kk (Nat.le_refl kk)
        refine lv_iload_n hx hb dX2_grown_16 rfl (lv_at hl 5 rfl) ?_
        refine lv_iload hx hb dX2_grown_17 (lv_at hl 0 rfl) ?_
        refine kx_goi (va_runS (As := [.int (nI I9), .int (nI e9)]) (rest := []) ⟨hx, hb, hml, hown, hts⟩ (c_has l D k0 w0 _ I9 e9 (by omega) (by omega)) ⟨(kg_B (k := 2) hts tw_143 tw_159 tw_19 (by decide +kernel) rfl rfl ⟨Nat.le_of_ble_eq_true rfl, Nat.le_of_ble_eq_true rfl⟩), hts _ tw_142⟩ (kx_preS hN hK hP hD) rfl rfl hl.1 rfl (lv_room (Nat.le_of_ble_eq_true rfl)) dX2_grown_19 ⟨Nat.le_of_ble_eq_true rfl, Nat.le_of_ble_eq_true rfl⟩) hD hS hA (fun r_2 u_3 H locs hp_1 hP hD hS => ?_)
        obtain ⟨er_2, eu_3⟩ := hp_1
        rw [eu_3] at hP hD; subst er_2
        refine lv_if_eq (tgt := 28) hx hb dX2_grown_22 (by decide) (fun c_22 => ?_) (fun c_22 => ?_)
        · skip
          have hT22 : (I9).testBit e9 = false := (kb_bool _).mp c_22
          refine lv_iload hx hb dX2_grown_28 (lv_at hl 1 rfl) ?_
          refine lv_iload hx hb dX2_grown_30 (lv_at hl 0 rfl) ?_
          refine kx_goi (va_runS (As := [.int (nI (cv_grown I9 (fun e => fo_way rows parts (L e) k) (fun e => fo_way rows2 parts2 (M e) kk) C e9)), .int (nI e9)]) (rest := []) ⟨hx, hb, hml, hown, hts⟩ (c_has l D k0 w0 _ (cv_grown I9 (fun e => fo_way rows parts (L e) k) (fun e => fo_way rows2 parts2 (M e) kk) C e9) e9 (by omega) (by omega)) ⟨(kg_B (k := 2) hts tw_143 tw_159 tw_19 (by decide +kernel) rfl rfl ⟨Nat.le_of_ble_eq_true rfl, Nat.le_of_ble_eq_true rfl⟩), hts _ tw_142⟩ (kx_preS hN hK hP hD) rfl rfl hl.1 rfl (lv_room (Nat.le_of_ble_eq_true rfl)) dX2_grown_32 ⟨Nat.le_of_ble_eq_true rfl, Nat.le_of_ble_eq_true rfl⟩) hD hS hA (fun r_5 u_6 H locs hp_4 hP hD hS => ?_)
          obtain ⟨er_5, eu_6⟩ := hp_4
          rw [eu_6] at hP hD; subst er_5
          refine lv_if_eq (tgt := 60) hx hb dX2_grown_35 (by decide) (fun c_35 => ?_) (fun c_35 => ?_)
          · skip
            have hT35 : (cv_grown I9 (fun e => fo_way rows parts (L e) k) (fun e => fo_way rows2 parts2 (M e) kk) C e9).testBit e9 = false := (kb_bool _).mp c_35
            refine lv_aload_n hx hb dX2_grown_60 rfl (lv_at hl 2 rfl) ?_
            refine va_get (D := D) (ci := 2) (v := .ref f2) (C := RX2) (T := TX2) (N := 4) hx hb hts inX2 hown hK hP b hO rfl 2 (by decide) (hts _ tw_80) (fun _ h9 => h9) rfl dX2_grown_61 ?_
            refine lv_aload_n hx hb dX2_grown_64 rfl (lv_at hl 4 rfl) ?_
            refine va_get (D := D) (ci := 1) (v := .ref ma) (C := RX1) (T := TX1) (N := 5) hx hb hts inX1 hown hK hP qh hG2 rfl 0 (by decide) (hts _ tw_59) (fun _ h9 => h9) rfl dX2_grown_65 ?_
            refine lv_iload hx hb dX2_grown_68 (lv_at hl 0 rfl) ?_
            refine kx_nald hx hb hK hP (qh + 1) hL2 rfl (i := e9) (by omega) (by decide) dX2_grown_70 ?_
            refine kx_goi (va_runV (As := [.int (nI (M e9))]) (rest := []) ⟨hx, hb, hml, hown, hts⟩ (c_way l D k0 w0 _ (b + 5) f2 rb pb rows2 parts2 kk hF2 hR2 hT2 hkk hrow2 (M e9) (hMb e9 hik)) ⟨(kg_B (k := 1) hts tw_158 tw_243 tw_20 (by decide +kernel) rfl rfl ⟨Nat.le_of_ble_eq_true rfl, Nat.le_of_ble_eq_true rfl⟩), hts _ tw_156, hts _ tw_157⟩ (kx_preV hN hK hP hD rfl hF2) rfl rfl hl.1 rfl (lv_room (Nat.le_of_ble_eq_true rfl)) dX2_grown_71 ⟨Nat.le_of_ble_eq_true rfl, Nat.le_of_ble_eq_true rfl⟩) hD hS hA (fun r_8 u_9 H locs hp_7 hP hD hS => ?_)
            obtain ⟨er_8, eu_9⟩ := hp_7
            rw [eu_9] at hP hD; subst er_8
            refine lv_iload hx hb dX2_grown_74 (lv_at hl 1 rfl) ?_
            refine lv_iand hx hb dX2_grown_76 ?_
            refine lv_topi (fun z_10 ez_10 => ?_)
            have ez_10 : z_10 = nI (fo_way rows2 parts2 (M e9) kk &&& cv_grown I9 (fun e => fo_way rows parts (L e) k) (fun e => fo_way rows2 parts2 (M e) kk) C e9) := by rw [ez_10]; exact kb_and _ _
            subst ez_10
            refine lv_if_eq (tgt := 89) hx hb dX2_grown_77 (by decide) (fun c_77 => ?_) (fun c_77 => ?_)
            · skip
              have h77 : fo_way rows2 parts2 (M e9) kk &&& cv_grown I9 (fun e => fo_way rows parts (L e) k) (fun e => fo_way rows2 parts2 (M e) kk) C e9 = 0 := (kb_eq0 (Nat.lt_of_le_of_lt Nat.and_le_left (by omega))).mp c_77
              rw [← cv_g_3 (w1 := (fun e => fo_way rows parts (L e) k)) (w2 := (fun e => fo_way rows2 parts2 (M e) kk)) (C := C) hT22 hT35 h77] at hl
              refine lv_iinc (v := nI (e9 + 1)) (lv' := [(6, .int (nI (e9 + 1))), (5, .int (nI (cv_grown I9 (fun e => fo_way rows parts (L e) k) (fun e => fo_way rows2 parts2 (M e) kk) C (e9 + 1)))), (0, .ref o), (1, .ref g), (2, .ref g2), (3, .int (nI I9)), (4, .int (nI C))]) hx hb dX2_grown_89 hl (k := 0) rfl (nI_1 _) (by decide) rfl (fun ls hl => ?_)
              refine lv_goto (tgt := 7) hx hb dX2_grown_92 (by decide) ?_
              exact ih7 (e9 + 1) (by omega) (by omega) _ _ hP hD hS _ (lv_sub hl [0, 1, 2, 3, 4, 5, 6] rfl)
            · skip
              have h77 : ¬ fo_way rows2 parts2 (M e9) kk &&& cv_grown I9 (fun e => fo_way rows parts (L e) k) (fun e => fo_way rows2 parts2 (M e) kk) C e9 = 0 := fun h => c_77 ((kb_eq0 (Nat.lt_of_le_of_lt Nat.and_le_left (by omega))).mpr h)
              refine lv_iload hx hb dX2_grown_80 (lv_at hl 1 rfl) ?_
              refine lv_iconst (v := 1) hx hb dX2_grown_82 (by decide +kernel) ?_
              refine lv_iload hx hb dX2_grown_83 (lv_at hl 0 rfl) ?_
              refine lv_ishl hx hb dX2_grown_85 ?_
              refine lv_topi (fun z_11 ez_11 => ?_)
              have ez_11 : z_11 = nI (2 ^ e9) := by rw [ez_11]; exact kb_one (by omega)
              subst ez_11
              refine lv_ior hx hb dX2_grown_86 ?_
              refine lv_topi (fun z_12 ez_12 => ?_)
              have ez_12 : z_12 = nI (cv_grown I9 (fun e => fo_way rows parts (L e) k) (fun e => fo_way rows2 parts2 (M e) kk) C (e9 + 1)) := by rw [ez_12]; rw [kb_or, cv_g_4 hT22 hT35 h77]
              subst ez_12
              refine lv_istore (lv' := [(5, .int (nI (cv_grown I9 (fun e => fo_way rows parts (L e) k) (fun e => fo_way rows2 parts2 (M e) kk) C (e9 + 1)))), (6, .int (nI e9)), (0, .ref o), (1, .ref g), (2, .ref g2), (3, .int (nI I9)), (4, .int (nI C))]) hx hb dX2_grown_87 hl (by decide) rfl (fun ls hl => ?_)
              refine lv_iinc (v := nI (e9 + 1)) (lv' := [(6, .int (nI (e9 + 1))), (5, .int (nI (cv_grown I9 (fun e => fo_way rows parts (L e) k) (fun e => fo_way rows2 parts2 (M e) kk) C (e9 + 1)))), (0, .ref o), (1, .ref g), (2, .ref g2), (3, .int (nI I9)), (4, .int (nI C))]) hx hb dX2_grown_89 hl (k := 1) rfl (nI_1 _) (by decide) rfl (fun ls hl => ?_)
              refine lv_goto (tgt := 7) hx hb dX2_grown_92 (by decide) ?_
              exact ih7 (e9 + 1) (by omega) (by omega) _ _ hP hD hS _ (lv_sub hl [0, 1, 2, 3, 4, 5, 6] rfl)
          · skip
            have hT35 : (cv_grown I9 (fun e => fo_way rows parts (L e) k) (fun e => fo_way rows2 parts2 (M e) kk) C e9).testBit e9 = true := by
              cases hq9 : (cv_grown I9 (fun e => fo_way rows parts (L e) k) (fun e => fo_way rows2 parts2 (M e) kk) C e9).testBit e9 with
              | true => rfl
              | false => exact absurd ((kb_bool _).mpr hq9) c_35
            refine lv_iload hx hb dX2_grown_38 (lv_at hl 1 rfl) ?_
            refine lv_aload_n hx hb dX2_grown_40 rfl (lv_at hl 2 rfl) ?_
            refine va_get (D := D) (ci := 2) (v := .ref f) (C := RX2) (T := TX2) (N := 4) hx hb hts inX2 hown hK hP b hO rfl 1 (by decide) (hts _ tw_79) (fun _ h9 => h9) rfl dX2_grown_41 ?_
            refine lv_aload_n hx hb dX2_grown_44 rfl (lv_at hl 3 rfl) ?_
            refine va_get (D := D) (ci := 1) (v := .ref ga) (C := RX1) (T := TX1) (N := 5) hx hb hts inX1 hown hK hP qg hG rfl 0 (by decide) (hts _ tw_59) (fun _ h9 => h9) rfl dX2_grown_45 ?_
            refine lv_iload hx hb dX2_grown_48 (lv_at hl 0 rfl) ?_
            refine kx_nald hx hb hK hP (qg + 1) hL rfl (i := e9) (by omega) (by decide) dX2_grown_50 ?_
            refine kx_goi (va_runV (As := [.int (nI (L e9))]) (rest := [.int (nI (cv_grown I9 (fun e => fo_way rows parts (L e) k) (fun e => fo_way rows2 parts2 (M e) kk) C e9))]) ⟨hx, hb, hml, hown, hts⟩ (c_way l D k0 w0 _ (b + 2) f ra pa rows parts k hF hR hT hk hrow1 (L e9) (hLb e9 hik)) ⟨(kg_B (k := 1) hts tw_158 tw_243 tw_20 (by decide +kernel) rfl rfl ⟨Nat.le_of_ble_eq_true rfl, Nat.le_of_ble_eq_true rfl⟩), hts _ tw_156, hts _ tw_157⟩ (kx_preV hN hK hP hD rfl hF) rfl rfl hl.1 rfl (lv_room (Nat.le_of_ble_eq_true rfl)) dX2_grown_51 ⟨Nat.le_of_ble_eq_true rfl, Nat.le_of_ble_eq_true rfl⟩) hD hS hA (fun r_14 u_15 H locs hp_13 hP hD hS => ?_)
            obtain ⟨er_14, eu_15⟩ := hp_13
            rw [eu_15] at hP hD; subst er_14
            refine lv_ior hx hb dX2_grown_54 ?_
            refine lv_topi (fun z_16 ez_16 => ?_)
            have ez_16 : z_16 = nI (cv_grown I9 (fun e => fo_way rows parts (L e) k) (fun e => fo_way rows2 parts2 (M e) kk) C (e9 + 1)) := by rw [ez_16]; rw [kb_or, cv_g_2 hT22 hT35]
            subst ez_16
            refine lv_istore (lv' := [(5, .int (nI (cv_grown I9 (fun e => fo_way rows parts (L e) k) (fun e => fo_way rows2 parts2 (M e) kk) C (e9 + 1)))), (6, .int (nI e9)), (0, .ref o), (1, .ref g), (2, .ref g2), (3, .int (nI I9)), (4, .int (nI C))]) hx hb dX2_grown_55 hl (by decide) rfl (fun ls hl => ?_)
            refine lv_goto (tgt := 89) hx hb dX2_grown_57 (by decide) ?_
            refine lv_iinc (v := nI (e9 + 1)) (lv' := [(6, .int (nI (e9 + 1))), (5, .int (nI (cv_grown I9 (fun e => fo_way rows parts (L e) k) (fun e => fo_way rows2 parts2 (M e) kk) C (e9 + 1)))), (0, .ref o), (1, .ref g), (2, .ref g2), (3, .int (nI I9)), (4, .int (nI C))]) hx hb dX2_grown_89 hl (k := 1) rfl (nI_1 _) (by decide) rfl (fun ls hl => ?_)
            refine lv_goto (tgt := 7) hx hb dX2_grown_92 (by decide) ?_
            exact ih7 (e9 + 1) (by omega) (by omega) _ _ hP hD hS _ (lv_sub hl [0, 1, 2, 3, 4, 5, 6] rfl)
        · skip
          have hT22 : (I9).testBit e9 = true := by
            cases hq9 : (I9).testBit e9 with
            | true => rfl
            | false => exact absurd ((kb_bool _).mpr hq9) c_22
          rw [← cv_g_1 (w1 := (fun e => fo_way rows parts (L e) k)) (w2 := (fun e => fo_way rows2 parts2 (M e) kk)) (C := C) hT22] at hl
          refine lv_goto (tgt := 89) hx hb dX2_grown_25 (by decide) ?_
          refine lv_iinc (v := nI (e9 + 1)) (lv' := [(6, .int (nI (e9 + 1))), (5, .int (nI (cv_grown I9 (fun e => fo_way rows parts (L e) k) (fun e => fo_way rows2 parts2 (M e) kk) C (e9 + 1)))), (0, .ref o), (1, .ref g), (2, .ref g2), (3, .int (nI I9)), (4, .int (nI C))]) hx hb dX2_grown_89 hl (k := 0) rfl (nI_1 _) (by decide) rfl (fun ls hl => ?_)
          refine lv_goto (tgt := 7) hx hb dX2_grown_92 (by decide) ?_
          exact ih7 (e9 + 1) (by omega) (by omega) _ _ hP hD hS _ (lv_sub hl [0, 1, 2, 3, 4, 5, 6] rfl)
  exact loop_7 (n + 1) 0 (Nat.zero_le n) (by omega) _ _ hP hD hS _ (lv_sub hl [0, 1, 2, 3, 4, 5, 6] rfl)
