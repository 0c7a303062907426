set_option maxHeartbeats 4000000 in
set_option maxRecDepth 100000 in
/-- Forest.fill(graph, set) -/
theorem c_fill (l : Launch) (D : va_G) (k0 : Nat → ClassId)  (w0 : va_W) (sz : Nat) (q f ra pa : Nat) (rows parts : Nat → Nat) (k : Nat) (hF : w0[q]? = some (f, .inr (0, [.ref ra, .ref pa, .int (nI k)]))) (hR : w0[q + 1]? = some (ra, .inl (k0 0, 12, .inl (fun j => nI (rows j))))) (hT : w0[q + 2]? = some (pa, .inl (k0 0, 12, .inl (fun j => nI (parts j))))) (qg g ga gb : Nat) (L : Nat → Nat) (wt : Nat → Int32) (n : Nat) (vv oo : Int32) (hG : w0[qg]? = some (g, .inr (1, [.ref ga, .ref gb, .int (nI n), .int vv, .int oo]))) (hL : w0[qg + 1]? = some (ga, .inl (k0 0, 12, .inl (fun j => nI (L j))))) (hW : w0[qg + 2]? = some (gb, .inl (k0 0, 12, .inl wt))) (hap : q + 3 ≤ qg ∨ qg + 3 ≤ q) (hn : n ≤ 12) (hLb : ∀ j, j < n → L j < 2 ^ 24) (S : Nat) (hSb : S < 2 ^ 31) : kx_i l yX0_fill wsX0_fill ({ frames := 3, cells := 0, slots := 0, locals := 80 } : Room) D (tyL k0) w0 sz [.ref f, .ref g, .int (nI S)] (fun (r : Int32) (u : va_W) => r = nI (fo_fill L S rows parts n).2.2 ∧ atF u q k0 f ra pa (fo_fill L S rows parts n).1 (fo_fill L S rows parts n).2.1 (fo_fill L S rows parts n).2.2 ∧ kx_fr w0 u (fun j => j = q ∨ j = q + 1 ∨ j = q + 2)) 0 0 := by
  refine kx_of (Qf := fun A => va_Qi (fun (r : Int32) (u : va_W) => r = nI (fo_fill L S rows parts n).2.2 ∧ atF u q k0 f ra pa (fo_fill L S rows parts n).1 (fo_fill L S rows parts n).2.1 (fo_fill L S rows parts n).2.2 ∧ kx_fr w0 u (fun j => j = q ∨ j = q + 1 ∨ j = q + 2)) (kx_B D (tyL k0) A) A) (cc := cX0_fill) (maxL := 4) (ret := (some .int)) (by decide +kernel) (Nat.le_of_ble_eq_true rfl) ?_
  intro p e s m below meth c A ls hx hb hml hown hts hr hlocks hnm hN hK hP hD hS hA hl
  have hown : s.vm.findClass RX0 = some m.cls := hown
  have hl : lv_has ls 4 [(0, .ref f), (1, .ref g), (2, .int (nI S))] := hl
  have hfr : kx_fr w0 w0 (fun j => j = q ∨ j = q + 1 ∨ j = q + 2) := kx_fr_rf _ _
  refine lv_aload_n hx hb dX0_fill_0 rfl (lv_at hl 0 rfl) ?_
  refine kx_gov (va_runV (As := []) (rest := []) ⟨hx, hb, hml, hown, hts⟩ (c_clear l D k0 w0 _ q f ra pa rows parts k hF hR hT) ⟨(kg_B (k := 0) hts tw_140 tw_137 tw_20 (by decide +kernel) rfl rfl ⟨Nat.le_of_ble_eq_true rfl, Nat.le_of_ble_eq_true rfl⟩), hts _ tw_138, hts _ tw_139⟩ (kx_preV hN hK hP hD rfl hF) rfl rfl hl.1 rfl (lv_room (Nat.le_of_ble_eq_true rfl)) dX0_fill_1 ⟨Nat.le_of_ble_eq_true rfl, Nat.le_of_ble_eq_true rfl⟩) hD hS hA (fun u_3 H locs hp_1 hP hD hS => ?_)
  obtain ⟨⟨hF1, hR1, hT1⟩, hq⟩ := hp_1
  have f_4 : u_3[q]? = some (f, .inr (0, [.ref ra, .ref pa, .int (nI 0)])) := hF1
  have f_5 : u_3[q + 1]? = some (ra, .inl (k0 0, 12, .inl (fun y9 => nI (rows y9)))) := hR1
  have f_6 : u_3[q + 2]? = some (pa, .inl (k0 0, 12, .inl (fun y9 => nI (parts y9)))) := hT1
  have f_7 : u_3[qg]? = some (g, .inr (1, [.ref ga, .ref gb, .int (nI n), .int vv, .int oo])) := by rw [hq _ (by omega)]; exact hG
  have f_8 : u_3[qg + 1]? = some (ga, .inl (k0 0, 12, .inl (fun y9 => nI (L y9)))) := by rw [hq _ (by omega)]; exact hL
  have f_9 : u_3[qg + 2]? = some (gb, .inl (k0 0, 12, .inl wt)) := by rw [hq _ (by omega)]; exact hW
  have hfr : kx_fr w0 u_3 (fun j => j = q ∨ j = q + 1 ∨ j = q + 2) := kx_fr_tr hfr (kx_fr_mono hq (fun j h => h))
  refine lv_iconst (v := nI 0) hx hb dX0_fill_4 (by decide +kernel) ?_
  refine lv_istore_n (lv' := [(3, .int (nI 0)), (0, .ref f), (1, .ref g), (2, .int (nI S))]) hx hb dX0_fill_5 rfl hl (by decide) rfl (fun ls hl => ?_)
  have loop_6 : ∀ (n6 : Nat) (e9 : Nat), (e9 ≤ n) → (n + 1 ≤ e9 + n6) → ∀ (w1 : va_W), w1[q]? = some (f, .inr (0, [.ref ra, .ref pa, .int (nI (fo_fill L S rows parts e9).2.2)])) → w1[q + 1]? = some (ra, .inl (k0 0, 12, .inl (fun y9 => nI (((fo_fill L S rows parts e9).1) y9)))) → w1[q + 2]? = some (pa, .inl (k0 0, 12, .inl (fun y9 => nI (((fo_fill L S rows parts e9).2.1) y9)))) → w1[qg]? = some (g, .inr (1, [.ref ga, .ref gb, .int (nI n), .int vv, .int oo])) → w1[qg + 1]? = some (ga, .inl (k0 0, 12, .inl (fun y9 => nI (L y9)))) → w1[qg + 2]? = some (gb, .inl (k0 0, 12, .inl wt)) → kx_fr w0 w1 (fun j => j = q ∨ j = q + 1 ∨ j = q + 2) → ∀ (H : Heap) (locs : List Loc), va_P D vwCl w1 H → va_D A w1 → va_S A s.heap H locs → ∀ (ls : Array Slot), lv_has ls 4 [(3, .int (nI e9)), (0, .ref f), (1, .ref g), (2, .int (nI S))] → W p l e ({ frames := 3, cells := 0, slots := 0, locals := 80 } : Room) s m ([.ref f, .ref g, .int (nI S)] : List Value).toArray below meth c H locs 0 0 (MQ below (va_Qi (fun (r : Int32) (u : va_W) => r = nI (fo_fill L S rows parts n).2.2 ∧ atF u q k0 f ra pa (fo_fill L S rows parts n).1 (fo_fill L S rows parts n).2.1 (fo_fill L S rows parts n).2.2 ∧ kx_fr w0 u (fun j => j = q ∨ j = q + 1 ∨ j = q + 2)) (kx_B D (tyL k0) A) A) ([.ref f, .ref g, .int (nI S)] : List Value).toArray s 0 0 A) (F0 m 6 ls []) := by
    intro n6
    induction n6 with
    | zero =>
      intro e9 he hme
      exact absurd hme (by omega)
    | succ n6 ih6 =>
      intro e9 he hme w1 F6_0 F6_1 F6_2 F6_3 F6_4 F6_5 hfr H locs hP hD hS ls hl
      refine lv_iload_n hx hb dX0_fill_6 rfl (lv_at hl 0 rfl) ?_
      refine lv_aload_n hx hb dX0_fill_7 rfl (lv_at hl 2 rfl) ?_
      refine va_get (D := D) (ci := 1) (v := .int (nI n)) (C := RX1) (T := TX1) (N := 5) hx hb hts inX1 hown hK hP qg F6_3 rfl 2 (by decide) (hts _ tw_63) (fun _ h9 => h9) rfl dX0_fill_8 ?_
      refine lv_icmp_ge (tgt := 40) hx hb dX0_fill_11 (by decide) (fun c_11 => ?_) (fun c_11 => ?_)
      · skip
        have hik : e9 = n := by
          have := (nI_leI (by omega) (by omega)).mp c_11
          omega
        subst hik
        refine lv_aload_n hx hb dX0_fill_40 rfl (lv_at hl 1 rfl) ?_
        refine va_get (D := D) (ci := 0) (v := .int (nI (fo_fill L S rows parts e9).2.2)) (C := RX0) (T := TX0) (N := 3) hx hb hts inX0 hown hK hP q F6_0 rfl 2 (by decide) (hts _ tw_43) (fun _ h9 => h9) rfl dX0_fill_41 ?_
        exact kx_iret (v := nI (fo_fill L S rows parts e9).2.2) hx hb hr rfl hlocks hK hP hD hS dX0_fill_44 (⟨rfl, ⟨F6_0, F6_1, F6_2⟩, hfr⟩)
      · skip
        have hik : e9 < n := by
          rcases Nat.lt_or_ge (e9) (n) with h | h
          · exact h
          · exact absurd ((nI_leI (by omega) (by omega)).mpr h) c_11
        refine lv_iload_n hx hb dX0_fill_14 rfl (lv_at hl 3 rfl) ?_
        refine lv_iload_n hx hb dX0_fill_15 rfl (lv_at hl 0 rfl) ?_
        refine kx_goi (va_runSN (As := [.int (nI S), .int (nI e9)]) (rest := []) ⟨hx, hb, hml, hown, hts⟩ (c_has l D k0 w1 _ S e9 hSb (by omega)) ⟨(kg_N (k := 2) hts tw_143 hN.2.2.1 tw_19 (by decide +kernel) rfl rfl ⟨Nat.le_of_ble_eq_true rfl, Nat.le_of_ble_eq_true rfl⟩), hts _ tw_142, trivial⟩ (kx_preS hN hK hP hD) rfl rfl hl.1 rfl (lv_room (Nat.le_of_ble_eq_true rfl)) dX0_fill_16 ⟨Nat.le_of_ble_eq_true rfl, Nat.le_of_ble_eq_true rfl⟩) hD hS hA (fun r_11 u_12 H locs hp_10 hP hD hS => ?_)
        obtain ⟨er_11, eu_12⟩ := hp_10
        rw [eu_12] at hP hD; subst er_11
        refine lv_if_eq (tgt := 34) hx hb dX0_fill_19 (by decide) (fun c_19 => ?_) (fun c_19 => ?_)
        · skip
          have hS1 : S.testBit e9 = false := (kb_bool _).mp c_19
          have e9f : (fo_fill L S rows parts (e9 + 1)) = (fo_fill L S rows parts e9) := fo_fill_out hS1
          have f_13 : w1[q]? = some (f, .inr (0, [.ref ra, .ref pa, .int (nI (fo_fill L S rows parts (e9 + 1)).2.2)])) := by rw [e9f]; exact F6_0
          have f_14 : w1[q + 1]? = some (ra, .inl (k0 0, 12, .inl (fun y9 => nI (((fo_fill L S rows parts (e9 + 1)).1) y9)))) := by rw [e9f]; exact F6_1
          have f_15 : w1[q + 2]? = some (pa, .inl (k0 0, 12, .inl (fun y9 => nI (((fo_fill L S rows parts (e9 + 1)).2.1) y9)))) := by rw [e9f]; exact F6_2
          refine lv_iinc (v := nI (e9 + 1)) (lv' := [(3, .int (nI (e9 + 1))), (0, .ref f), (1, .ref g), (2, .int (nI S))]) hx hb dX0_fill_34 hl (k := 0) rfl (nI_1 _) (by decide) rfl (fun ls hl => ?_)
          refine lv_goto (tgt := 6) hx hb dX0_fill_37 (by decide) ?_
          exact ih6 (e9 + 1) (by omega) (by omega) w1 f_13 f_14 f_15 F6_3 F6_4 F6_5 hfr _ _ hP hD hS _ (lv_sub hl [0, 1, 2, 3] rfl)
        · skip
          have hS1 : S.testBit e9 = true := by
            cases hq9 : S.testBit e9 with
            | true => rfl
            | false => exact absurd ((kb_bool _).mpr hq9) c_19
          obtain ⟨hk1, hk2, hk3⟩ := fo_fill_bd (S := S) (rows := rows) (parts := parts) hn hLb e9 he
          refine lv_aload_n hx hb dX0_fill_22 rfl (lv_at hl 1 rfl) ?_
          refine lv_iload_n hx hb dX0_fill_23 rfl (lv_at hl 0 rfl) ?_
          refine lv_aload_n hx hb dX0_fill_24 rfl (lv_at hl 2 rfl) ?_
          refine va_get (D := D) (ci := 1) (v := .ref ga) (C := RX1) (T := TX1) (N := 5) hx hb hts inX1 hown hK hP qg F6_3 rfl 0 (by decide) (hts _ tw_58) (fun _ h9 => h9) rfl dX0_fill_25 ?_
          refine lv_iload_n hx hb dX0_fill_28 rfl (lv_at hl 0 rfl) ?_
          refine kx_nald hx hb hK hP (qg + 1) F6_4 rfl (i := e9) (by omega) (by decide) dX0_fill_29 ?_
          refine kx_goi (va_runV (As := [.int (nI e9), .int (nI (L e9))]) (rest := []) ⟨hx, hb, hml, hown, hts⟩ (c_takes l D k0 w1 _ q f ra pa (fo_fill L S rows parts e9).1 (fo_fill L S rows parts e9).2.1 (fo_fill L S rows parts e9).2.2 F6_0 F6_1 F6_2 hk1 hk2 e9 (L e9) (by omega) (hLb e9 hik) (hk3 hik)) ⟨(kg_B (k := 2) hts tw_147 tw_144 tw_20 (by decide +kernel) rfl rfl ⟨Nat.le_of_ble_eq_true rfl, Nat.le_of_ble_eq_true rfl⟩), hts _ tw_145, hts _ tw_146⟩ (kx_preV hN hK hP hD rfl F6_0) rfl rfl hl.1 rfl (lv_room (Nat.le_of_ble_eq_true rfl)) dX0_fill_30 ⟨Nat.le_of_ble_eq_true rfl, Nat.le_of_ble_eq_true rfl⟩) hD hS hA (fun r_17 u_18 H locs hp_16 hP hD hS => ?_)
          have hq2 : atF u_18 q k0 f ra pa (fo_fill L S rows parts (e9 + 1)).1 (fo_fill L S rows parts (e9 + 1)).2.1 (fo_fill L S rows parts (e9 + 1)).2.2 ∧ kx_fr w1 u_18 (fun j => j = q ∨ j = q + 1 ∨ j = q + 2) := by
            rw [fo_fill_in hS1]
            rcases hp_16 with ⟨h0, _, hu⟩ | ⟨h0, _, hu, hu2⟩
            · rw [fo_takes_no h0, hu]; exact ⟨⟨F6_0, F6_1, F6_2⟩, kx_fr_rf _ _⟩
            · rw [fo_takes_yes h0]; exact ⟨hu, hu2⟩
          obtain ⟨⟨hF1, hR1, hT1⟩, hq⟩ := hq2
          have f_19 : u_18[q]? = some (f, .inr (0, [.ref ra, .ref pa, .int (nI (fo_fill L S rows parts (e9 + 1)).2.2)])) := hF1
          have f_20 : u_18[q + 1]? = some (ra, .inl (k0 0, 12, .inl (fun y9 => nI (((fo_fill L S rows parts (e9 + 1)).1) y9)))) := hR1
          have f_21 : u_18[q + 2]? = some (pa, .inl (k0 0, 12, .inl (fun y9 => nI (((fo_fill L S rows parts (e9 + 1)).2.1) y9)))) := hT1
          have f_22 : u_18[qg]? = some (g, .inr (1, [.ref ga, .ref gb, .int (nI n), .int vv, .int oo])) := by rw [hq _ (by omega)]; exact F6_3
          have f_23 : u_18[qg + 1]? = some (ga, .inl (k0 0, 12, .inl (fun y9 => nI (L y9)))) := by rw [hq _ (by omega)]; exact F6_4
          have f_24 : u_18[qg + 2]? = some (gb, .inl (k0 0, 12, .inl wt)) := by rw [hq _ (by omega)]; exact F6_5
          have hfr : kx_fr w0 u_18 (fun j => j = q ∨ j = q + 1 ∨ j = q + 2) := kx_fr_tr hfr (kx_fr_mono hq (fun j h => h))
          refine lv_pop hx hb dX0_fill_33 rfl ?_
          refine lv_iinc (v := nI (e9 + 1)) (lv' := [(3, .int (nI (e9 + 1))), (0, .ref f), (1, .ref g), (2, .int (nI S))]) hx hb dX0_fill_34 hl (k := 0) rfl (nI_1 _) (by decide) rfl (fun ls hl => ?_)
          refine lv_goto (tgt := 6) hx hb dX0_fill_37 (by decide) ?_
          exact ih6 (e9 + 1) (by omega) (by omega) u_18 f_19 f_20 f_21 f_22 f_23 f_24 hfr _ _ hP hD hS _ (lv_sub hl [0, 1, 2, 3] rfl)
  exact loop_6 (n + 1) 0 (Nat.zero_le n) (by omega) u_3 f_4 f_5 f_6 f_7 f_8 f_9 hfr _ _ hP hD hS _ (lv_sub hl [0, 1, 2, 3] rfl)
