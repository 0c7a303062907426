theorem gy_U_le2 {f : Nat → Int32} {n : Nat} (hn : n ≤ 12) (t : Nat) : gy_U f n t < 2 ^ 31 := by
  have h1 : cf_sub (gy_U f n t) (cf_full n) := by
    have := gy_U_le (f := f) (n := n) (a := 0) t
    rw [Nat.zero_add] at this
    exact this
  have := kb_le_full h1
  have := kb_full_lt hn
  omega

set_option maxHeartbeats 4000000 in
set_option maxRecDepth 100000 in
/-- best(g) -/
theorem c_best (l : Launch) (D : va_G) (k0 : Nat → ClassId)  (w0 : va_W) (sz : Nat) (b : Nat) (ad nE nV : Nat → Nat) (op : Nat → Int32) (LL : Nat → Nat → Nat) (ww : Nat → Nat → Int32) (hC : atC w0 b k0 ad nE nV op LL ww) (hI : cinv nE nV LL ww) (x : Int32) : kx_i l yX2_best wsX2_best ({ frames := 3, cells := 0, slots := 0, locals := 80 } : Room) D (tyL k0) w0 sz [.ref (ad 0), .int x] (fun (r : Int32) (u : va_W) => ((∃ i F, i < 8 ∧ x = nI i ∧ r = nI F ∧ be_spec (LL i) (ww i) (nE i) F) ∨ ((¬ ∃ i, i < 8 ∧ x = nI i) ∧ r = -1)) ∧ atC u b k0 ad nE nV op LL ww ∧ kx_fr w0 u (fun j => b ≤ j ∧ j < b + 33)) 0 0 := by
  refine kx_of (Qf := fun A => va_Qi (fun (r : Int32) (u : va_W) => ((∃ i F, i < 8 ∧ x = nI i ∧ r = nI F ∧ be_spec (LL i) (ww i) (nE i) F) ∨ ((¬ ∃ i, i < 8 ∧ x = nI i) ∧ r = -1)) ∧ atC u b k0 ad nE nV op LL ww ∧ kx_fr w0 u (fun j => b ≤ j ∧ j < b + 33)) (kx_B D (tyL k0) A) A) (cc := cX2_best) (maxL := 7) (ret := (some .int)) (by decide +kernel) (Nat.le_of_ble_eq_true rfl) ?_
  intro p e s m below meth c A ls hx hb hml hown hts hr hlocks hnm hN hK hP hD hS hA hl
  have hown : s.vm.findClass RX2 = some m.cls := hown
  have hl : lv_has ls 7 [(0, .ref (ad 0)), (1, .int x)] := hl
  have hfr : kx_fr w0 w0 (fun j => j = b + 2 ∨ j = b + 3 ∨ j = b + 4) := kx_fr_rf _ _
  obtain ⟨hO, ⟨fq, hQ, hfq⟩, ⟨r1, p1, k1, hF1, hR1, hT1⟩, ⟨r2, p2, k2, hF2, hR2, hT2⟩, ⟨dr, hd⟩, hgs⟩ := id hC
  refine lv_iload_n hx hb dX2_best_0 rfl (lv_at hl 1 rfl) ?_
  refine kx_goi (va_runS (As := [.int x]) (rest := []) ⟨hx, hb, hml, hown, hts⟩ (c_isGraph l D k0 w0 _ x) ⟨(kg_B (k := 1) hts tw_97 tw_95 tw_19 (by decide +kernel) rfl rfl ⟨Nat.le_of_ble_eq_true rfl, Nat.le_of_ble_eq_true rfl⟩), hts _ tw_96⟩ (kx_preS hN hK hP hD) rfl rfl hl.1 rfl (lv_room (Nat.le_of_ble_eq_true rfl)) dX2_best_1 ⟨Nat.le_of_ble_eq_true rfl, Nat.le_of_ble_eq_true rfl⟩) hD hS hA (fun r_2 u_3 H locs hp_1 hP hD hS => ?_)
  obtain ⟨hy_x, eu⟩ := hp_1
  rw [eu] at hP hD
  refine lv_if_ne (tgt := 9) hx hb dX2_best_4 (by decide) (fun c_4 => ?_) (fun c_4 => ?_)
  · skip
    obtain ⟨i, h8i, e_x⟩ := kg_1 hy_x c_4
    rw [e_x] at hl
    obtain ⟨hGi, hLi, hWi⟩ := hgs i h8i
    obtain ⟨hni, hvi, hl2i, hw2i⟩ := hI i h8i
    refine lv_aload_n hx hb dX2_best_9 rfl (lv_at hl 0 rfl) ?_
    refine va_get (D := D) (ci := 2) (v := .ref (ad 1)) (C := RX2) (T := TX2) (N := 4) hx hb hts inX2 hown hK hP b hO rfl 0 (by decide) (hts _ tw_78) (fun _ h9 => h9) rfl dX2_best_10 ?_
    refine lv_iload_n hx hb dX2_best_13 rfl (lv_at hl 1 rfl) ?_
    refine kx_qald hx hb hK hP (b + 1) 1 hQ rfl (i := i) (r := (ad (9 + 3 * i))) (by omega) (by decide) (hfq _ (by omega)) dX2_best_14 ?_
    refine lv_astore_n (lv' := [(2, .ref (ad (9 + 3 * i))), (0, .ref (ad 0)), (1, .int (nI i))]) hx hb dX2_best_15 rfl hl (by decide) rfl (fun ls hl => ?_)
    refine lv_aload_n hx hb dX2_best_16 rfl (lv_at hl 0 rfl) ?_
    refine va_get (D := D) (ci := 1) (v := .int (nI (nE i))) (C := RX1) (T := TX1) (N := 5) hx hb hts inX1 hown hK hP (b + 9 + 3 * i) hGi rfl 2 (by decide) (hts _ tw_64) (fun _ h9 => h9) rfl dX2_best_17 ?_
    refine kx_goi (va_runS (As := [.int (nI (nE i))]) (rest := []) ⟨hx, hb, hml, hown, hts⟩ (c_all l D k0 w0 _ (nE i) hni) ⟨(kg_B (k := 1) hts tw_132 tw_130 tw_19 (by decide +kernel) rfl rfl ⟨Nat.le_of_ble_eq_true rfl, Nat.le_of_ble_eq_true rfl⟩), hts _ tw_131⟩ (kx_preS hN hK hP hD) rfl rfl hl.1 rfl (lv_room (Nat.le_of_ble_eq_true rfl)) dX2_best_20 ⟨Nat.le_of_ble_eq_true rfl, Nat.le_of_ble_eq_true rfl⟩) hD hS hA (fun r_5 u_6 H locs hp_4 hP hD hS => ?_)
    obtain ⟨er_5, eu_6⟩ := hp_4
    rw [eu_6] at hP hD; subst er_5
    refine lv_istore_n (lv' := [(3, .int (nI (cf_full (nE i)))), (2, .ref (ad (9 + 3 * i))), (0, .ref (ad 0)), (1, .int (nI i))]) hx hb dX2_best_23 rfl hl (by decide) rfl (fun ls hl => ?_)
    refine lv_iconst (v := nI 0) hx hb dX2_best_24 (by decide +kernel) ?_
    refine lv_istore (lv' := [(4, .int (nI 0)), (3, .int (nI (cf_full (nE i)))), (2, .ref (ad (9 + 3 * i))), (0, .ref (ad 0)), (1, .int (nI i))]) hx hb dX2_best_25 hl (by decide) rfl (fun ls hl => ?_)
    refine lv_aload_n hx hb dX2_best_27 rfl (lv_at hl 3 rfl) ?_
    refine va_get (D := D) (ci := 2) (v := .ref (ad 2)) (C := RX2) (T := TX2) (N := 4) hx hb hts inX2 hown hK hP b hO rfl 1 (by decide) (hts _ tw_79) (fun _ h9 => h9) rfl dX2_best_28 ?_
    refine kx_gov (va_runV (As := []) (rest := []) ⟨hx, hb, hml, hown, hts⟩ (c_clear l D k0 w0 _ (b + 2) (ad 2) (ad 3) (ad 4) r1 p1 k1 hF1 hR1 hT1) ⟨(kg_B (k := 0) hts tw_140 tw_203 tw_20 (by decide +kernel) rfl rfl ⟨Nat.le_of_ble_eq_true rfl, Nat.le_of_ble_eq_true rfl⟩), hts _ tw_138, hts _ tw_139⟩ (kx_preV hN hK hP hD rfl hF1) rfl rfl hl.1 rfl (lv_room (Nat.le_of_ble_eq_true rfl)) dX2_best_31 ⟨Nat.le_of_ble_eq_true rfl, Nat.le_of_ble_eq_true rfl⟩) hD hS hA (fun u_9 H locs hp_7 hP hD hS => ?_)
    obtain ⟨⟨hF9, hR9, hT9⟩, hq⟩ := hp_7
    have f_10 : u_9[b]? = some (ad 0, .inr (2, [.ref (ad 1), .ref (ad 2), .ref (ad 5), .ref (ad 8)])) := by rw [hq _ (by omega)]; exact hO
    have f_11 : u_9[b + 1]? = some (ad 1, .inl (k0 1, 8, .inr (.inr (.inr (.inr fq))))) := by rw [hq _ (by omega)]; exact hQ
    have f_12 : u_9[b + 2]? = some (ad 2, .inr (0, [.ref (ad 3), .ref (ad 4), .int (nI 0)])) := hF9
    have f_13 : u_9[b + 2 + 1]? = some (ad 3, .inl (k0 0, 12, .inl (fun y9 => nI (r1 y9)))) := hR9
    have f_14 : u_9[b + 2 + 2]? = some (ad 4, .inl (k0 0, 12, .inl (fun y9 => nI (p1 y9)))) := hT9
    have f_15 : u_9[b + 9 + 3 * i]? = some (ad (9 + 3 * i), .inr (1, [.ref (ad (10 + 3 * i)), .ref (ad (11 + 3 * i)), .int (nI (nE i)), .int (nI (nV i)), .int (op i)])) := by rw [hq _ (by omega)]; exact hGi
    have f_16 : u_9[b + 9 + 3 * i + 1]? = some (ad (10 + 3 * i), .inl (k0 0, 12, .inl (fun y9 => nI ((LL i) y9)))) := by rw [hq _ (by omega)]; exact hLi
    have f_17 : u_9[b + 9 + 3 * i + 2]? = some (ad (11 + 3 * i), .inl (k0 0, 12, .inl (ww i))) := by rw [hq _ (by omega)]; exact hWi
    have hfr : kx_fr w0 u_9 (fun j => j = b + 2 ∨ j = b + 3 ∨ j = b + 4) := kx_fr_tr hfr (kx_fr_mono hq (fun j h => by omega))
    refine lv_iconst (v := nI 0) hx hb dX2_best_34 (by decide +kernel) ?_
    refine lv_istore (lv' := [(5, .int (nI 0)), (4, .int (nI 0)), (3, .int (nI (cf_full (nE i)))), (2, .ref (ad (9 + 3 * i))), (0, .ref (ad 0)), (1, .int (nI i))]) hx hb dX2_best_35 hl (by decide) rfl (fun ls hl => ?_)
    have loop_37 : ∀ (n37 : Nat) (t9 : Nat) (F : Nat) (FF : fo_St), (t9 ≤ nE i) → (gy_ok (LL i) (ww i) (nE i) t9 F) → (fo_ok (LL i) (nE i) F FF.1 FF.2.1 FF.2.2) → (∀ j, j < FF.2.2 → FF.1 j < 2 ^ 24) → (nE i + 1 ≤ t9 + n37) → ∀ (w1 : va_W), w1[b]? = some (ad 0, .inr (2, [.ref (ad 1), .ref (ad 2), .ref (ad 5), .ref (ad 8)])) → w1[b + 1]? = some (ad 1, .inl (k0 1, 8, .inr (.inr (.inr (.inr fq))))) → w1[b + 2]? = some (ad 2, .inr (0, [.ref (ad 3), .ref (ad 4), .int (nI FF.2.2)])) → w1[b + 2 + 1]? = some (ad 3, .inl (k0 0, 12, .inl (fun y9 => nI (FF.1 y9)))) → w1[b + 2 + 2]? = some (ad 4, .inl (k0 0, 12, .inl (fun y9 => nI (FF.2.1 y9)))) → w1[b + 9 + 3 * i]? = some (ad (9 + 3 * i), .inr (1, [.ref (ad (10 + 3 * i)), .ref (ad (11 + 3 * i)), .int (nI (nE i)), .int (nI (nV i)), .int (op i)])) → w1[b + 9 + 3 * i + 1]? = some (ad (10 + 3 * i), .inl (k0 0, 12, .inl (fun y9 => nI ((LL i) y9)))) → w1[b + 9 + 3 * i + 2]? = some (ad (11 + 3 * i), .inl (k0 0, 12, .inl (ww i))) → kx_fr w0 w1 (fun j => j = b + 2 ∨ j = b + 3 ∨ j = b + 4) → ∀ (H : Heap) (locs : List Loc), va_P D vwCl w1 H → va_D A w1 → va_S A s.heap H locs → ∀ (ls : Array Slot), lv_has ls 7 [(5, .int (nI t9)), (4, .int (nI F)), (3, .int (nI (gy_U (ww i) (nE i) t9))), (2, .ref (ad (9 + 3 * i))), (0, .ref (ad 0)), (1, .int (nI i))] → W p l e ({ frames := 3, cells := 0, slots := 0, locals := 80 } : Room) s m ([.ref (ad 0), .int x] : List Value).toArray below meth c H locs 0 0 (MQ below (va_Qi (fun (r : Int32) (u : va_W) => ((∃ i F, i < 8 ∧ x = nI i ∧ r = nI F ∧ be_spec (LL i) (ww i) (nE i) F) ∨ ((¬ ∃ i, i < 8 ∧ x = nI i) ∧ r = -1)) ∧ atC u b k0 ad nE nV op LL ww ∧ kx_fr w0 u (fun j => b ≤ j ∧ j < b + 33)) (kx_B D (tyL k0) A) A) ([.ref (ad 0), .int x] : List Value).toArray s 0 0 A) (F0 m 37 ls []) := by
      intro n37
      induction n37 with
      | zero =>
        intro t9 F FF ht hgy hfo hrw hme
        exact absurd hme (by omega)
      | succ n37 ih37 =>
        intro t9 F FF ht hgy hfo hrw hme w1 F37_0 F37_1 F37_2 F37_3 F37_4 F37_5 F37_6 F37_7 hfr H locs hP hD hS ls hl
        refine lv_iload hx hb dX2_best_37 (lv_at hl 0 rfl) ?_
        refine lv_aload_n hx hb dX2_best_39 rfl (lv_at hl 3 rfl) ?_
        refine va_get (D := D) (ci := 1) (v := .int (nI (nE i))) (C := RX1) (T := TX1) (N := 5) hx hb hts inX1 hown hK hP (b + 9 + 3 * i) F37_5 rfl 2 (by decide) (hts _ tw_64) (fun _ h9 => h9) rfl dX2_best_40 ?_
        refine lv_icmp_ge (tgt := 96) hx hb dX2_best_43 (by decide) (fun c_43 => ?_) (fun c_43 => ?_)
        · skip
          have hik : t9 = nE i := by
            have := (nI_leI (by omega) (by omega)).mp c_43
            omega
          rw [hik] at hgy
          refine lv_iload hx hb dX2_best_96 (lv_at hl 1 rfl) ?_
          exact kx_iret (v := nI F) hx hb hr rfl hlocks hK hP hD hS dX2_best_98 (⟨Or.inl ⟨i, F, h8i, e_x, rfl, gy_best hw2i hgy⟩, atC_rest hC (kx_fr_mono hfr (fun j h => by omega)) ⟨_, _, _, F37_2, F37_3, F37_4⟩ ⟨r2, p2, k2, atF_fr ⟨hF2, hR2, hT2⟩ hfr ⟨by omega, by omega, by omega⟩⟩ ⟨dr, by rw [hfr _ (by omega)]; exact hd⟩, kx_fr_mono hfr (fun j h => by omega)⟩)
        · skip
          have hik : t9 < nE i := by
            rcases Nat.lt_or_ge (t9) (nE i) with h | h
            · exact h
            · exact absurd ((nI_leI (by omega) (by omega)).mpr h) c_43
          obtain ⟨hs1, hs2⟩ := (gy_U_card hw2i t9 ht).2 hik
          refine lv_aload_n hx hb dX2_best_46 rfl (lv_at hl 3 rfl) ?_
          refine lv_iload_n hx hb dX2_best_47 rfl (lv_at hl 2 rfl) ?_
          refine kx_goi (va_runV (As := [.int (nI (gy_U (ww i) (nE i) t9))]) (rest := []) ⟨hx, hb, hml, hown, hts⟩ (c_heaviest l D k0 w1 _ (b + 9 + 3 * i) (ad (9 + 3 * i)) (ad (10 + 3 * i)) (ad (11 + 3 * i)) (LL i) (ww i) (nE i) (nI (nV i)) (op i) F37_5 F37_6 F37_7 hni (gy_U (ww i) (nE i) t9) (gy_U_le2 hni t9)) ⟨(kg_B (k := 1) hts tw_207 tw_204 tw_21 (by decide +kernel) rfl rfl ⟨Nat.le_of_ble_eq_true rfl, Nat.le_of_ble_eq_true rfl⟩), hts _ tw_205, hts _ tw_206⟩ (kx_preV hN hK hP hD rfl F37_5) rfl rfl hl.1 rfl (lv_room (Nat.le_of_ble_eq_true rfl)) dX2_best_48 ⟨Nat.le_of_ble_eq_true rfl, Nat.le_of_ble_eq_true rfl⟩) hD hS hA (fun r_19 u_20 H locs hp_18 hP hD hS => ?_)
          obtain ⟨er_19, eu_20⟩ := hp_18
          rw [eu_20] at hP hD; subst er_19
          refine lv_istore (lv' := [(6, .int (nI (gy_s (ww i) (nE i) t9))), (5, .int (nI t9)), (4, .int (nI F)), (3, .int (nI (gy_U (ww i) (nE i) t9))), (2, .ref (ad (9 + 3 * i))), (0, .ref (ad 0)), (1, .int (nI i))]) hx hb dX2_best_51 hl (by decide) rfl (fun ls hl => ?_)
          refine lv_iload_n hx hb dX2_best_53 rfl (lv_at hl 3 rfl) ?_
          refine lv_iconst (v := 1) hx hb dX2_best_54 (by decide +kernel) ?_
          refine lv_iload hx hb dX2_best_55 (lv_at hl 0 rfl) ?_
          refine lv_ishl hx hb dX2_best_57 ?_
          refine lv_topi (fun z_21 ez_21 => ?_)
          have ez_21 : z_21 = nI (2 ^ gy_s (ww i) (nE i) t9) := by rw [ez_21]; exact kb_one (by omega)
          subst ez_21
          refine lv_iconst (v := -1) hx hb dX2_best_58 (by decide +kernel) ?_
          refine lv_ixor hx hb dX2_best_59 ?_
          refine lv_iand hx hb dX2_best_60 ?_
          refine lv_topi (fun z_22 ez_22 => ?_)
          have ez_22 : z_22 = nI (gy_U (ww i) (nE i) (t9 + 1)) := by rw [ez_22]; exact kb_not (gy_U_le2 hni t9)
          subst ez_22
          refine lv_istore_n (lv' := [(3, .int (nI (gy_U (ww i) (nE i) (t9 + 1)))), (6, .int (nI (gy_s (ww i) (nE i) t9))), (5, .int (nI t9)), (4, .int (nI F)), (2, .ref (ad (9 + 3 * i))), (0, .ref (ad 0)), (1, .int (nI i))]) hx hb dX2_best_61 rfl hl (by decide) rfl (fun ls hl => ?_)
          refine lv_aload_n hx hb dX2_best_62 rfl (lv_at hl 5 rfl) ?_
          refine va_get (D := D) (ci := 2) (v := .ref (ad 2)) (C := RX2) (T := TX2) (N := 4) hx hb hts inX2 hown hK hP b F37_0 rfl 1 (by decide) (hts _ tw_79) (fun _ h9 => h9) rfl dX2_best_63 ?_
          refine lv_iload hx hb dX2_best_66 (lv_at hl 1 rfl) ?_
          refine lv_aload_n hx hb dX2_best_68 rfl (lv_at hl 4 rfl) ?_
          refine va_get (D := D) (ci := 1) (v := .ref (ad (10 + 3 * i))) (C := RX1) (T := TX1) (N := 5) hx hb hts inX1 hown hK hP (b + 9 + 3 * i) F37_5 rfl 0 (by decide) (hts _ tw_59) (fun _ h9 => h9) rfl dX2_best_69 ?_
          refine lv_iload hx hb dX2_best_72 (lv_at hl 1 rfl) ?_
          refine kx_nald hx hb hK hP (b + 9 + 3 * i + 1) F37_6 rfl (i := (gy_s (ww i) (nE i) t9)) (by omega) (by decide) dX2_best_74 ?_
          refine kx_goi (va_runV (As := [.int (nI (gy_s (ww i) (nE i) t9)), .int (nI ((LL i) (gy_s (ww i) (nE i) t9)))]) (rest := []) ⟨hx, hb, hml, hown, hts⟩ (c_takes l D k0 w1 _ (b + 2) (ad 2) (ad 3) (ad 4) FF.1 FF.2.1 FF.2.2 F37_2 F37_3 F37_4 (by have := cf_card_le (nE i) F; rw [hfo.2.2.1] at this; omega) hrw (gy_s (ww i) (nE i) t9) (LL i (gy_s (ww i) (nE i) t9)) (by omega) (gl_lt (hl2i _ hs1)) (fun h => by have := fo_room hfo hs1 h; omega)) ⟨(kg_B (k := 2) hts tw_147 tw_209 tw_20 (by decide +kernel) rfl rfl ⟨Nat.le_of_ble_eq_true rfl, Nat.le_of_ble_eq_true rfl⟩), hts _ tw_145, hts _ tw_146⟩ (kx_preV hN hK hP hD rfl F37_2) rfl rfl hl.1 rfl (lv_room (Nat.le_of_ble_eq_true rfl)) dX2_best_75 ⟨Nat.le_of_ble_eq_true rfl, Nat.le_of_ble_eq_true rfl⟩) hD hS hA (fun r_24 u_25 H locs hp_23 hP hD hS => ?_)
          rcases hp_23 with ⟨h0, er, eu⟩ | ⟨h0, er, hF9, hq⟩
          · skip
            subst er
            rw [eu] at hP hD
            refine lv_if_eq (tgt := 90) hx hb dX2_best_78 (by decide) (fun c_78 => ?_) (fun c_78 => ?_)
            · skip
              refine lv_iinc (v := nI (t9 + 1)) (lv' := [(5, .int (nI (t9 + 1))), (3, .int (nI (gy_U (ww i) (nE i) (t9 + 1)))), (6, .int (nI (gy_s (ww i) (nE i) t9))), (4, .int (nI F)), (2, .ref (ad (9 + 3 * i))), (0, .ref (ad 0)), (1, .int (nI i))]) hx hb dX2_best_90 hl (k := 2) rfl (nI_1 _) (by decide) rfl (fun ls hl => ?_)
              refine lv_goto (tgt := 37) hx hb dX2_best_93 (by decide) ?_
              exact ih37 (t9 + 1) F FF (by omega) (gy_ok_out hgy ((fo_rest_iff hfo _).mp h0)) hfo hrw (by omega) w1 F37_0 F37_1 F37_2 F37_3 F37_4 F37_5 F37_6 F37_7 hfr _ _ hP hD hS _ (lv_sub hl [0, 3, 1, 4, 5, 6] rfl)
            · skip
              exact absurd rfl c_78
          · skip
            subst er
            obtain ⟨hF9, hR9, hT9⟩ := hF9
            have hq5 : True := trivial
            obtain hq6 := hq5
            have f_26 : u_25[b]? = some (ad 0, .inr (2, [.ref (ad 1), .ref (ad 2), .ref (ad 5), .ref (ad 8)])) := by rw [hq _ (by omega)]; exact F37_0
            have f_27 : u_25[b + 1]? = some (ad 1, .inl (k0 1, 8, .inr (.inr (.inr (.inr fq))))) := by rw [hq _ (by omega)]; exact F37_1
            have f_28 : u_25[b + 2]? = some (ad 2, .inr (0, [.ref (ad 3), .ref (ad 4), .int (nI (FF.2.2 + 1))])) := hF9
            have f_29 : u_25[b + 2 + 1]? = some (ad 3, .inl (k0 0, 12, .inl (fun y9 => nI (((fo_up FF.1 FF.2.2 (fo_rest FF.1 (LL i (gy_s (ww i) (nE i) t9)) FF.2.2), fo_up FF.2.1 FF.2.2 (fo_way FF.1 FF.2.1 (LL i (gy_s (ww i) (nE i) t9)) FF.2.2 ^^^ 2 ^ gy_s (ww i) (nE i) t9), FF.2.2 + 1).1) y9)))) := hR9
            have f_30 : u_25[b + 2 + 2]? = some (ad 4, .inl (k0 0, 12, .inl (fun y9 => nI (((fo_up FF.1 FF.2.2 (fo_rest FF.1 (LL i (gy_s (ww i) (nE i) t9)) FF.2.2), fo_up FF.2.1 FF.2.2 (fo_way FF.1 FF.2.1 (LL i (gy_s (ww i) (nE i) t9)) FF.2.2 ^^^ 2 ^ gy_s (ww i) (nE i) t9), FF.2.2 + 1).2.1) y9)))) := hT9
            have f_31 : u_25[b + 9 + 3 * i]? = some (ad (9 + 3 * i), .inr (1, [.ref (ad (10 + 3 * i)), .ref (ad (11 + 3 * i)), .int (nI (nE i)), .int (nI (nV i)), .int (op i)])) := by rw [hq _ (by omega)]; exact F37_5
            have f_32 : u_25[b + 9 + 3 * i + 1]? = some (ad (10 + 3 * i), .inl (k0 0, 12, .inl (fun y9 => nI ((LL i) y9)))) := by rw [hq _ (by omega)]; exact F37_6
            have f_33 : u_25[b + 9 + 3 * i + 2]? = some (ad (11 + 3 * i), .inl (k0 0, 12, .inl (ww i))) := by rw [hq _ (by omega)]; exact F37_7
            have hfr : kx_fr w0 u_25 (fun j => j = b + 2 ∨ j = b + 3 ∨ j = b + 4) := kx_fr_tr hfr (kx_fr_mono hq (fun j h => by omega))
            have f_34 : u_25[b + 2]? = some (ad 2, .inr (0, [.ref (ad 3), .ref (ad 4), .int (nI (fo_up FF.1 FF.2.2 (fo_rest FF.1 (LL i (gy_s (ww i) (nE i) t9)) FF.2.2), fo_up FF.2.1 FF.2.2 (fo_way FF.1 FF.2.1 (LL i (gy_s (ww i) (nE i) t9)) FF.2.2 ^^^ 2 ^ gy_s (ww i) (nE i) t9), FF.2.2 + 1).2.2)])) := by skip; exact f_28
            refine lv_if_eq (tgt := 90) hx hb dX2_best_78 (by decide) (fun c_78 => ?_) (fun c_78 => ?_)
            · skip
              exact absurd c_78 (by decide)
            · skip
              refine lv_iload hx hb dX2_best_81 (lv_at hl 3 rfl) ?_
              refine lv_iconst (v := 1) hx hb dX2_best_83 (by decide +kernel) ?_
              refine lv_iload hx hb dX2_best_84 (lv_at hl 1 rfl) ?_
              refine lv_ishl hx hb dX2_best_86 ?_
              refine lv_topi (fun z_35 ez_35 => ?_)
              have ez_35 : z_35 = nI (2 ^ gy_s (ww i) (nE i) t9) := by rw [ez_35]; exact kb_one (by omega)
              subst ez_35
              refine lv_ior hx hb dX2_best_87 ?_
              refine lv_topi (fun z_36 ez_36 => ?_)
              have ez_36 : z_36 = nI (F ||| 2 ^ gy_s (ww i) (nE i) t9) := by rw [ez_36]; exact kb_or _ _
              subst ez_36
              refine lv_istore (lv' := [(4, .int (nI (F ||| 2 ^ gy_s (ww i) (nE i) t9))), (3, .int (nI (gy_U (ww i) (nE i) (t9 + 1)))), (6, .int (nI (gy_s (ww i) (nE i) t9))), (5, .int (nI t9)), (2, .ref (ad (9 + 3 * i))), (0, .ref (ad 0)), (1, .int (nI i))]) hx hb dX2_best_88 hl (by decide) rfl (fun ls hl => ?_)
              refine lv_iinc (v := nI (t9 + 1)) (lv' := [(5, .int (nI (t9 + 1))), (4, .int (nI (F ||| 2 ^ gy_s (ww i) (nE i) t9))), (3, .int (nI (gy_U (ww i) (nE i) (t9 + 1)))), (6, .int (nI (gy_s (ww i) (nE i) t9))), (2, .ref (ad (9 + 3 * i))), (0, .ref (ad 0)), (1, .int (nI i))]) hx hb dX2_best_90 hl (k := 3) rfl (nI_1 _) (by decide) rfl (fun ls hl => ?_)
              refine lv_goto (tgt := 37) hx hb dX2_best_93 (by decide) ?_
              exact ih37 (t9 + 1) (F ||| 2 ^ gy_s (ww i) (nE i) t9) (fo_up FF.1 FF.2.2 (fo_rest FF.1 (LL i (gy_s (ww i) (nE i) t9)) FF.2.2), fo_up FF.2.1 FF.2.2 (fo_way FF.1 FF.2.1 (LL i (gy_s (ww i) (nE i) t9)) FF.2.2 ^^^ 2 ^ gy_s (ww i) (nE i) t9), FF.2.2 + 1) (by omega) (gy_ok_in hw2i (by omega) hgy (fun q9 => h0 ((fo_rest_iff hfo _).mpr q9))) (fo_take hfo hs1 h0) (fun j h => by
                  dsimp only at h ⊢
                  rcases Nat.lt_or_ge j FF.2.2 with q9 | q9
                  · rw [fo_up_lt _ _ q9]; exact hrw j q9
                  · rw [show j = FF.2.2 by omega, fo_up_self]; exact fo_rest_lt (gl_lt (hl2i _ hs1)) hrw _ (Nat.le_refl _)) (by omega) u_25 f_26 f_27 f_34 f_29 f_30 f_31 f_32 f_33 hfr _ _ hP hD hS _ (lv_sub hl [0, 1, 2, 4, 5, 6] rfl)
    exact loop_37 (nE i + 1) 0 0 (r1, p1, 0) (Nat.zero_le _) (gy_ok_0 _ _ _) (fo_ok_0 _ _ _ _) (fun j h => absurd h (Nat.not_lt_zero j)) (by omega) u_9 f_10 f_11 f_12 f_13 f_14 f_15 f_16 f_17 hfr _ _ hP hD hS _ (lv_sub hl [0, 1, 2, 3, 4, 5] rfl)
  · skip
    have hno := kg_0 hy_x c_4
    refine lv_iconst (v := -1) hx hb dX2_best_7 (by decide +kernel) ?_
    exact kx_iret (v := -1) hx hb hr rfl hlocks hK hP hD hS dX2_best_8 (⟨Or.inr ⟨hno, rfl⟩, hC, kx_fr_rf _ _⟩)
