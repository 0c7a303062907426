set_option maxHeartbeats 4000000 in
set_option maxRecDepth 100000 in
/-- the model: commonOf -/
theorem m_commonOf (l : Launch) (D : va_G) (k0 : Nat → ClassId)  (w0 : va_W) (sz : Nat) (q : Nat) (am mv mc mo me : Nat → Nat) (mw : Nat → Int32) (mm : Nat → Nat) (mk : Nat) (mn fb sb : Nat → Nat) (hM : atM w0 q k0 am mv mc mo me mw mm mk mn fb sb) (hI : minv mv mc mo me mw) (i j : Nat) (h8i : i < 8) (h8j : j < 8) (hnn : mc i = mc j) : kx_i l yX3_commonOf wsX3_commonOf ({ frames := 2, cells := 0, slots := 0, locals := 56 } : Room) D (tyL k0) w0 sz [.ref (am 0), .int (nI i), .int (nI j)] (fun (r : Int32) (u : va_W) => ∃ (I9 : Nat) (mn9 f9 s9 : Nat → Nat), r = nI I9 ∧ cm_spec (jl (mA me i) (mB me i)) (jl (mA me j) (mB me j)) (mc i) I9 ∧ (∀ s, s ≤ cf_full (mc i) → f9 s = cf_rk (jl (mA me i) (mB me i)) (mc i) s) ∧ (∀ s, s ≤ cf_full (mc i) → s9 s = cf_rk (jl (mA me j) (mB me j)) (mc i) s) ∧ u[q + 7]? = some (am 7, .inl (k0 0, 32, .inl (fun y9 => nI (mn9 y9)))) ∧ u[q + 8]? = some (am 8, .inl (k0 3, 4096, .inl (fun y9 => nI (f9 y9)))) ∧ u[q + 9]? = some (am 9, .inl (k0 3, 4096, .inl (fun y9 => nI (s9 y9)))) ∧ kx_fr w0 u (fun j => j = q + 7 ∨ j = q + 8 ∨ j = q + 9)) 0 0 := by
  refine kx_of (Qf := fun A => va_Qi (fun (r : Int32) (u : va_W) => ∃ (I9 : Nat) (mn9 f9 s9 : Nat → Nat), r = nI I9 ∧ cm_spec (jl (mA me i) (mB me i)) (jl (mA me j) (mB me j)) (mc i) I9 ∧ (∀ s, s ≤ cf_full (mc i) → f9 s = cf_rk (jl (mA me i) (mB me i)) (mc i) s) ∧ (∀ s, s ≤ cf_full (mc i) → s9 s = cf_rk (jl (mA me j) (mB me j)) (mc i) s) ∧ u[q + 7]? = some (am 7, .inl (k0 0, 32, .inl (fun y9 => nI (mn9 y9)))) ∧ u[q + 8]? = some (am 8, .inl (k0 3, 4096, .inl (fun y9 => nI (f9 y9)))) ∧ u[q + 9]? = some (am 9, .inl (k0 3, 4096, .inl (fun y9 => nI (s9 y9)))) ∧ kx_fr w0 u (fun j => j = q + 7 ∨ j = q + 8 ∨ j = q + 9)) (kx_B D (tyL k0) A) A) (cc := cX3_commonOf) (maxL := 7) (ret := (some .int)) (by decide +kernel) (Nat.le_of_ble_eq_true rfl) ?_
  intro p e s m below meth c A ls hx hb hml hown hts hr hlocks hnm hN hK hP hD hS hA hl
  have hown : s.vm.findClass RX3 = some m.cls := hown
  have hl : lv_has ls 7 [(0, .ref (am 0)), (1, .int (nI i)), (2, .int (nI j))] := hl
  have hfr : kx_fr w0 w0 (fun j => j = q + 7 ∨ j = q + 8 ∨ j = q + 9) := kx_fr_rf _ _
  obtain ⟨hM0, hM1, hM2, hM3, hM4, hM5, hM6, hM7, hM8, hM9⟩ := id hM
  obtain ⟨hni, hvi, hoi, he2i, hw2i⟩ := hI i h8i
  obtain ⟨hnj, hvj, hoj, he2j, hw2j⟩ := hI j h8j
  have hfl := kb_full_lt hni
  refine lv_aload_n hx hb dX3_commonOf_0 rfl (lv_at hl 0 rfl) ?_
  refine lv_iload_n hx hb dX3_commonOf_1 rfl (lv_at hl 1 rfl) ?_
  refine lv_aload_n hx hb dX3_commonOf_2 rfl (lv_at hl 0 rfl) ?_
  refine va_get (D := D) (ci := 3) (v := .ref (am 8)) (C := RX3) (T := TX3) (N := 10) hx hb hts inX3 hown hK hP q hM0 rfl 8 (by decide) (hts _ tw_258) (fun _ h9 => h9) rfl dX3_commonOf_3 ?_
  refine kx_gov (va_runV (As := [.int (nI i), .ref (am 8)]) (rest := []) ⟨hx, hb, hml, hown, hts⟩ (m_measure1 l D k0 w0 _ q am mv mc mo me mw mm mk mn fb sb ⟨hM0, hM1, hM2, hM3, hM4, hM5, hM6, hM7, hM8, hM9⟩ hI i h8i) ⟨(kg_B (k := 2) hts tw_353 tw_350 tw_22 (by decide +kernel) rfl rfl ⟨Nat.le_of_ble_eq_true rfl, Nat.le_of_ble_eq_true rfl⟩), hts _ tw_352, hts _ tw_15⟩ (kx_preV hN hK hP hD rfl hM0) rfl rfl hl.1 rfl (lv_room (Nat.le_of_ble_eq_true rfl)) dX3_commonOf_6 ⟨Nat.le_of_ble_eq_true rfl, Nat.le_of_ble_eq_true rfl⟩) hD hS hA (fun u_3 H locs hp_1 hP hD hS => ?_)
  obtain ⟨na, f9, hf9, hM79, hM89, hq⟩ := hp_1
  have f_4 : u_3[q]? = some (am 0, .inr (3, [.ref (am 1), .ref (am 2), .ref (am 3), .ref (am 4), .ref (am 5), .ref (am 6), .int (nI mk), .ref (am 7), .ref (am 8), .ref (am 9)])) := by rw [hq _ (by omega)]; exact hM0
  have f_5 : u_3[q + 1]? = some (am 1, .inl (k0 0, 8, .inl (fun y9 => nI (mv y9)))) := by rw [hq _ (by omega)]; exact hM1
  have f_6 : u_3[q + 2]? = some (am 2, .inl (k0 0, 8, .inl (fun y9 => nI (mc y9)))) := by rw [hq _ (by omega)]; exact hM2
  have f_7 : u_3[q + 3]? = some (am 3, .inl (k0 2, 8, .inl (fun y9 => nI (mo y9)))) := by rw [hq _ (by omega)]; exact hM3
  have f_8 : u_3[q + 4]? = some (am 4, .inl (k0 0, 192, .inl (fun y9 => nI (me y9)))) := by rw [hq _ (by omega)]; exact hM4
  have f_9 : u_3[q + 5]? = some (am 5, .inl (k0 0, 96, .inl mw)) := by rw [hq _ (by omega)]; exact hM5
  have f_10 : u_3[q + 6]? = some (am 6, .inl (k0 0, 24, .inl (fun y9 => nI (mm y9)))) := by rw [hq _ (by omega)]; exact hM6
  have f_11 : u_3[q + 7]? = some (am 7, .inl (k0 0, 32, .inl (fun y9 => nI (na y9)))) := hM79
  have f_12 : u_3[q + 8]? = some (am 8, .inl (k0 3, 4096, .inl (fun y9 => nI (f9 y9)))) := hM89
  have f_13 : u_3[q + 9]? = some (am 9, .inl (k0 3, 4096, .inl (fun y9 => nI (sb y9)))) := by rw [hq _ (by omega)]; exact hM9
  have hfr : kx_fr w0 u_3 (fun j => j = q + 7 ∨ j = q + 8 ∨ j = q + 9) := kx_fr_tr hfr (kx_fr_mono hq (fun j h => by omega))
  have rf9 : ∀ s, s ≤ cf_full (mc i) → f9 s = cf_rk (jl (mA me i) (mB me i)) (mc i) s := fun s hs => by rw [hf9 s hs, jn_rk s (mAB_lt he2i).1 (mAB_lt he2i).2]
  refine lv_aload_n hx hb dX3_commonOf_9 rfl (lv_at hl 0 rfl) ?_
  refine lv_iload_n hx hb dX3_commonOf_10 rfl (lv_at hl 2 rfl) ?_
  refine lv_aload_n hx hb dX3_commonOf_11 rfl (lv_at hl 0 rfl) ?_
  refine va_get (D := D) (ci := 3) (v := .ref (am 9)) (C := RX3) (T := TX3) (N := 10) hx hb hts inX3 hown hK hP q f_4 rfl 9 (by decide) (hts _ tw_259) (fun _ h9 => h9) rfl dX3_commonOf_12 ?_
  refine kx_gov (va_runV (As := [.int (nI j), .ref (am 9)]) (rest := []) ⟨hx, hb, hml, hown, hts⟩ (m_measure2 l D k0 u_3 _ q am mv mc mo me mw mm mk na f9 sb ⟨f_4, f_5, f_6, f_7, f_8, f_9, f_10, f_11, f_12, f_13⟩ hI j h8j) ⟨(kg_B (k := 2) hts tw_353 tw_350 tw_22 (by decide +kernel) rfl rfl ⟨Nat.le_of_ble_eq_true rfl, Nat.le_of_ble_eq_true rfl⟩), hts _ tw_352, hts _ tw_15⟩ (kx_preV hN hK hP hD rfl f_4) rfl rfl hl.1 rfl (lv_room (Nat.le_of_ble_eq_true rfl)) dX3_commonOf_15 ⟨Nat.le_of_ble_eq_true rfl, Nat.le_of_ble_eq_true rfl⟩) hD hS hA (fun u_16 H locs hp_14 hP hD hS => ?_)
  obtain ⟨nb, g9, hg9, hM79, hM89, hq⟩ := hp_14
  have f_17 : u_16[q]? = some (am 0, .inr (3, [.ref (am 1), .ref (am 2), .ref (am 3), .ref (am 4), .ref (am 5), .ref (am 6), .int (nI mk), .ref (am 7), .ref (am 8), .ref (am 9)])) := by rw [hq _ (by omega)]; exact f_4
  have f_18 : u_16[q + 1]? = some (am 1, .inl (k0 0, 8, .inl (fun y9 => nI (mv y9)))) := by rw [hq _ (by omega)]; exact f_5
  have f_19 : u_16[q + 2]? = some (am 2, .inl (k0 0, 8, .inl (fun y9 => nI (mc y9)))) := by rw [hq _ (by omega)]; exact f_6
  have f_20 : u_16[q + 3]? = some (am 3, .inl (k0 2, 8, .inl (fun y9 => nI (mo y9)))) := by rw [hq _ (by omega)]; exact f_7
  have f_21 : u_16[q + 4]? = some (am 4, .inl (k0 0, 192, .inl (fun y9 => nI (me y9)))) := by rw [hq _ (by omega)]; exact f_8
  have f_22 : u_16[q + 5]? = some (am 5, .inl (k0 0, 96, .inl mw)) := by rw [hq _ (by omega)]; exact f_9
  have f_23 : u_16[q + 6]? = some (am 6, .inl (k0 0, 24, .inl (fun y9 => nI (mm y9)))) := by rw [hq _ (by omega)]; exact f_10
  have f_24 : u_16[q + 7]? = some (am 7, .inl (k0 0, 32, .inl (fun y9 => nI (nb y9)))) := hM79
  have f_25 : u_16[q + 8]? = some (am 8, .inl (k0 3, 4096, .inl (fun y9 => nI (f9 y9)))) := by rw [hq _ (by omega)]; exact f_12
  have f_26 : u_16[q + 9]? = some (am 9, .inl (k0 3, 4096, .inl (fun y9 => nI (g9 y9)))) := hM89
  have hfr : kx_fr w0 u_16 (fun j => j = q + 7 ∨ j = q + 8 ∨ j = q + 9) := kx_fr_tr hfr (kx_fr_mono hq (fun j h => by omega))
  have rg9 : ∀ s, s ≤ cf_full (mc j) → g9 s = cf_rk (jl (mA me j) (mB me j)) (mc j) s := fun s hs => by rw [hg9 s hs, jn_rk s (mAB_lt he2j).1 (mAB_lt he2j).2]
  refine lv_iconst (v := nI 0) hx hb dX3_commonOf_18 (by decide +kernel) ?_
  refine lv_istore_n (lv' := [(3, .int (nI 0)), (0, .ref (am 0)), (1, .int (nI i)), (2, .int (nI j))]) hx hb dX3_commonOf_19 rfl hl (by decide) rfl (fun ls hl => ?_)
  refine lv_iconst (v := nI 0) hx hb dX3_commonOf_20 (by decide +kernel) ?_
  refine lv_istore (lv' := [(4, .int (nI 0)), (3, .int (nI 0)), (0, .ref (am 0)), (1, .int (nI i)), (2, .int (nI j))]) hx hb dX3_commonOf_21 hl (by decide) rfl (fun ls hl => ?_)
  have loop_23 : ∀ (n23 : Nat) (s9 : Nat) (F : Nat), (s9 ≤ cf_full (mc i) + 1) → (co_inv (jl (mA me i) (mB me i)) (jl (mA me j) (mB me j)) (mc i) s9 F) → (cf_full (mc i) + 2 ≤ s9 + n23) → ∀ (H : Heap) (locs : List Loc), va_P D vwCl u_16 H → va_D A u_16 → va_S A s.heap H locs → ∀ (ls : Array Slot), lv_has ls 7 [(4, .int (nI s9)), (3, .int (nI F)), (0, .ref (am 0)), (1, .int (nI i)), (2, .int (nI j))] → W p l e ({ frames := 2, cells := 0, slots := 0, locals := 56 } : Room) s m ([.ref (am 0), .int (nI i), .int (nI j)] : List Value).toArray below meth c H locs 0 0 (MQ below (va_Qi (fun (r : Int32) (u : va_W) => ∃ (I9 : Nat) (mn9 f9 s9 : Nat → Nat), r = nI I9 ∧ cm_spec (jl (mA me i) (mB me i)) (jl (mA me j) (mB me j)) (mc i) I9 ∧ (∀ s, s ≤ cf_full (mc i) → f9 s = cf_rk (jl (mA me i) (mB me i)) (mc i) s) ∧ (∀ s, s ≤ cf_full (mc i) → s9 s = cf_rk (jl (mA me j) (mB me j)) (mc i) s) ∧ u[q + 7]? = some (am 7, .inl (k0 0, 32, .inl (fun y9 => nI (mn9 y9)))) ∧ u[q + 8]? = some (am 8, .inl (k0 3, 4096, .inl (fun y9 => nI (f9 y9)))) ∧ u[q + 9]? = some (am 9, .inl (k0 3, 4096, .inl (fun y9 => nI (s9 y9)))) ∧ kx_fr w0 u (fun j => j = q + 7 ∨ j = q + 8 ∨ j = q + 9)) (kx_B D (tyL k0) A) A) ([.ref (am 0), .int (nI i), .int (nI j)] : List Value).toArray s 0 0 A) (F0 m 23 ls []) := by
    intro n23
    induction n23 with
    | zero =>
      intro s9 F hs9 hco hme
      exact absurd hme (by omega)
    | succ n23 ih23 =>
      intro s9 F hs9 hco hme  H locs hP hD hS ls hl
      refine lv_iload hx hb dX3_commonOf_23 (lv_at hl 0 rfl) ?_
      refine lv_aload_n hx hb dX3_commonOf_25 rfl (lv_at hl 2 rfl) ?_
      refine lv_iload_n hx hb dX3_commonOf_26 rfl (lv_at hl 3 rfl) ?_
      refine kx_goi (va_runV (As := [.int (nI i)]) (rest := [.int (nI s9)]) ⟨hx, hb, hml, hown, hts⟩ (m_whole l D k0 u_16 _ q am mv mc mo me mw mm mk nb f9 g9 ⟨f_17, f_18, f_19, f_20, f_21, f_22, f_23, f_24, f_25, f_26⟩ hI i h8i) ⟨(kg_B (k := 1) hts tw_313 tw_310 tw_22 (by decide +kernel) rfl rfl ⟨Nat.le_of_ble_eq_true rfl, Nat.le_of_ble_eq_true rfl⟩), hts _ tw_312, hts _ tw_10⟩ (kx_preV hN hK hP hD rfl f_17) rfl rfl hl.1 rfl (lv_room (Nat.le_of_ble_eq_true rfl)) dX3_commonOf_27 ⟨Nat.le_of_ble_eq_true rfl, Nat.le_of_ble_eq_true rfl⟩) hD hS hA (fun r_28 u_29 H locs hp_27 hP hD hS => ?_)
      obtain ⟨er_28, eu_29⟩ := hp_27
      rw [eu_29] at hP hD; subst er_28
      refine lv_icmp_gt (tgt := 112) hx hb dX3_commonOf_30 (by decide) (fun c_30 => ?_) (fun c_30 => ?_)
      · skip
        have hend : cf_full (mc i) < s9 := (nI_ltI (by omega) (by omega)).mp c_30
        refine lv_iload_n hx hb dX3_commonOf_112 rfl (lv_at hl 1 rfl) ?_
        exact kx_iret (v := nI F) hx hb hr rfl hlocks hK hP hD hS dX3_commonOf_113 (⟨F, nb, f9, g9, rfl, co_end hco hend, rf9, fun s hs => by rw [hnn]; exact rg9 s (by rw [← hnn]; exact hs), f_24, f_25, f_26, hfr⟩)
      · skip
        have hle : s9 ≤ cf_full (mc i) := by
          rcases Nat.lt_or_ge (cf_full (mc i)) s9 with h | h
          · exact absurd ((nI_ltI (by omega) (by omega)).mpr h) c_30
          · exact h
        have hss := kb_sub_full hle
        have hcs := cf_card_ge (show mc i ≤ 12 from hni) hss
        have hcl := cf_card_le 12 s9
        have hFb := kb_le_full hco.1
        have hcF := cf_card_ge (show mc i ≤ 12 from hni) hco.1
        have hcFl := cf_card_le 12 F
        have hrs := rf9 s9 hle
        have hrt : g9 s9 = cf_rk (jl (mA me j) (mB me j)) (mc i) s9 := by rw [hnn]; exact rg9 s9 (by rw [← hnn]; exact hle)
        have hrl := cf_rk_le (L := (jl (mA me i) (mB me i))) (n := mc i) (S := s9)
        have hrl2 := cf_rk_le (L := (jl (mA me j) (mB me j))) (n := mc i) (S := s9)
        refine lv_iload hx hb dX3_commonOf_33 (lv_at hl 0 rfl) ?_
        refine kx_goi (va_runS (As := [.int (nI s9)]) (rest := []) ⟨hx, hb, hml, hown, hts⟩ (m_size l D k0 u_16 _ s9 (by omega)) ⟨(kg_B (k := 1) hts tw_356 tw_354 tw_22 (by decide +kernel) rfl rfl ⟨Nat.le_of_ble_eq_true rfl, Nat.le_of_ble_eq_true rfl⟩), hts _ tw_355⟩ (kx_preS hN hK hP hD) rfl rfl hl.1 rfl (lv_room (Nat.le_of_ble_eq_true rfl)) dX3_commonOf_35 ⟨Nat.le_of_ble_eq_true rfl, Nat.le_of_ble_eq_true rfl⟩) hD hS hA (fun r_31 u_32 H locs hp_30 hP hD hS => ?_)
        obtain ⟨er_31, eu_32⟩ := hp_30
        rw [eu_32] at hP hD; subst er_31
        refine lv_istore (lv' := [(5, .int (nI (cf_card 12 s9))), (4, .int (nI s9)), (3, .int (nI F)), (0, .ref (am 0)), (1, .int (nI i)), (2, .int (nI j))]) hx hb dX3_commonOf_38 hl (by decide) rfl (fun ls hl => ?_)
        refine lv_aload_n hx hb dX3_commonOf_40 rfl (lv_at hl 3 rfl) ?_
        refine va_get (D := D) (ci := 3) (v := .ref (am 8)) (C := RX3) (T := TX3) (N := 10) hx hb hts inX3 hown hK hP q f_17 rfl 8 (by decide) (hts _ tw_258) (fun _ h9 => h9) rfl dX3_commonOf_41 ?_
        refine lv_iload hx hb dX3_commonOf_44 (lv_at hl 1 rfl) ?_
        refine kx_bald hx hb hK hP (q + 8) f_25 rfl (i := s9) (by omega) (by decide) dX3_commonOf_46 ?_
        refine lv_iload hx hb dX3_commonOf_47 (lv_at hl 0 rfl) ?_
        refine lv_icmp_ne (tgt := 68) hx hb dX3_commonOf_49 (by decide) (fun c_49 => ?_) (fun c_49 => ?_)
        · skip
          have hnb : ¬ (cf_ind (jl (mA me i) (mB me i)) (mc i) s9 ∧ cf_ind (jl (mA me j) (mB me j)) (mc i) s9) := fun h => c_49 (by rw [hrs, hcs, cf_ind_iff.mpr h.1])
          refine lv_iconst (v := 0) hx hb dX3_commonOf_68 (by decide +kernel) ?_
          refine lv_istore (lv' := [(6, .int 0), (5, .int (nI (cf_card 12 s9))), (4, .int (nI s9)), (3, .int (nI F)), (0, .ref (am 0)), (1, .int (nI i)), (2, .int (nI j))]) hx hb dX3_commonOf_69 hl (by decide) rfl (fun ls hl => ?_)
          refine lv_iload hx hb dX3_commonOf_71 (lv_at hl 0 rfl) ?_
          refine lv_if_eq (tgt := 106) hx hb dX3_commonOf_73 (by decide) (fun c_73 => ?_) (fun c_73 => ?_)
          · skip
            refine lv_iinc (v := nI (s9 + 1)) (lv' := [(4, .int (nI (s9 + 1))), (6, .int 0), (5, .int (nI (cf_card 12 s9))), (3, .int (nI F)), (0, .ref (am 0)), (1, .int (nI i)), (2, .int (nI j))]) hx hb dX3_commonOf_106 hl (k := 2) rfl (nI_1 _) (by decide) rfl (fun ls hl => ?_)
            refine lv_goto (tgt := 23) hx hb dX3_commonOf_109 (by decide) ?_
            exact ih23 (s9 + 1) F (by omega) (co_skip hco hnb) (by omega) _ _ hP hD hS _ (lv_sub hl [0, 3, 4, 5, 6] rfl)
          · skip
            exact absurd rfl c_73
        · skip
          have hb1 : cf_ind (jl (mA me i) (mB me i)) (mc i) s9 := cf_ind_iff.mp (by
            have := (nI_eq (by omega) (by omega)).mp c_49
            omega)
          refine lv_aload_n hx hb dX3_commonOf_52 rfl (lv_at hl 3 rfl) ?_
          refine va_get (D := D) (ci := 3) (v := .ref (am 9)) (C := RX3) (T := TX3) (N := 10) hx hb hts inX3 hown hK hP q f_17 rfl 9 (by decide) (hts _ tw_259) (fun _ h9 => h9) rfl dX3_commonOf_53 ?_
          refine lv_iload hx hb dX3_commonOf_56 (lv_at hl 1 rfl) ?_
          refine kx_bald hx hb hK hP (q + 9) f_26 rfl (i := s9) (by omega) (by decide) dX3_commonOf_58 ?_
          refine lv_iload hx hb dX3_commonOf_59 (lv_at hl 0 rfl) ?_
          refine lv_icmp_ne (tgt := 68) hx hb dX3_commonOf_61 (by decide) (fun c_61 => ?_) (fun c_61 => ?_)
          · skip
            have hnb : ¬ (cf_ind (jl (mA me i) (mB me i)) (mc i) s9 ∧ cf_ind (jl (mA me j) (mB me j)) (mc i) s9) := fun h => c_61 (by rw [hrt, hcs, cf_ind_iff.mpr h.2])
            refine lv_iconst (v := 0) hx hb dX3_commonOf_68 (by decide +kernel) ?_
            refine lv_istore (lv' := [(6, .int 0), (5, .int (nI (cf_card 12 s9))), (4, .int (nI s9)), (3, .int (nI F)), (0, .ref (am 0)), (1, .int (nI i)), (2, .int (nI j))]) hx hb dX3_commonOf_69 hl (by decide) rfl (fun ls hl => ?_)
            refine lv_iload hx hb dX3_commonOf_71 (lv_at hl 0 rfl) ?_
            refine lv_if_eq (tgt := 106) hx hb dX3_commonOf_73 (by decide) (fun c_73 => ?_) (fun c_73 => ?_)
            · skip
              refine lv_iinc (v := nI (s9 + 1)) (lv' := [(4, .int (nI (s9 + 1))), (6, .int 0), (5, .int (nI (cf_card 12 s9))), (3, .int (nI F)), (0, .ref (am 0)), (1, .int (nI i)), (2, .int (nI j))]) hx hb dX3_commonOf_106 hl (k := 2) rfl (nI_1 _) (by decide) rfl (fun ls hl => ?_)
              refine lv_goto (tgt := 23) hx hb dX3_commonOf_109 (by decide) ?_
              exact ih23 (s9 + 1) F (by omega) (co_skip hco hnb) (by omega) _ _ hP hD hS _ (lv_sub hl [0, 3, 4, 5, 6] rfl)
            · skip
              exact absurd rfl c_73
          · skip
            have hb2 : cf_ind (jl (mA me j) (mB me j)) (mc i) s9 := cf_ind_iff.mp (by
              have := (nI_eq (by omega) (by omega)).mp c_61
              omega)
            refine lv_iconst (v := 1) hx hb dX3_commonOf_64 (by decide +kernel) ?_
            refine lv_goto (tgt := 69) hx hb dX3_commonOf_65 (by decide) ?_
            refine lv_istore (lv' := [(6, .int 1), (5, .int (nI (cf_card 12 s9))), (4, .int (nI s9)), (3, .int (nI F)), (0, .ref (am 0)), (1, .int (nI i)), (2, .int (nI j))]) hx hb dX3_commonOf_69 hl (by decide) rfl (fun ls hl => ?_)
            refine lv_iload hx hb dX3_commonOf_71 (lv_at hl 0 rfl) ?_
            refine lv_if_eq (tgt := 106) hx hb dX3_commonOf_73 (by decide) (fun c_73 => ?_) (fun c_73 => ?_)
            · skip
              exact absurd c_73 (by decide)
            · skip
              refine lv_iload hx hb dX3_commonOf_76 (lv_at hl 1 rfl) ?_
              refine lv_iload_n hx hb dX3_commonOf_78 rfl (lv_at hl 3 rfl) ?_
              refine kx_goi (va_runS (As := [.int (nI F)]) (rest := [.int (nI (cf_card 12 s9))]) ⟨hx, hb, hml, hown, hts⟩ (m_size l D k0 u_16 _ F (by omega)) ⟨(kg_B (k := 1) hts tw_356 tw_354 tw_22 (by decide +kernel) rfl rfl ⟨Nat.le_of_ble_eq_true rfl, Nat.le_of_ble_eq_true rfl⟩), hts _ tw_355⟩ (kx_preS hN hK hP hD) rfl rfl hl.1 rfl (lv_room (Nat.le_of_ble_eq_true rfl)) dX3_commonOf_79 ⟨Nat.le_of_ble_eq_true rfl, Nat.le_of_ble_eq_true rfl⟩) hD hS hA (fun r_34 u_35 H locs hp_33 hP hD hS => ?_)
              obtain ⟨er_34, eu_35⟩ := hp_33
              rw [eu_35] at hP hD; subst er_34
              refine lv_icmp_gt (tgt := 103) hx hb dX3_commonOf_82 (by decide) (fun c_82 => ?_) (fun c_82 => ?_)
              · skip
                have h82 : cf_card (mc i) F < cf_card (mc i) s9 := by
                  have := (nI_ltI (by omega) (by omega)).mp c_82
                  omega
                refine lv_iload hx hb dX3_commonOf_103 (lv_at hl 2 rfl) ?_
                refine lv_istore_n (lv' := [(3, .int (nI s9)), (6, .int 1), (5, .int (nI (cf_card 12 s9))), (4, .int (nI s9)), (0, .ref (am 0)), (1, .int (nI i)), (2, .int (nI j))]) hx hb dX3_commonOf_105 rfl hl (by decide) rfl (fun ls hl => ?_)
                refine lv_iinc (v := nI (s9 + 1)) (lv' := [(4, .int (nI (s9 + 1))), (3, .int (nI s9)), (6, .int 1), (5, .int (nI (cf_card 12 s9))), (0, .ref (am 0)), (1, .int (nI i)), (2, .int (nI j))]) hx hb dX3_commonOf_106 hl (k := 3) rfl (nI_1 _) (by decide) rfl (fun ls hl => ?_)
                refine lv_goto (tgt := 23) hx hb dX3_commonOf_109 (by decide) ?_
                exact ih23 (s9 + 1) s9 (by omega) (co_take1 hco hss hb1 hb2 h82) (by omega) _ _ hP hD hS _ (lv_sub hl [0, 1, 4, 5, 6] rfl)
              · skip
                have h82 : ¬ cf_card (mc i) F < cf_card (mc i) s9 := fun h => c_82 ((nI_ltI (by omega) (by omega)).mpr (by omega))
                refine lv_iload hx hb dX3_commonOf_85 (lv_at hl 1 rfl) ?_
                refine lv_iload_n hx hb dX3_commonOf_87 rfl (lv_at hl 3 rfl) ?_
                refine kx_goi (va_runS (As := [.int (nI F)]) (rest := [.int (nI (cf_card 12 s9))]) ⟨hx, hb, hml, hown, hts⟩ (m_size l D k0 u_16 _ F (by omega)) ⟨(kg_B (k := 1) hts tw_356 tw_354 tw_22 (by decide +kernel) rfl rfl ⟨Nat.le_of_ble_eq_true rfl, Nat.le_of_ble_eq_true rfl⟩), hts _ tw_355⟩ (kx_preS hN hK hP hD) rfl rfl hl.1 rfl (lv_room (Nat.le_of_ble_eq_true rfl)) dX3_commonOf_88 ⟨Nat.le_of_ble_eq_true rfl, Nat.le_of_ble_eq_true rfl⟩) hD hS hA (fun r_37 u_38 H locs hp_36 hP hD hS => ?_)
                obtain ⟨er_37, eu_38⟩ := hp_36
                rw [eu_38] at hP hD; subst er_37
                refine lv_icmp_ne (tgt := 106) hx hb dX3_commonOf_91 (by decide) (fun c_91 => ?_) (fun c_91 => ?_)
                · skip
                  have h91 : cf_card (mc i) s9 ≠ cf_card (mc i) F := fun h => c_91 (by rw [hcs, hcF, h])
                  refine lv_iinc (v := nI (s9 + 1)) (lv' := [(4, .int (nI (s9 + 1))), (6, .int 1), (5, .int (nI (cf_card 12 s9))), (3, .int (nI F)), (0, .ref (am 0)), (1, .int (nI i)), (2, .int (nI j))]) hx hb dX3_commonOf_106 hl (k := 2) rfl (nI_1 _) (by decide) rfl (fun ls hl => ?_)
                  refine lv_goto (tgt := 23) hx hb dX3_commonOf_109 (by decide) ?_
                  exact ih23 (s9 + 1) F (by omega) (co_keep hco h82 (fun h => h91 h.1)) (by omega) _ _ hP hD hS _ (lv_sub hl [0, 3, 4, 5, 6] rfl)
                · skip
                  have h91 : cf_card (mc i) s9 = cf_card (mc i) F := by
                    have := (nI_eq (by omega) (by omega)).mp c_91
                    omega
                  refine lv_iload hx hb dX3_commonOf_94 (lv_at hl 2 rfl) ?_
                  refine lv_iload_n hx hb dX3_commonOf_96 rfl (lv_at hl 3 rfl) ?_
                  refine kx_goi (va_runS (As := [.int (nI s9), .int (nI F)]) (rest := []) ⟨hx, hb, hml, hown, hts⟩ (m_comesFirst l D k0 u_16 _ s9 F (by omega) (by omega)) ⟨(kg_B (k := 2) hts tw_359 tw_357 tw_22 (by decide +kernel) rfl rfl ⟨Nat.le_of_ble_eq_true rfl, Nat.le_of_ble_eq_true rfl⟩), hts _ tw_358⟩ (kx_preS hN hK hP hD) rfl rfl hl.1 rfl (lv_room (Nat.le_of_ble_eq_true rfl)) dX3_commonOf_97 ⟨Nat.le_of_ble_eq_true rfl, Nat.le_of_ble_eq_true rfl⟩) hD hS hA (fun r_40 u_41 H locs hp_39 hP hD hS => ?_)
                  obtain ⟨hcf, eu⟩ := hp_39
                  rw [eu] at hP hD
                  refine lv_if_eq (tgt := 106) hx hb dX3_commonOf_100 (by decide) (fun c_100 => ?_) (fun c_100 => ?_)
                  · skip
                    have h100 := kg_0 hcf c_100
                    refine lv_iinc (v := nI (s9 + 1)) (lv' := [(4, .int (nI (s9 + 1))), (6, .int 1), (5, .int (nI (cf_card 12 s9))), (3, .int (nI F)), (0, .ref (am 0)), (1, .int (nI i)), (2, .int (nI j))]) hx hb dX3_commonOf_106 hl (k := 2) rfl (nI_1 _) (by decide) rfl (fun ls hl => ?_)
                    refine lv_goto (tgt := 23) hx hb dX3_commonOf_109 (by decide) ?_
                    exact ih23 (s9 + 1) F (by omega) (co_keep hco h82 (fun h => h100 (Or.inr ⟨by omega, h.2⟩))) (by omega) _ _ hP hD hS _ (lv_sub hl [0, 3, 4, 5, 6] rfl)
                  · skip
                    have h100 : cf_lex s9 F := by
                      rcases kg_1 hcf c_100 with h | h
                      · omega
                      · exact h.2
                    refine lv_iload hx hb dX3_commonOf_103 (lv_at hl 2 rfl) ?_
                    refine lv_istore_n (lv' := [(3, .int (nI s9)), (6, .int 1), (5, .int (nI (cf_card 12 s9))), (4, .int (nI s9)), (0, .ref (am 0)), (1, .int (nI i)), (2, .int (nI j))]) hx hb dX3_commonOf_105 rfl hl (by decide) rfl (fun ls hl => ?_)
                    refine lv_iinc (v := nI (s9 + 1)) (lv' := [(4, .int (nI (s9 + 1))), (3, .int (nI s9)), (6, .int 1), (5, .int (nI (cf_card 12 s9))), (0, .ref (am 0)), (1, .int (nI i)), (2, .int (nI j))]) hx hb dX3_commonOf_106 hl (k := 3) rfl (nI_1 _) (by decide) rfl (fun ls hl => ?_)
                    refine lv_goto (tgt := 23) hx hb dX3_commonOf_109 (by decide) ?_
                    exact ih23 (s9 + 1) s9 (by omega) (co_take2 hco hss hb1 hb2 h91 h100) (by omega) _ _ hP hD hS _ (lv_sub hl [0, 1, 4, 5, 6] rfl)
  exact loop_23 (cf_full (mc i) + 2) 0 0 (by omega) (co_0 _ _ _) (by omega) _ _ hP hD hS _ (lv_sub hl [0, 1, 2, 3, 4] rfl)

set_option maxHeartbeats 4000000 in
set_option maxRecDepth 100000 in
/-- the model: common -/
theorem m_common (l : Launch) (D : va_G) (k0 : Nat → ClassId)  (w0 : va_W) (sz : Nat) (q : Nat) (am mv mc mo me : Nat → Nat) (mw : Nat → Int32) (mm : Nat → Nat) (mk : Nat) (mn fb sb : Nat → Nat) (hM : atM w0 q k0 am mv mc mo me mw mm mk mn fb sb) (hI : minv mv mc mo me mw) (x y : Int32) : kx_i l yX3_common wsX3_common ({ frames := 3, cells := 0, slots := 0, locals := 84 } : Room) D (tyL k0) w0 sz [.ref (am 0), .int x, .int y] (fun (r : Int32) (u : va_W) => ((∃ i j C, i < 8 ∧ j < 8 ∧ mc i = mc j ∧ x = nI i ∧ y = nI j ∧ r = nI C ∧ cm_spec (jl (mA me i) (mB me i)) (jl (mA me j) (mB me j)) (mc i) C) ∨ (¬ (∃ i j, i < 8 ∧ j < 8 ∧ mc i = mc j ∧ x = nI i ∧ y = nI j) ∧ r = -1)) ∧ (∃ mn9 f9 s9, atM u q k0 am mv mc mo me mw mm mk mn9 f9 s9) ∧ kx_fr w0 u (fun j => q ≤ j ∧ j < q + 10)) 0 0 := by
  refine kx_of (Qf := fun A => va_Qi (fun (r : Int32) (u : va_W) => ((∃ i j C, i < 8 ∧ j < 8 ∧ mc i = mc j ∧ x = nI i ∧ y = nI j ∧ r = nI C ∧ cm_spec (jl (mA me i) (mB me i)) (jl (mA me j) (mB me j)) (mc i) C) ∨ (¬ (∃ i j, i < 8 ∧ j < 8 ∧ mc i = mc j ∧ x = nI i ∧ y = nI j) ∧ r = -1)) ∧ (∃ mn9 f9 s9, atM u q k0 am mv mc mo me mw mm mk mn9 f9 s9) ∧ kx_fr w0 u (fun j => q ≤ j ∧ j < q + 10)) (kx_B D (tyL k0) A) A) (cc := cX3_common) (maxL := 3) (ret := (some .int)) (by decide +kernel) (Nat.le_of_ble_eq_true rfl) ?_
  intro p e s m below meth c A ls hx hb hml hown hts hr hlocks hnm hN hK hP hD hS hA hl
  have hown : s.vm.findClass RX3 = some m.cls := hown
  have hl : lv_has ls 3 [(0, .ref (am 0)), (1, .int x), (2, .int y)] := hl
  skip
  obtain ⟨hM0, hM1, hM2, hM3, hM4, hM5, hM6, hM7, hM8, hM9⟩ := id hM
  refine lv_aload_n hx hb dX3_common_0 rfl (lv_at hl 0 rfl) ?_
  refine lv_iload_n hx hb dX3_common_1 rfl (lv_at hl 1 rfl) ?_
  refine lv_iload_n hx hb dX3_common_2 rfl (lv_at hl 2 rfl) ?_
  refine kx_goi (va_runV (As := [.int x, .int y]) (rest := []) ⟨hx, hb, hml, hown, hts⟩ (m_areAlike l D k0 w0 _ q am mv mc mo me mw mm mk mn fb sb ⟨hM0, hM1, hM2, hM3, hM4, hM5, hM6, hM7, hM8, hM9⟩ hI x y) ⟨(kg_B (k := 2) hts tw_367 tw_364 tw_22 (by decide +kernel) rfl rfl ⟨Nat.le_of_ble_eq_true rfl, Nat.le_of_ble_eq_true rfl⟩), hts _ tw_366, hts _ tw_16⟩ (kx_preV hN hK hP hD rfl hM0) rfl rfl hl.1 rfl (lv_room (Nat.le_of_ble_eq_true rfl)) dX3_common_3 ⟨Nat.le_of_ble_eq_true rfl, Nat.le_of_ble_eq_true rfl⟩) hD hS hA (fun r_2 u_3 H locs hp_1 hP hD hS => ?_)
  obtain ⟨hy_, eu⟩ := hp_1
  rw [eu] at hP hD
  refine lv_if_eq (tgt := 18) hx hb dX3_common_6 (by decide) (fun c_6 => ?_) (fun c_6 => ?_)
  · skip
    have hno := kg_0 hy_ c_6
    refine lv_iconst (v := -1) hx hb dX3_common_18 (by decide +kernel) ?_
    exact kx_iret (v := -1) hx hb hr rfl hlocks hK hP hD hS dX3_common_19 (by first | exact ⟨Or.inr ⟨hno, rfl⟩, ⟨_, _, _, hM⟩, kx_fr_rf _ _⟩ | exact ⟨Or.inl ⟨i, j, I9, h8i, h8j, hnn, e_x, e_y, rfl, hcm⟩, ⟨_, _, _, ⟨(by rw [hq _ (by omega)]; exact hM0), (by rw [hq _ (by omega)]; exact hM1), (by rw [hq _ (by omega)]; exact hM2), (by rw [hq _ (by omega)]; exact hM3), (by rw [hq _ (by omega)]; exact hM4), (by rw [hq _ (by omega)]; exact hM5), (by rw [hq _ (by omega)]; exact hM6), h79, h89, h99⟩⟩, kx_fr_mono hq (fun j h => by omega)⟩)
  · skip
    obtain ⟨i, j, h8i, h8j, hnn, e_x, e_y⟩ := kg_1 hy_ c_6
    rw [e_x, e_y] at hl
    refine lv_aload_n hx hb dX3_common_9 rfl (lv_at hl 0 rfl) ?_
    refine lv_iload_n hx hb dX3_common_10 rfl (lv_at hl 1 rfl) ?_
    refine lv_iload_n hx hb dX3_common_11 rfl (lv_at hl 2 rfl) ?_
    refine kx_goi (va_runV (As := [.int (nI i), .int (nI j)]) (rest := []) ⟨hx, hb, hml, hown, hts⟩ (m_commonOf l D k0 w0 _ q am mv mc mo me mw mm mk mn fb sb ⟨hM0, hM1, hM2, hM3, hM4, hM5, hM6, hM7, hM8, hM9⟩ hI i j h8i h8j hnn) ⟨(kg_B (k := 2) hts tw_371 tw_368 tw_22 (by decide +kernel) rfl rfl ⟨Nat.le_of_ble_eq_true rfl, Nat.le_of_ble_eq_true rfl⟩), hts _ tw_370, hts _ tw_17⟩ (kx_preV hN hK hP hD rfl hM0) rfl rfl hl.1 rfl (lv_room (Nat.le_of_ble_eq_true rfl)) dX3_common_12 ⟨Nat.le_of_ble_eq_true rfl, Nat.le_of_ble_eq_true rfl⟩) hD hS hA (fun r_5 u_6 H locs hp_4 hP hD hS => ?_)
    obtain ⟨I9, nb, f9, g9, er, hcm, hf9, hg9, h79, h89, h99, hq⟩ := hp_4
    subst er
    refine lv_goto (tgt := 19) hx hb dX3_common_15 (by decide) ?_
    exact kx_iret (v := nI I9) hx hb hr rfl hlocks hK hP hD hS dX3_common_19 (by first | exact ⟨Or.inr ⟨hno, rfl⟩, ⟨_, _, _, hM⟩, kx_fr_rf _ _⟩ | exact ⟨Or.inl ⟨i, j, I9, h8i, h8j, hnn, e_x, e_y, rfl, hcm⟩, ⟨_, _, _, ⟨(by rw [hq _ (by omega)]; exact hM0), (by rw [hq _ (by omega)]; exact hM1), (by rw [hq _ (by omega)]; exact hM2), (by rw [hq _ (by omega)]; exact hM3), (by rw [hq _ (by omega)]; exact hM4), (by rw [hq _ (by omega)]; exact hM5), (by rw [hq _ (by omega)]; exact hM6), h79, h89, h99⟩⟩, kx_fr_mono hq (fun j h => by omega)⟩)

set_option maxHeartbeats 4000000 in
set_option maxRecDepth 100000 in
/-- the model: cover -/
theorem m_cover (l : Launch) (D : va_G) (k0 : Nat → ClassId)  (w0 : va_W) (sz : Nat) (q : Nat) (am mv mc mo me : Nat → Nat) (mw : Nat → Int32) (mm : Nat → Nat) (mk : Nat) (mn fb sb : Nat → Nat) (hM : atM w0 q k0 am mv mc mo me mw mm mk mn fb sb) (hI : minv mv mc mo me mw) (x y : Int32) : kx_i l yX3_cover wsX3_cover ({ frames := 3, cells := 0, slots := 0, locals := 84 } : Room) D (tyL k0) w0 sz [.ref (am 0), .int x, .int y] (fun (r : Int32) (u : va_W) => ((∃ i j I9, i < 8 ∧ j < 8 ∧ mc i = mc j ∧ x = nI i ∧ y = nI j ∧ cm_spec (jl (mA me i) (mB me i)) (jl (mA me j) (mB me j)) (mc i) I9 ∧ r = nI (cw_f (jl (mA me i) (mB me i)) (jl (mA me j) (mB me j)) (mc i) I9 (cf_full (mc i) + 1))) ∨ (¬ (∃ i j, i < 8 ∧ j < 8 ∧ mc i = mc j ∧ x = nI i ∧ y = nI j) ∧ r = -1)) ∧ (∃ mn9 f9 s9, atM u q k0 am mv mc mo me mw mm mk mn9 f9 s9) ∧ kx_fr w0 u (fun j => q ≤ j ∧ j < q + 10)) 0 0 := by
  refine kx_of (Qf := fun A => va_Qi (fun (r : Int32) (u : va_W) => ((∃ i j I9, i < 8 ∧ j < 8 ∧ mc i = mc j ∧ x = nI i ∧ y = nI j ∧ cm_spec (jl (mA me i) (mB me i)) (jl (mA me j) (mB me j)) (mc i) I9 ∧ r = nI (cw_f (jl (mA me i) (mB me i)) (jl (mA me j) (mB me j)) (mc i) I9 (cf_full (mc i) + 1))) ∨ (¬ (∃ i j, i < 8 ∧ j < 8 ∧ mc i = mc j ∧ x = nI i ∧ y = nI j) ∧ r = -1)) ∧ (∃ mn9 f9 s9, atM u q k0 am mv mc mo me mw mm mk mn9 f9 s9) ∧ kx_fr w0 u (fun j => q ≤ j ∧ j < q + 10)) (kx_B D (tyL k0) A) A) (cc := cX3_cover) (maxL := 7) (ret := (some .int)) (by decide +kernel) (Nat.le_of_ble_eq_true rfl) ?_
  intro p e s m below meth c A ls hx hb hml hown hts hr hlocks hnm hN hK hP hD hS hA hl
  have hown : s.vm.findClass RX3 = some m.cls := hown
  have hl : lv_has ls 7 [(0, .ref (am 0)), (1, .int x), (2, .int y)] := hl
  have hfr : kx_fr w0 w0 (fun j => j = q + 7 ∨ j = q + 8 ∨ j = q + 9) := kx_fr_rf _ _
  obtain ⟨hM0, hM1, hM2, hM3, hM4, hM5, hM6, hM7, hM8, hM9⟩ := id hM
  refine lv_aload_n hx hb dX3_cover_0 rfl (lv_at hl 0 rfl) ?_
  refine lv_iload_n hx hb dX3_cover_1 rfl (lv_at hl 1 rfl) ?_
  refine lv_iload_n hx hb dX3_cover_2 rfl (lv_at hl 2 rfl) ?_
  refine kx_goi (va_runV (As := [.int x, .int y]) (rest := []) ⟨hx, hb, hml, hown, hts⟩ (m_areAlike l D k0 w0 _ q am mv mc mo me mw mm mk mn fb sb ⟨hM0, hM1, hM2, hM3, hM4, hM5, hM6, hM7, hM8, hM9⟩ hI x y) ⟨(kg_B (k := 2) hts tw_367 tw_364 tw_22 (by decide +kernel) rfl rfl ⟨Nat.le_of_ble_eq_true rfl, Nat.le_of_ble_eq_true rfl⟩), hts _ tw_366, hts _ tw_16⟩ (kx_preV hN hK hP hD rfl hM0) rfl rfl hl.1 rfl (lv_room (Nat.le_of_ble_eq_true rfl)) dX3_cover_3 ⟨Nat.le_of_ble_eq_true rfl, Nat.le_of_ble_eq_true rfl⟩) hD hS hA (fun r_2 u_3 H locs hp_1 hP hD hS => ?_)
  obtain ⟨hy_, eu⟩ := hp_1
  rw [eu] at hP hD
  refine lv_if_ne (tgt := 11) hx hb dX3_cover_6 (by decide) (fun c_6 => ?_) (fun c_6 => ?_)
  · skip
    obtain ⟨i, j, h8i, h8j, hnn, e_x, e_y⟩ := kg_1 hy_ c_6
    rw [e_x, e_y] at hl
    obtain ⟨hni, hvi, hoi, he2i, hw2i⟩ := hI i h8i
    have hfl := kb_full_lt hni
    refine lv_aload_n hx hb dX3_cover_11 rfl (lv_at hl 0 rfl) ?_
    refine lv_iload_n hx hb dX3_cover_12 rfl (lv_at hl 1 rfl) ?_
    refine lv_iload_n hx hb dX3_cover_13 rfl (lv_at hl 2 rfl) ?_
    refine kx_goi (va_runV (As := [.int (nI i), .int (nI j)]) (rest := []) ⟨hx, hb, hml, hown, hts⟩ (m_commonOf l D k0 w0 _ q am mv mc mo me mw mm mk mn fb sb ⟨hM0, hM1, hM2, hM3, hM4, hM5, hM6, hM7, hM8, hM9⟩ hI i j h8i h8j hnn) ⟨(kg_B (k := 2) hts tw_371 tw_368 tw_22 (by decide +kernel) rfl rfl ⟨Nat.le_of_ble_eq_true rfl, Nat.le_of_ble_eq_true rfl⟩), hts _ tw_370, hts _ tw_17⟩ (kx_preV hN hK hP hD rfl hM0) rfl rfl hl.1 rfl (lv_room (Nat.le_of_ble_eq_true rfl)) dX3_cover_14 ⟨Nat.le_of_ble_eq_true rfl, Nat.le_of_ble_eq_true rfl⟩) hD hS hA (fun r_5 u_6 H locs hp_4 hP hD hS => ?_)
    obtain ⟨I9, nb, f9, g9, er, hcm, hf9, hg9, hM79, hM89, hM99, hq⟩ := hp_4
    have f_7 : u_6[q]? = some (am 0, .inr (3, [.ref (am 1), .ref (am 2), .ref (am 3), .ref (am 4), .ref (am 5), .ref (am 6), .int (nI mk), .ref (am 7), .ref (am 8), .ref (am 9)])) := by rw [hq _ (by omega)]; exact hM0
    have f_8 : u_6[q + 1]? = some (am 1, .inl (k0 0, 8, .inl (fun y9 => nI (mv y9)))) := by rw [hq _ (by omega)]; exact hM1
    have f_9 : u_6[q + 2]? = some (am 2, .inl (k0 0, 8, .inl (fun y9 => nI (mc y9)))) := by rw [hq _ (by omega)]; exact hM2
    have f_10 : u_6[q + 3]? = some (am 3, .inl (k0 2, 8, .inl (fun y9 => nI (mo y9)))) := by rw [hq _ (by omega)]; exact hM3
    have f_11 : u_6[q + 4]? = some (am 4, .inl (k0 0, 192, .inl (fun y9 => nI (me y9)))) := by rw [hq _ (by omega)]; exact hM4
    have f_12 : u_6[q + 5]? = some (am 5, .inl (k0 0, 96, .inl mw)) := by rw [hq _ (by omega)]; exact hM5
    have f_13 : u_6[q + 6]? = some (am 6, .inl (k0 0, 24, .inl (fun y9 => nI (mm y9)))) := by rw [hq _ (by omega)]; exact hM6
    have f_14 : u_6[q + 7]? = some (am 7, .inl (k0 0, 32, .inl (fun y9 => nI (nb y9)))) := hM79
    have f_15 : u_6[q + 8]? = some (am 8, .inl (k0 3, 4096, .inl (fun y9 => nI (f9 y9)))) := hM89
    have f_16 : u_6[q + 9]? = some (am 9, .inl (k0 3, 4096, .inl (fun y9 => nI (g9 y9)))) := hM99
    have hfr : kx_fr w0 u_6 (fun j => j = q + 7 ∨ j = q + 8 ∨ j = q + 9) := kx_fr_tr hfr (kx_fr_mono hq (fun j h => by omega))
    subst er
    have hIs := hcm.1.1
    have hIb := kb_le_full hIs
    have hcI := cf_card_ge (show mc i ≤ 12 from hni) hIs
    have hcIl := cf_card_le 12 I9
    refine kx_goi (va_runS (As := [.int (nI I9)]) (rest := []) ⟨hx, hb, hml, hown, hts⟩ (m_size l D k0 u_6 _ I9 (by omega)) ⟨(kg_B (k := 1) hts tw_356 tw_354 tw_22 (by decide +kernel) rfl rfl ⟨Nat.le_of_ble_eq_true rfl, Nat.le_of_ble_eq_true rfl⟩), hts _ tw_355⟩ (kx_preS hN hK hP hD) rfl rfl hl.1 rfl (lv_room (Nat.le_of_ble_eq_true rfl)) dX3_cover_17 ⟨Nat.le_of_ble_eq_true rfl, Nat.le_of_ble_eq_true rfl⟩) hD hS hA (fun r_18 u_19 H locs hp_17 hP hD hS => ?_)
    obtain ⟨er_18, eu_19⟩ := hp_17
    rw [eu_19] at hP hD; subst er_18
    refine lv_topi (fun z_20 ez_20 => ?_)
    have ez_20 : z_20 = nI (cf_card (mc i) I9) := by rw [ez_20]; rw [hcI]
    subst ez_20
    refine lv_istore_n (lv' := [(3, .int (nI (cf_card (mc i) I9))), (0, .ref (am 0)), (1, .int (nI i)), (2, .int (nI j))]) hx hb dX3_cover_20 rfl hl (by decide) rfl (fun ls hl => ?_)
    refine lv_aload_n hx hb dX3_cover_21 rfl (lv_at hl 1 rfl) ?_
    refine lv_iload_n hx hb dX3_cover_22 rfl (lv_at hl 2 rfl) ?_
    refine kx_goi (va_runV (As := [.int (nI i)]) (rest := []) ⟨hx, hb, hml, hown, hts⟩ (m_whole l D k0 u_6 _ q am mv mc mo me mw mm mk nb f9 g9 ⟨f_7, f_8, f_9, f_10, f_11, f_12, f_13, f_14, f_15, f_16⟩ hI i h8i) ⟨(kg_B (k := 1) hts tw_313 tw_310 tw_22 (by decide +kernel) rfl rfl ⟨Nat.le_of_ble_eq_true rfl, Nat.le_of_ble_eq_true rfl⟩), hts _ tw_312, hts _ tw_10⟩ (kx_preV hN hK hP hD rfl f_7) rfl rfl hl.1 rfl (lv_room (Nat.le_of_ble_eq_true rfl)) dX3_cover_23 ⟨Nat.le_of_ble_eq_true rfl, Nat.le_of_ble_eq_true rfl⟩) hD hS hA (fun r_22 u_23 H locs hp_21 hP hD hS => ?_)
    obtain ⟨er_22, eu_23⟩ := hp_21
    rw [eu_23] at hP hD; subst er_22
    refine lv_istore (lv' := [(4, .int (nI (cf_full (mc i)))), (3, .int (nI (cf_card (mc i) I9))), (0, .ref (am 0)), (1, .int (nI i)), (2, .int (nI j))]) hx hb dX3_cover_26 hl (by decide) rfl (fun ls hl => ?_)
    refine lv_iload hx hb dX3_cover_28 (lv_at hl 0 rfl) ?_
    refine lv_istore (lv' := [(5, .int (nI (cf_full (mc i)))), (4, .int (nI (cf_full (mc i)))), (3, .int (nI (cf_card (mc i) I9))), (0, .ref (am 0)), (1, .int (nI i)), (2, .int (nI j))]) hx hb dX3_cover_30 hl (by decide) rfl (fun ls hl => ?_)
    refine lv_iconst (v := nI 0) hx hb dX3_cover_32 (by decide +kernel) ?_
    refine lv_istore (lv' := [(6, .int (nI 0)), (5, .int (nI (cf_full (mc i)))), (4, .int (nI (cf_full (mc i)))), (3, .int (nI (cf_card (mc i) I9))), (0, .ref (am 0)), (1, .int (nI i)), (2, .int (nI j))]) hx hb dX3_cover_33 hl (by decide) rfl (fun ls hl => ?_)
    have loop_35 : ∀ (n35 : Nat) (s9 : Nat), (s9 ≤ cf_full (mc i) + 1) → (cf_full (mc i) + 2 ≤ s9 + n35) → ∀ (H : Heap) (locs : List Loc), va_P D vwCl u_6 H → va_D A u_6 → va_S A s.heap H locs → ∀ (ls : Array Slot), lv_has ls 7 [(6, .int (nI s9)), (5, .int (nI (cw_f (jl (mA me i) (mB me i)) (jl (mA me j) (mB me j)) (mc i) I9 s9))), (4, .int (nI (cf_full (mc i)))), (3, .int (nI (cf_card (mc i) I9))), (0, .ref (am 0)), (1, .int (nI i)), (2, .int (nI j))] → W p l e ({ frames := 3, cells := 0, slots := 0, locals := 84 } : Room) s m ([.ref (am 0), .int x, .int y] : List Value).toArray below meth c H locs 0 0 (MQ below (va_Qi (fun (r : Int32) (u : va_W) => ((∃ i j I9, i < 8 ∧ j < 8 ∧ mc i = mc j ∧ x = nI i ∧ y = nI j ∧ cm_spec (jl (mA me i) (mB me i)) (jl (mA me j) (mB me j)) (mc i) I9 ∧ r = nI (cw_f (jl (mA me i) (mB me i)) (jl (mA me j) (mB me j)) (mc i) I9 (cf_full (mc i) + 1))) ∨ (¬ (∃ i j, i < 8 ∧ j < 8 ∧ mc i = mc j ∧ x = nI i ∧ y = nI j) ∧ r = -1)) ∧ (∃ mn9 f9 s9, atM u q k0 am mv mc mo me mw mm mk mn9 f9 s9) ∧ kx_fr w0 u (fun j => q ≤ j ∧ j < q + 10)) (kx_B D (tyL k0) A) A) ([.ref (am 0), .int x, .int y] : List Value).toArray s 0 0 A) (F0 m 35 ls []) := by
      intro n35
      induction n35 with
      | zero =>
        intro s9 hs9 hme
        exact absurd hme (by omega)
      | succ n35 ih35 =>
        intro s9 hs9 hme  H locs hP hD hS ls hl
        refine lv_iload hx hb dX3_cover_35 (lv_at hl 0 rfl) ?_
        refine lv_iload hx hb dX3_cover_37 (lv_at hl 2 rfl) ?_
        refine lv_icmp_gt (tgt := 84) hx hb dX3_cover_39 (by decide) (fun c_39 => ?_) (fun c_39 => ?_)
        · skip
          have hend : cf_full (mc i) < s9 := (nI_ltI (by omega) (by omega)).mp c_39
          have hs8 : s9 = cf_full (mc i) + 1 := by omega
          rw [hs8] at hl
          refine lv_iload hx hb dX3_cover_84 (lv_at hl 1 rfl) ?_
          exact kx_iret (v := nI (cw_f (jl (mA me i) (mB me i)) (jl (mA me j) (mB me j)) (mc i) I9 (cf_full (mc i) + 1))) hx hb hr rfl hlocks hK hP hD hS dX3_cover_86 (⟨Or.inl ⟨i, j, I9, h8i, h8j, hnn, e_x, e_y, hcm, rfl⟩, ⟨_, _, _, ⟨f_7, f_8, f_9, f_10, f_11, f_12, f_13, f_14, f_15, f_16⟩⟩, kx_fr_mono hfr (fun j h => by omega)⟩)
        · skip
          have hle : s9 ≤ cf_full (mc i) := by
            rcases Nat.lt_or_ge (cf_full (mc i)) s9 with h | h
            · exact absurd ((nI_ltI (by omega) (by omega)).mpr h) c_39
            · exact h
          have hss := kb_sub_full hle
          have hcs := cf_card_ge (show mc i ≤ 12 from hni) hss
          have hcl := cf_card_le 12 s9
          have hdf : cf_diff (cf_full (mc i)) s9 ≤ cf_full (mc i) := kb_le_full (fun z hz => by rw [cf_diff_bit] at hz; cases c9 : (cf_full (mc i)).testBit z <;> simp [c9] at hz ⊢)
          have k1 := hf9 s9 hle
          have k2 := hg9 _ hdf
          have k3 := cf_rk_le (L := (jl (mA me i) (mB me i))) (n := mc i) (S := s9)
          have k4 := cf_card_le (mc i) s9
          have k5 := cf_rk_le (L := (jl (mA me j) (mB me j))) (n := mc i) (S := cf_diff (cf_full (mc i)) s9)
          have k6 := cf_card_le (mc i) (cf_diff (cf_full (mc i)) s9)
          have k7 := cf_card_le (mc i) I9
          refine lv_aload_n hx hb dX3_cover_42 rfl (lv_at hl 4 rfl) ?_
          refine va_get (D := D) (ci := 3) (v := .ref (am 8)) (C := RX3) (T := TX3) (N := 10) hx hb hts inX3 hown hK hP q f_7 rfl 8 (by decide) (hts _ tw_258) (fun _ h9 => h9) rfl dX3_cover_43 ?_
          refine lv_iload hx hb dX3_cover_46 (lv_at hl 0 rfl) ?_
          refine kx_bald hx hb hK hP (q + 8) f_15 rfl (i := s9) (by omega) (by decide) dX3_cover_48 ?_
          refine lv_aload_n hx hb dX3_cover_49 rfl (lv_at hl 4 rfl) ?_
          refine va_get (D := D) (ci := 3) (v := .ref (am 9)) (C := RX3) (T := TX3) (N := 10) hx hb hts inX3 hown hK hP q f_7 rfl 9 (by decide) (hts _ tw_259) (fun _ h9 => h9) rfl dX3_cover_50 ?_
          refine lv_iload hx hb dX3_cover_53 (lv_at hl 2 rfl) ?_
          refine lv_iload hx hb dX3_cover_55 (lv_at hl 0 rfl) ?_
          refine lv_iconst (v := -1) hx hb dX3_cover_57 (by decide +kernel) ?_
          refine lv_ixor hx hb dX3_cover_58 ?_
          refine lv_iand hx hb dX3_cover_59 ?_
          refine lv_topi (fun z_24 ez_24 => ?_)
          have ez_24 : z_24 = nI (cf_diff (cf_full (mc i)) s9) := by rw [ez_24]; exact kb_notS (by omega)
          subst ez_24
          refine kx_bald hx hb hK hP (q + 9) f_16 rfl (i := (cf_diff (cf_full (mc i)) s9)) (by omega) (by decide) dX3_cover_60 ?_
          refine lv_iadd hx hb dX3_cover_61 ?_
          refine lv_topi (fun z_25 ez_25 => ?_)
          have ez_25 : z_25 = nI (f9 s9 + g9 (cf_diff (cf_full (mc i)) s9)) := by rw [ez_25]; exact nI_add _ _
          subst ez_25
          refine lv_iload_n hx hb dX3_cover_62 rfl (lv_at hl 3 rfl) ?_
          refine lv_icmp_ne (tgt := 74) hx hb dX3_cover_63 (by decide) (fun c_63 => ?_) (fun c_63 => ?_)
          · skip
            have hcv : ¬ cf_cov (jl (mA me i) (mB me i)) (jl (mA me j) (mB me j)) (mc i) I9 s9 := fun h => c_63 (by rw [k1, k2]; exact congrArg nI h)
            rw [← cw_out hcv] at hl
            refine lv_iload hx hb dX3_cover_74 (lv_at hl 1 rfl) ?_
            refine lv_istore (lv' := [(5, .int (nI (cw_f (jl (mA me i) (mB me i)) (jl (mA me j) (mB me j)) (mc i) I9 (s9 + 1)))), (6, .int (nI s9)), (4, .int (nI (cf_full (mc i)))), (3, .int (nI (cf_card (mc i) I9))), (0, .ref (am 0)), (1, .int (nI i)), (2, .int (nI j))]) hx hb dX3_cover_76 hl (by decide) rfl (fun ls hl => ?_)
            refine lv_iinc (v := nI (s9 + 1)) (lv' := [(6, .int (nI (s9 + 1))), (5, .int (nI (cw_f (jl (mA me i) (mB me i)) (jl (mA me j) (mB me j)) (mc i) I9 (s9 + 1)))), (4, .int (nI (cf_full (mc i)))), (3, .int (nI (cf_card (mc i) I9))), (0, .ref (am 0)), (1, .int (nI i)), (2, .int (nI j))]) hx hb dX3_cover_78 hl (k := 1) rfl (nI_1 _) (by decide) rfl (fun ls hl => ?_)
            refine lv_goto (tgt := 35) hx hb dX3_cover_81 (by decide) ?_
            exact ih35 (s9 + 1) (by omega) (by omega) _ _ hP hD hS _ (lv_sub hl [0, 1, 2, 3, 4, 5, 6] rfl)
          · skip
            have hcv : cf_cov (jl (mA me i) (mB me i)) (jl (mA me j) (mB me j)) (mc i) I9 s9 := by
              have := (nI_eq (by omega) (by omega)).mp c_63
              rw [k1, k2] at this
              exact this
            refine lv_iload hx hb dX3_cover_66 (lv_at hl 1 rfl) ?_
            refine lv_iload hx hb dX3_cover_68 (lv_at hl 0 rfl) ?_
            refine lv_iand hx hb dX3_cover_70 ?_
            refine lv_topi (fun z_26 ez_26 => ?_)
            have ez_26 : z_26 = nI (cw_f (jl (mA me i) (mB me i)) (jl (mA me j) (mB me j)) (mc i) I9 (s9 + 1)) := by rw [ez_26]; rw [kb_and, cw_in hcv]
            subst ez_26
            refine lv_goto (tgt := 76) hx hb dX3_cover_71 (by decide) ?_
            refine lv_istore (lv' := [(5, .int (nI (cw_f (jl (mA me i) (mB me i)) (jl (mA me j) (mB me j)) (mc i) I9 (s9 + 1)))), (6, .int (nI s9)), (4, .int (nI (cf_full (mc i)))), (3, .int (nI (cf_card (mc i) I9))), (0, .ref (am 0)), (1, .int (nI i)), (2, .int (nI j))]) hx hb dX3_cover_76 hl (by decide) rfl (fun ls hl => ?_)
            refine lv_iinc (v := nI (s9 + 1)) (lv' := [(6, .int (nI (s9 + 1))), (5, .int (nI (cw_f (jl (mA me i) (mB me i)) (jl (mA me j) (mB me j)) (mc i) I9 (s9 + 1)))), (4, .int (nI (cf_full (mc i)))), (3, .int (nI (cf_card (mc i) I9))), (0, .ref (am 0)), (1, .int (nI i)), (2, .int (nI j))]) hx hb dX3_cover_78 hl (k := 1) rfl (nI_1 _) (by decide) rfl (fun ls hl => ?_)
            refine lv_goto (tgt := 35) hx hb dX3_cover_81 (by decide) ?_
            exact ih35 (s9 + 1) (by omega) (by omega) _ _ hP hD hS _ (lv_sub hl [0, 1, 2, 3, 4, 5, 6] rfl)
    exact loop_35 (cf_full (mc i) + 2) 0 (by omega) (by omega) _ _ hP hD hS _ (lv_sub hl [0, 1, 2, 3, 4, 5, 6] rfl)
  · skip
    have hno := kg_0 hy_ c_6
    refine lv_iconst (v := -1) hx hb dX3_cover_9 (by decide +kernel) ?_
    exact kx_iret (v := -1) hx hb hr rfl hlocks hK hP hD hS dX3_cover_10 (⟨Or.inr ⟨hno, rfl⟩, ⟨_, _, _, hM⟩, kx_fr_rf _ _⟩)
