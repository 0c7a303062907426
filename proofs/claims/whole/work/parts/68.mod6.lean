set_option maxHeartbeats 4000000 in
set_option maxRecDepth 100000 in
/-- the model: best -/
theorem m_best (l : Launch) (D : va_G) (k0 : Nat → ClassId)  (w0 : va_W) (sz : Nat) (q : Nat) (am mv mc mo me : Nat → Nat) (mw : Nat → Int32) (mm : Nat → Nat) (mk : Nat) (mn fb sb : Nat → Nat) (hM : atM w0 q k0 am mv mc mo me mw mm mk mn fb sb) (hI : minv mv mc mo me mw) (x : Int32) : kx_i l yX3_best wsX3_best ({ frames := 2, cells := 0, slots := 0, locals := 56 } : Room) D (tyL k0) w0 sz [.ref (am 0), .int x] (fun (r : Int32) (u : va_W) => ((∃ i F, i < 8 ∧ x = nI i ∧ r = nI F ∧ be_spec (jl (mA me i) (mB me i)) (fun e => mw (12 * i + e)) (mc i) F) ∨ ((¬ ∃ i, i < 8 ∧ x = nI i) ∧ r = -1)) ∧ (∃ mn9 f9, atM u q k0 am mv mc mo me mw mm mk mn9 f9 sb) ∧ kx_fr w0 u (fun j => q ≤ j ∧ j < q + 10)) 0 0 := by
  refine kx_of (Qf := fun A => va_Qi (fun (r : Int32) (u : va_W) => ((∃ i F, i < 8 ∧ x = nI i ∧ r = nI F ∧ be_spec (jl (mA me i) (mB me i)) (fun e => mw (12 * i + e)) (mc i) F) ∨ ((¬ ∃ i, i < 8 ∧ x = nI i) ∧ r = -1)) ∧ (∃ mn9 f9, atM u q k0 am mv mc mo me mw mm mk mn9 f9 sb) ∧ kx_fr w0 u (fun j => q ≤ j ∧ j < q + 10)) (kx_B D (tyL k0) A) A) (cc := cX3_best) (maxL := 8) (ret := (some .int)) (by decide +kernel) (Nat.le_of_ble_eq_true rfl) ?_
  intro p e s m below meth c A ls hx hb hml hown hts hr hlocks hnm hN hK hP hD hS hA hl
  have hown : s.vm.findClass RX3 = some m.cls := hown
  have hl : lv_has ls 8 [(0, .ref (am 0)), (1, .int x)] := hl
  have hfr : kx_fr w0 w0 (fun j => j = q + 7 ∨ j = q + 8) := kx_fr_rf _ _
  obtain ⟨hM0, hM1, hM2, hM3, hM4, hM5, hM6, hM7, hM8, hM9⟩ := id hM
  refine lv_iload_n hx hb dX3_best_0 rfl (lv_at hl 1 rfl) ?_
  refine kx_goi (va_runS (As := [.int x]) (rest := []) ⟨hx, hb, hml, hown, hts⟩ (m_isGraph l D k0 w0 _ x) ⟨(kg_B (k := 1) hts tw_289 tw_287 tw_22 (by decide +kernel) rfl rfl ⟨Nat.le_of_ble_eq_true rfl, Nat.le_of_ble_eq_true rfl⟩), hts _ tw_288⟩ (kx_preS hN hK hP hD) rfl rfl hl.1 rfl (lv_room (Nat.le_of_ble_eq_true rfl)) dX3_best_1 ⟨Nat.le_of_ble_eq_true rfl, Nat.le_of_ble_eq_true rfl⟩) hD hS hA (fun r_2 u_3 H locs hp_1 hP hD hS => ?_)
  obtain ⟨hy_x, eu⟩ := hp_1
  rw [eu] at hP hD
  refine lv_if_ne (tgt := 9) hx hb dX3_best_4 (by decide) (fun c_4 => ?_) (fun c_4 => ?_)
  · skip
    obtain ⟨i, h8i, e_x⟩ := kg_1 hy_x c_4
    rw [e_x] at hl
    obtain ⟨hni, hvi, hoi, he2i, hw2i⟩ := hI i h8i
    have hfl := kb_full_lt hni
    refine lv_aload_n hx hb dX3_best_9 rfl (lv_at hl 0 rfl) ?_
    refine lv_iload_n hx hb dX3_best_10 rfl (lv_at hl 1 rfl) ?_
    refine lv_aload_n hx hb dX3_best_11 rfl (lv_at hl 0 rfl) ?_
    refine va_get (D := D) (ci := 3) (v := .ref (am 8)) (C := RX3) (T := TX3) (N := 10) hx hb hts inX3 hown hK hP q hM0 rfl 8 (by decide) (hts _ tw_258) (fun _ h9 => h9) rfl dX3_best_12 ?_
    refine kx_gov (va_runV (As := [.int (nI i), .ref (am 8)]) (rest := []) ⟨hx, hb, hml, hown, hts⟩ (m_measure1 l D k0 w0 _ q am mv mc mo me mw mm mk mn fb sb ⟨hM0, hM1, hM2, hM3, hM4, hM5, hM6, hM7, hM8, hM9⟩ hI i h8i) ⟨(kg_B (k := 2) hts tw_353 tw_350 tw_22 (by decide +kernel) rfl rfl ⟨Nat.le_of_ble_eq_true rfl, Nat.le_of_ble_eq_true rfl⟩), hts _ tw_352, hts _ tw_15⟩ (kx_preV hN hK hP hD rfl hM0) rfl rfl hl.1 rfl (lv_room (Nat.le_of_ble_eq_true rfl)) dX3_best_15 ⟨Nat.le_of_ble_eq_true rfl, Nat.le_of_ble_eq_true rfl⟩) hD hS hA (fun u_6 H locs hp_4 hP hD hS => ?_)
    obtain ⟨na, f9, hf9, hM79, hM89, hq⟩ := hp_4
    have f_7 : u_6[q]? = some (am 0, .inr (3, [.ref (am 1), .ref (am 2), .ref (am 3), .ref (am 4), .ref (am 5), .ref (am 6), .int (nI mk), .ref (am 7), .ref (am 8), .ref (am 9)])) := by rw [hq _ (by omega)]; exact hM0
    have f_8 : u_6[q + 1]? = some (am 1, .inl (k0 0, 8, .inl (fun y9 => nI (mv y9)))) := by rw [hq _ (by omega)]; exact hM1
    have f_9 : u_6[q + 2]? = some (am 2, .inl (k0 0, 8, .inl (fun y9 => nI (mc y9)))) := by rw [hq _ (by omega)]; exact hM2
    have f_10 : u_6[q + 3]? = some (am 3, .inl (k0 2, 8, .inl (fun y9 => nI (mo y9)))) := by rw [hq _ (by omega)]; exact hM3
    have f_11 : u_6[q + 4]? = some (am 4, .inl (k0 0, 192, .inl (fun y9 => nI (me y9)))) := by rw [hq _ (by omega)]; exact hM4
    have f_12 : u_6[q + 5]? = some (am 5, .inl (k0 0, 96, .inl mw)) := by rw [hq _ (by omega)]; exact hM5
    have f_13 : u_6[q + 6]? = some (am 6, .inl (k0 0, 24, .inl (fun y9 => nI (mm y9)))) := by rw [hq _ (by omega)]; exact hM6
    have f_14 : u_6[q + 7]? = some (am 7, .inl (k0 0, 32, .inl (fun y9 => nI (na y9)))) := hM79
    have f_15 : u_6[q + 8]? = some (am 8, .inl (k0 3, 4096, .inl (fun y9 => nI (f9 y9)))) := hM89
    have f_16 : u_6[q + 9]? = some (am 9, .inl (k0 3, 4096, .inl (fun y9 => nI (sb y9)))) := by rw [hq _ (by omega)]; exact hM9
    have hfr : kx_fr w0 u_6 (fun j => j = q + 7 ∨ j = q + 8) := kx_fr_tr hfr (kx_fr_mono hq (fun j h => by omega))
    have rf9 : ∀ s, s ≤ cf_full (mc i) → f9 s = cf_rk (jl (mA me i) (mB me i)) (mc i) s := fun s hs => by rw [hf9 s hs, jn_rk s (mAB_lt he2i).1 (mAB_lt he2i).2]
    have hdl : cf_rk (jl (mA me i) (mB me i)) (mc i) (cf_full (mc i)) ≤ 12 := Nat.le_trans cf_rk_le (Nat.le_trans (cf_card_le _ _) hni)
    refine lv_aload_n hx hb dX3_best_18 rfl (lv_at hl 0 rfl) ?_
    refine va_get (D := D) (ci := 3) (v := .ref (am 8)) (C := RX3) (T := TX3) (N := 10) hx hb hts inX3 hown hK hP q f_7 rfl 8 (by decide) (hts _ tw_258) (fun _ h9 => h9) rfl dX3_best_19 ?_
    refine lv_aload_n hx hb dX3_best_22 rfl (lv_at hl 0 rfl) ?_
    refine lv_iload_n hx hb dX3_best_23 rfl (lv_at hl 1 rfl) ?_
    refine kx_goi (va_runV (As := [.int (nI i)]) (rest := [.ref (am 8)]) ⟨hx, hb, hml, hown, hts⟩ (m_whole l D k0 u_6 _ q am mv mc mo me mw mm mk na f9 sb ⟨f_7, f_8, f_9, f_10, f_11, f_12, f_13, f_14, f_15, f_16⟩ hI i h8i) ⟨(kg_B (k := 1) hts tw_313 tw_310 tw_22 (by decide +kernel) rfl rfl ⟨Nat.le_of_ble_eq_true rfl, Nat.le_of_ble_eq_true rfl⟩), hts _ tw_312, hts _ tw_10⟩ (kx_preV hN hK hP hD rfl f_7) rfl rfl hl.1 rfl (lv_room (Nat.le_of_ble_eq_true rfl)) dX3_best_24 ⟨Nat.le_of_ble_eq_true rfl, Nat.le_of_ble_eq_true rfl⟩) hD hS hA (fun r_18 u_19 H locs hp_17 hP hD hS => ?_)
    obtain ⟨er_18, eu_19⟩ := hp_17
    rw [eu_19] at hP hD; subst er_18
    refine kx_bald hx hb hK hP (q + 8) f_15 rfl (i := (cf_full (mc i))) (by omega) (by decide) dX3_best_27 ?_
    refine lv_topi (fun z_20 ez_20 => ?_)
    have ez_20 : z_20 = nI (cf_rk (jl (mA me i) (mB me i)) (mc i) (cf_full (mc i))) := by rw [ez_20]; rw [rf9 _ (Nat.le_refl _)]
    subst ez_20
    refine lv_istore_n (lv' := [(2, .int (nI (cf_rk (jl (mA me i) (mB me i)) (mc i) (cf_full (mc i))))), (0, .ref (am 0)), (1, .int (nI i))]) hx hb dX3_best_28 rfl hl (by decide) rfl (fun ls hl => ?_)
    refine lv_iconst (v := -1) hx hb dX3_best_29 (by decide +kernel) ?_
    refine lv_istore_n (lv' := [(3, .int (-1)), (2, .int (nI (cf_rk (jl (mA me i) (mB me i)) (mc i) (cf_full (mc i))))), (0, .ref (am 0)), (1, .int (nI i))]) hx hb dX3_best_30 rfl hl (by decide) rfl (fun ls hl => ?_)
    refine lv_iconst (v := 0) hx hb dX3_best_31 (by decide +kernel) ?_
    refine lv_istore (lv' := [(4, .int 0), (3, .int (-1)), (2, .int (nI (cf_rk (jl (mA me i) (mB me i)) (mc i) (cf_full (mc i))))), (0, .ref (am 0)), (1, .int (nI i))]) hx hb dX3_best_32 hl (by decide) rfl (fun ls hl => ?_)
    refine lv_iconst (v := nI 0) hx hb dX3_best_34 (by decide +kernel) ?_
    refine lv_istore (lv' := [(5, .int (nI 0)), (4, .int 0), (3, .int (-1)), (2, .int (nI (cf_rk (jl (mA me i) (mB me i)) (mc i) (cf_full (mc i))))), (0, .ref (am 0)), (1, .int (nI i))]) hx hb dX3_best_35 hl (by decide) rfl (fun ls hl => ?_)
    have loop_37 : ∀ (n37 : Nat) (s9 : Nat) (fd : Int32) (ms : Int32), (s9 ≤ cf_full (mc i) + 1) → (bm_inv (jl (mA me i) (mB me i)) (fun e => mw (12 * i + e)) (mc i) s9 fd ms) → (cf_full (mc i) + 2 ≤ s9 + n37) → ∀ (H : Heap) (locs : List Loc), va_P D vwCl u_6 H → va_D A u_6 → va_S A s.heap H locs → ∀ (ls : Array Slot), lv_has ls 8 [(5, .int (nI s9)), (4, .int ms), (3, .int fd), (2, .int (nI (cf_rk (jl (mA me i) (mB me i)) (mc i) (cf_full (mc i))))), (0, .ref (am 0)), (1, .int (nI i))] → W p l e ({ frames := 2, cells := 0, slots := 0, locals := 56 } : Room) s m ([.ref (am 0), .int x] : List Value).toArray below meth c H locs 0 0 (MQ below (va_Qi (fun (r : Int32) (u : va_W) => ((∃ i F, i < 8 ∧ x = nI i ∧ r = nI F ∧ be_spec (jl (mA me i) (mB me i)) (fun e => mw (12 * i + e)) (mc i) F) ∨ ((¬ ∃ i, i < 8 ∧ x = nI i) ∧ r = -1)) ∧ (∃ mn9 f9, atM u q k0 am mv mc mo me mw mm mk mn9 f9 sb) ∧ kx_fr w0 u (fun j => q ≤ j ∧ j < q + 10)) (kx_B D (tyL k0) A) A) ([.ref (am 0), .int x] : List Value).toArray s 0 0 A) (F0 m 37 ls []) := by
      intro n37
      induction n37 with
      | zero =>
        intro s9 fd ms hs9 hbm hme
        exact absurd hme (by omega)
      | succ n37 ih37 =>
        intro s9 fd ms hs9 hbm hme  H locs hP hD hS ls hl
        refine lv_iload hx hb dX3_best_37 (lv_at hl 0 rfl) ?_
        refine lv_aload_n hx hb dX3_best_39 rfl (lv_at hl 4 rfl) ?_
        refine lv_iload_n hx hb dX3_best_40 rfl (lv_at hl 5 rfl) ?_
        refine kx_goi (va_runV (As := [.int (nI i)]) (rest := [.int (nI s9)]) ⟨hx, hb, hml, hown, hts⟩ (m_whole l D k0 u_6 _ q am mv mc mo me mw mm mk na f9 sb ⟨f_7, f_8, f_9, f_10, f_11, f_12, f_13, f_14, f_15, f_16⟩ hI i h8i) ⟨(kg_B (k := 1) hts tw_313 tw_310 tw_22 (by decide +kernel) rfl rfl ⟨Nat.le_of_ble_eq_true rfl, Nat.le_of_ble_eq_true rfl⟩), hts _ tw_312, hts _ tw_10⟩ (kx_preV hN hK hP hD rfl f_7) rfl rfl hl.1 rfl (lv_room (Nat.le_of_ble_eq_true rfl)) dX3_best_41 ⟨Nat.le_of_ble_eq_true rfl, Nat.le_of_ble_eq_true rfl⟩) hD hS hA (fun r_22 u_23 H locs hp_21 hP hD hS => ?_)
        obtain ⟨er_22, eu_23⟩ := hp_21
        rw [eu_23] at hP hD; subst er_22
        refine lv_icmp_gt (tgt := 158) hx hb dX3_best_44 (by decide) (fun c_44 => ?_) (fun c_44 => ?_)
        · skip
          have hend : cf_full (mc i) < s9 := (nI_ltI (by omega) (by omega)).mp c_44
          refine lv_iload_n hx hb dX3_best_158 rfl (lv_at hl 2 rfl) ?_
          exact kx_iret (v := fd) hx hb hr rfl hlocks hK hP hD hS dX3_best_159 (by obtain ⟨F, h1, h2⟩ := bm_end hbm hend; exact ⟨Or.inl ⟨i, F, h8i, e_x, h1, h2⟩, ⟨_, _, ⟨f_7, f_8, f_9, f_10, f_11, f_12, f_13, f_14, f_15, f_16⟩⟩, kx_fr_mono hfr (fun j h => by omega)⟩)
        · skip
          have hle : s9 ≤ cf_full (mc i) := by
            rcases Nat.lt_or_ge (cf_full (mc i)) s9 with h | h
            · exact absurd ((nI_ltI (by omega) (by omega)).mpr h) c_44
            · exact h
          have hss := kb_sub_full hle
          have hcs := cf_card_ge (show mc i ≤ 12 from hni) hss
          have hcl := cf_card_le (mc i) s9
          have hrl := cf_rk_le (L := (jl (mA me i) (mB me i))) (n := mc i) (S := s9)
          refine lv_iload hx hb dX3_best_47 (lv_at hl 0 rfl) ?_
          refine kx_goi (va_runS (As := [.int (nI s9)]) (rest := []) ⟨hx, hb, hml, hown, hts⟩ (m_size l D k0 u_6 _ s9 (by omega)) ⟨(kg_B (k := 1) hts tw_356 tw_354 tw_22 (by decide +kernel) rfl rfl ⟨Nat.le_of_ble_eq_true rfl, Nat.le_of_ble_eq_true rfl⟩), hts _ tw_355⟩ (kx_preS hN hK hP hD) rfl rfl hl.1 rfl (lv_room (Nat.le_of_ble_eq_true rfl)) dX3_best_49 ⟨Nat.le_of_ble_eq_true rfl, Nat.le_of_ble_eq_true rfl⟩) hD hS hA (fun r_25 u_26 H locs hp_24 hP hD hS => ?_)
          obtain ⟨er_25, eu_26⟩ := hp_24
          rw [eu_26] at hP hD; subst er_25
          refine lv_topi (fun z_27 ez_27 => ?_)
          have ez_27 : z_27 = nI (cf_card (mc i) s9) := by rw [ez_27]; rw [hcs]
          subst ez_27
          refine lv_iload_n hx hb dX3_best_52 rfl (lv_at hl 3 rfl) ?_
          refine lv_icmp_ne (tgt := 152) hx hb dX3_best_53 (by decide) (fun c_53 => ?_) (fun c_53 => ?_)
          · skip
            have hnk : ¬ bm_ok (jl (mA me i) (mB me i)) (mc i) s9 := fun h => c_53 (by rw [h.2.2])
            refine lv_iinc (v := nI (s9 + 1)) (lv' := [(5, .int (nI (s9 + 1))), (4, .int ms), (3, .int fd), (2, .int (nI (cf_rk (jl (mA me i) (mB me i)) (mc i) (cf_full (mc i))))), (0, .ref (am 0)), (1, .int (nI i))]) hx hb dX3_best_152 hl (k := 0) rfl (nI_1 _) (by decide) rfl (fun ls hl => ?_)
            refine lv_goto (tgt := 37) hx hb dX3_best_155 (by decide) ?_
            exact ih37 (s9 + 1) fd ms (by omega) (bm_skip hbm hnk) (by omega) _ _ hP hD hS _ (lv_sub hl [0, 1, 2, 3, 4, 5] rfl)
          · skip
            have h53 : cf_card (mc i) s9 = cf_rk (jl (mA me i) (mB me i)) (mc i) (cf_full (mc i)) := (nI_eq (by omega) (by omega)).mp c_53
            refine lv_aload_n hx hb dX3_best_56 rfl (lv_at hl 4 rfl) ?_
            refine va_get (D := D) (ci := 3) (v := .ref (am 8)) (C := RX3) (T := TX3) (N := 10) hx hb hts inX3 hown hK hP q f_7 rfl 8 (by decide) (hts _ tw_258) (fun _ h9 => h9) rfl dX3_best_57 ?_
            refine lv_iload hx hb dX3_best_60 (lv_at hl 0 rfl) ?_
            refine kx_bald hx hb hK hP (q + 8) f_15 rfl (i := s9) (by omega) (by decide) dX3_best_62 ?_
            refine lv_topi (fun z_28 ez_28 => ?_)
            have ez_28 : z_28 = nI (cf_rk (jl (mA me i) (mB me i)) (mc i) s9) := by rw [ez_28]; rw [rf9 s9 hle]
            subst ez_28
            refine lv_iload_n hx hb dX3_best_63 rfl (lv_at hl 3 rfl) ?_
            refine lv_icmp_eq (tgt := 70) hx hb dX3_best_64 (by decide) (fun c_64 => ?_) (fun c_64 => ?_)
            · skip
              have hok : bm_ok (jl (mA me i) (mB me i)) (mc i) s9 := ⟨hss, cf_ind_iff.mp (by
                have := (nI_eq (by omega) (by omega)).mp c_64
                omega), h53⟩
              refine lv_iconst (v := 0) hx hb dX3_best_70 (by decide +kernel) ?_
              refine lv_istore (lv' := [(6, .int 0), (5, .int (nI s9)), (4, .int ms), (3, .int fd), (2, .int (nI (cf_rk (jl (mA me i) (mB me i)) (mc i) (cf_full (mc i))))), (0, .ref (am 0)), (1, .int (nI i))]) hx hb dX3_best_71 hl (by decide) rfl (fun ls hl => ?_)
              refine lv_iconst (v := nI 0) hx hb dX3_best_73 (by decide +kernel) ?_
              refine lv_istore (lv' := [(7, .int (nI 0)), (6, .int 0), (5, .int (nI s9)), (4, .int ms), (3, .int fd), (2, .int (nI (cf_rk (jl (mA me i) (mB me i)) (mc i) (cf_full (mc i))))), (0, .ref (am 0)), (1, .int (nI i))]) hx hb dX3_best_74 hl (by decide) rfl (fun ls hl => ?_)
              have loop_76 : ∀ (n76 : Nat) (e9 : Nat), (e9 ≤ mc i) → (mc i + 1 ≤ e9 + n76) → ∀ (H : Heap) (locs : List Loc), va_P D vwCl u_6 H → va_D A u_6 → va_S A s.heap H locs → ∀ (ls : Array Slot), lv_has ls 8 [(7, .int (nI e9)), (6, .int (ms_sum (fun e => mw (12 * i + e)) s9 e9)), (5, .int (nI s9)), (4, .int ms), (3, .int fd), (2, .int (nI (cf_rk (jl (mA me i) (mB me i)) (mc i) (cf_full (mc i))))), (0, .ref (am 0)), (1, .int (nI i))] → W p l e ({ frames := 2, cells := 0, slots := 0, locals := 56 } : Room) s m ([.ref (am 0), .int x] : List Value).toArray below meth c H locs 0 0 (MQ below (va_Qi (fun (r : Int32) (u : va_W) => ((∃ i F, i < 8 ∧ x = nI i ∧ r = nI F ∧ be_spec (jl (mA me i) (mB me i)) (fun e => mw (12 * i + e)) (mc i) F) ∨ ((¬ ∃ i, i < 8 ∧ x = nI i) ∧ r = -1)) ∧ (∃ mn9 f9, atM u q k0 am mv mc mo me mw mm mk mn9 f9 sb) ∧ kx_fr w0 u (fun j => q ≤ j ∧ j < q + 10)) (kx_B D (tyL k0) A) A) ([.ref (am 0), .int x] : List Value).toArray s 0 0 A) (F0 m 76 ls []) := by
                intro n76
                induction n76 with
                | zero =>
                  intro e9 he hme
                  exact absurd hme (by omega)
                | succ n76 ih76 =>
                  intro e9 he hme  H locs hP hD hS ls hl
                  refine lv_iload hx hb dX3_best_76 (lv_at hl 0 rfl) ?_
                  refine lv_aload_n hx hb dX3_best_78 rfl (lv_at hl 6 rfl) ?_
                  refine va_get (D := D) (ci := 3) (v := .ref (am 2)) (C := RX3) (T := TX3) (N := 10) hx hb hts inX3 hown hK hP q f_7 rfl 1 (by decide) (hts _ tw_251) (fun _ h9 => h9) rfl dX3_best_79 ?_
                  refine lv_iload_n hx hb dX3_best_82 rfl (lv_at hl 7 rfl) ?_
                  refine kx_nald hx hb hK hP (q + 2) f_9 rfl (i := i) (by omega) (by decide) dX3_best_83 ?_
                  refine lv_icmp_ge (tgt := 118) hx hb dX3_best_84 (by decide) (fun c_84 => ?_) (fun c_84 => ?_)
                  · skip
                    have hik : e9 = mc i := by
                      have := (nI_leI (by omega) (by omega)).mp c_84
                      omega
                    rw [hik] at hl
                    refine lv_iload_n hx hb dX3_best_118 rfl (lv_at hl 4 rfl) ?_
                    refine lv_if_lt (tgt := 145) hx hb dX3_best_119 (by decide) (fun c_119 => ?_) (fun c_119 => ?_)
                    · skip
                      have hnone : ∀ J, J < s9 → ¬ bm_ok (jl (mA me i) (mB me i)) (mc i) J := by
                        rcases hbm with ⟨_, h⟩ | ⟨F, h1, _, h2, _⟩
                        · exact h
                        · have hFl := kb_le_full h2.1
                          rw [h1] at c_119
                          exact absurd c_119 (nI_pos (by omega))
                      refine lv_iload hx hb dX3_best_145 (lv_at hl 2 rfl) ?_
                      refine lv_istore_n (lv' := [(3, .int (nI s9)), (7, .int (nI (mc i))), (6, .int (ms_sum (fun e => mw (12 * i + e)) s9 (mc i))), (5, .int (nI s9)), (4, .int ms), (2, .int (nI (cf_rk (jl (mA me i) (mB me i)) (mc i) (cf_full (mc i))))), (0, .ref (am 0)), (1, .int (nI i))]) hx hb dX3_best_147 rfl hl (by decide) rfl (fun ls hl => ?_)
                      refine lv_iload hx hb dX3_best_148 (lv_at hl 2 rfl) ?_
                      refine lv_istore (lv' := [(4, .int (ms_sum (fun e => mw (12 * i + e)) s9 (mc i))), (3, .int (nI s9)), (7, .int (nI (mc i))), (6, .int (ms_sum (fun e => mw (12 * i + e)) s9 (mc i))), (5, .int (nI s9)), (2, .int (nI (cf_rk (jl (mA me i) (mB me i)) (mc i) (cf_full (mc i))))), (0, .ref (am 0)), (1, .int (nI i))]) hx hb dX3_best_150 hl (by decide) rfl (fun ls hl => ?_)
                      refine lv_iinc (v := nI (s9 + 1)) (lv' := [(5, .int (nI (s9 + 1))), (4, .int (ms_sum (fun e => mw (12 * i + e)) s9 (mc i))), (3, .int (nI s9)), (7, .int (nI (mc i))), (6, .int (ms_sum (fun e => mw (12 * i + e)) s9 (mc i))), (2, .int (nI (cf_rk (jl (mA me i) (mB me i)) (mc i) (cf_full (mc i))))), (0, .ref (am 0)), (1, .int (nI i))]) hx hb dX3_best_152 hl (k := 4) rfl (nI_1 _) (by decide) rfl (fun ls hl => ?_)
                      refine lv_goto (tgt := 37) hx hb dX3_best_155 (by decide) ?_
                      exact ih37 (s9 + 1) (nI s9) (ms_sum (fun e => mw (12 * i + e)) s9 (mc i)) (by omega) (bm_first hnone hok) (by omega) _ _ hP hD hS _ (lv_sub hl [0, 1, 2, 5, 6, 7] rfl)
                    · skip
                      obtain ⟨F, eF, eM, hFk, hFb⟩ : ∃ F, fd = nI F ∧ ms = ms_sum (fun e => mw (12 * i + e)) F (mc i) ∧ bm_ok (jl (mA me i) (mB me i)) (mc i) F ∧ ∀ J, J < s9 → bm_ok (jl (mA me i) (mB me i)) (mc i) J → F = J ∨ gw_bet (fun e => mw (12 * i + e)) (mc i) F J := by
                        rcases hbm with ⟨h1, _⟩ | h
                        · rw [h1] at c_119; exact absurd (by decide) c_119
                        · exact h
                      rw [eF, eM] at hl
                      have hFl := kb_le_full hFk.1
                      have hcF := cf_card_ge (show mc i ≤ 12 from hni) hFk.1
                      have g1 := (ms_int (S := s9) hw2i hni (mc i) (Nat.le_refl _)).1
                      have g2 := (ms_int (S := F) hw2i hni (mc i) (Nat.le_refl _)).1
                      refine lv_iload hx hb dX3_best_122 (lv_at hl 1 rfl) ?_
                      refine lv_iload hx hb dX3_best_124 (lv_at hl 3 rfl) ?_
                      refine lv_icmp_gt (tgt := 145) hx hb dX3_best_126 (by decide) (fun c_126 => ?_) (fun c_126 => ?_)
                      · skip
                        have hbt : gw_bet (fun e => mw (12 * i + e)) (mc i) s9 F := Or.inl (by
                          rw [Int32.lt_iff_toInt_lt] at c_126
                          omega)
                        refine lv_iload hx hb dX3_best_145 (lv_at hl 2 rfl) ?_
                        refine lv_istore_n (lv' := [(3, .int (nI s9)), (7, .int (nI (mc i))), (6, .int (ms_sum (fun e => mw (12 * i + e)) s9 (mc i))), (5, .int (nI s9)), (4, .int (ms_sum (fun e => mw (12 * i + e)) F (mc i))), (2, .int (nI (cf_rk (jl (mA me i) (mB me i)) (mc i) (cf_full (mc i))))), (0, .ref (am 0)), (1, .int (nI i))]) hx hb dX3_best_147 rfl hl (by decide) rfl (fun ls hl => ?_)
                        refine lv_iload hx hb dX3_best_148 (lv_at hl 2 rfl) ?_
                        refine lv_istore (lv' := [(4, .int (ms_sum (fun e => mw (12 * i + e)) s9 (mc i))), (3, .int (nI s9)), (7, .int (nI (mc i))), (6, .int (ms_sum (fun e => mw (12 * i + e)) s9 (mc i))), (5, .int (nI s9)), (2, .int (nI (cf_rk (jl (mA me i) (mB me i)) (mc i) (cf_full (mc i))))), (0, .ref (am 0)), (1, .int (nI i))]) hx hb dX3_best_150 hl (by decide) rfl (fun ls hl => ?_)
                        refine lv_iinc (v := nI (s9 + 1)) (lv' := [(5, .int (nI (s9 + 1))), (4, .int (ms_sum (fun e => mw (12 * i + e)) s9 (mc i))), (3, .int (nI s9)), (7, .int (nI (mc i))), (6, .int (ms_sum (fun e => mw (12 * i + e)) s9 (mc i))), (2, .int (nI (cf_rk (jl (mA me i) (mB me i)) (mc i) (cf_full (mc i))))), (0, .ref (am 0)), (1, .int (nI i))]) hx hb dX3_best_152 hl (k := 4) rfl (nI_1 _) (by decide) rfl (fun ls hl => ?_)
                        refine lv_goto (tgt := 37) hx hb dX3_best_155 (by decide) ?_
                        exact ih37 (s9 + 1) (nI s9) (ms_sum (fun e => mw (12 * i + e)) s9 (mc i)) (by omega) (bm_take hFb hok hbt) (by omega) _ _ hP hD hS _ (lv_sub hl [0, 1, 2, 5, 6, 7] rfl)
                      · skip
                        have h126 : ¬ gw_sum (fun e => mw (12 * i + e)) (mc i) F < gw_sum (fun e => mw (12 * i + e)) (mc i) s9 := fun h => c_126 (by
                          rw [Int32.lt_iff_toInt_lt]
                          omega)
                        refine lv_iload hx hb dX3_best_129 (lv_at hl 1 rfl) ?_
                        refine lv_iload hx hb dX3_best_131 (lv_at hl 3 rfl) ?_
                        refine lv_icmp_ne (tgt := 152) hx hb dX3_best_133 (by decide) (fun c_133 => ?_) (fun c_133 => ?_)
                        · skip
                          have hnt : ¬ gw_bet (fun e => mw (12 * i + e)) (mc i) s9 F := by
                            rintro (h | ⟨h, _⟩)
                            · exact h126 h
                            · exact c_133 (Int32.toInt_inj.mp (by omega))
                          refine lv_iinc (v := nI (s9 + 1)) (lv' := [(5, .int (nI (s9 + 1))), (7, .int (nI (mc i))), (6, .int (ms_sum (fun e => mw (12 * i + e)) s9 (mc i))), (4, .int (ms_sum (fun e => mw (12 * i + e)) F (mc i))), (3, .int (nI F)), (2, .int (nI (cf_rk (jl (mA me i) (mB me i)) (mc i) (cf_full (mc i))))), (0, .ref (am 0)), (1, .int (nI i))]) hx hb dX3_best_152 hl (k := 2) rfl (nI_1 _) (by decide) rfl (fun ls hl => ?_)
                          refine lv_goto (tgt := 37) hx hb dX3_best_155 (by decide) ?_
                          exact ih37 (s9 + 1) (nI F) (ms_sum (fun e => mw (12 * i + e)) F (mc i)) (by omega) (bm_keep hFb hFk hnt) (by omega) _ _ hP hD hS _ (lv_sub hl [0, 3, 4, 5, 6, 7] rfl)
                        · skip
                          have h133 : gw_sum (fun e => mw (12 * i + e)) (mc i) F = gw_sum (fun e => mw (12 * i + e)) (mc i) s9 := by
                            have h9 := congrArg Int32.toInt c_133
                            omega
                          refine lv_iload hx hb dX3_best_136 (lv_at hl 2 rfl) ?_
                          refine lv_iload_n hx hb dX3_best_138 rfl (lv_at hl 4 rfl) ?_
                          refine kx_goi (va_runS (As := [.int (nI s9), .int (nI F)]) (rest := []) ⟨hx, hb, hml, hown, hts⟩ (m_comesFirst l D k0 u_6 _ s9 F (by omega) (by omega)) ⟨(kg_B (k := 2) hts tw_359 tw_357 tw_22 (by decide +kernel) rfl rfl ⟨Nat.le_of_ble_eq_true rfl, Nat.le_of_ble_eq_true rfl⟩), hts _ tw_358⟩ (kx_preS hN hK hP hD) rfl rfl hl.1 rfl (lv_room (Nat.le_of_ble_eq_true rfl)) dX3_best_139 ⟨Nat.le_of_ble_eq_true rfl, Nat.le_of_ble_eq_true rfl⟩) hD hS hA (fun r_30 u_31 H locs hp_29 hP hD hS => ?_)
                          obtain ⟨hcf, eu⟩ := hp_29
                          rw [eu] at hP hD
                          refine lv_if_eq (tgt := 152) hx hb dX3_best_142 (by decide) (fun c_142 => ?_) (fun c_142 => ?_)
                          · skip
                            have h142 := kg_0 hcf c_142
                            have hnt : ¬ gw_bet (fun e => mw (12 * i + e)) (mc i) s9 F := by
                              rintro (h | ⟨_, h⟩)
                              · exact h126 h
                              · exact h142 (Or.inr ⟨by rw [hcs, hcF, h53, hFk.2.2], h⟩)
                            refine lv_iinc (v := nI (s9 + 1)) (lv' := [(5, .int (nI (s9 + 1))), (7, .int (nI (mc i))), (6, .int (ms_sum (fun e => mw (12 * i + e)) s9 (mc i))), (4, .int (ms_sum (fun e => mw (12 * i + e)) F (mc i))), (3, .int (nI F)), (2, .int (nI (cf_rk (jl (mA me i) (mB me i)) (mc i) (cf_full (mc i))))), (0, .ref (am 0)), (1, .int (nI i))]) hx hb dX3_best_152 hl (k := 2) rfl (nI_1 _) (by decide) rfl (fun ls hl => ?_)
                            refine lv_goto (tgt := 37) hx hb dX3_best_155 (by decide) ?_
                            exact ih37 (s9 + 1) (nI F) (ms_sum (fun e => mw (12 * i + e)) F (mc i)) (by omega) (bm_keep hFb hFk hnt) (by omega) _ _ hP hD hS _ (lv_sub hl [0, 3, 4, 5, 6, 7] rfl)
                          · skip
                            have hbt : gw_bet (fun e => mw (12 * i + e)) (mc i) s9 F := Or.inr ⟨h133, by
                              have z1 := hFk.2.2
                              rcases kg_1 hcf c_142 with h | h
                              · omega
                              · exact h.2⟩
                            refine lv_iload hx hb dX3_best_145 (lv_at hl 2 rfl) ?_
                            refine lv_istore_n (lv' := [(3, .int (nI s9)), (7, .int (nI (mc i))), (6, .int (ms_sum (fun e => mw (12 * i + e)) s9 (mc i))), (5, .int (nI s9)), (4, .int (ms_sum (fun e => mw (12 * i + e)) F (mc i))), (2, .int (nI (cf_rk (jl (mA me i) (mB me i)) (mc i) (cf_full (mc i))))), (0, .ref (am 0)), (1, .int (nI i))]) hx hb dX3_best_147 rfl hl (by decide) rfl (fun ls hl => ?_)
                            refine lv_iload hx hb dX3_best_148 (lv_at hl 2 rfl) ?_
                            refine lv_istore (lv' := [(4, .int (ms_sum (fun e => mw (12 * i + e)) s9 (mc i))), (3, .int (nI s9)), (7, .int (nI (mc i))), (6, .int (ms_sum (fun e => mw (12 * i + e)) s9 (mc i))), (5, .int (nI s9)), (2, .int (nI (cf_rk (jl (mA me i) (mB me i)) (mc i) (cf_full (mc i))))), (0, .ref (am 0)), (1, .int (nI i))]) hx hb dX3_best_150 hl (by decide) rfl (fun ls hl => ?_)
                            refine lv_iinc (v := nI (s9 + 1)) (lv' := [(5, .int (nI (s9 + 1))), (4, .int (ms_sum (fun e => mw (12 * i + e)) s9 (mc i))), (3, .int (nI s9)), (7, .int (nI (mc i))), (6, .int (ms_sum (fun e => mw (12 * i + e)) s9 (mc i))), (2, .int (nI (cf_rk (jl (mA me i) (mB me i)) (mc i) (cf_full (mc i))))), (0, .ref (am 0)), (1, .int (nI i))]) hx hb dX3_best_152 hl (k := 4) rfl (nI_1 _) (by decide) rfl (fun ls hl => ?_)
                            refine lv_goto (tgt := 37) hx hb dX3_best_155 (by decide) ?_
                            exact ih37 (s9 + 1) (nI s9) (ms_sum (fun e => mw (12 * i + e)) s9 (mc i)) (by omega) (bm_take hFb hok hbt) (by omega) _ _ hP hD hS _ (lv_sub hl [0, 1, 2, 5, 6, 7] rfl)
                  · skip
                    have hik : e9 < mc i := by
                      rcases Nat.lt_or_ge (e9) (mc i) with h | h
                      · exact h
                      · exact absurd ((nI_leI (by omega) (by omega)).mpr h) c_84
                    refine lv_iload hx hb dX3_best_87 (lv_at hl 1 rfl) ?_
                    refine lv_iload hx hb dX3_best_89 (lv_at hl 2 rfl) ?_
                    refine lv_iload hx hb dX3_best_91 (lv_at hl 0 rfl) ?_
                    refine lv_ishr hx hb dX3_best_93 ?_
                    refine lv_iconst (v := 1) hx hb dX3_best_94 (by decide +kernel) ?_
                    refine lv_iand hx hb dX3_best_95 ?_
                    refine lv_topi (fun z_32 ez_32 => ?_)
                    have ez_32 : z_32 = nI (if s9.testBit e9 = true then 1 else 0) := by rw [ez_32]; exact kb_has (by omega) (by omega)
                    subst ez_32
                    refine lv_aload_n hx hb dX3_best_96 rfl (lv_at hl 6 rfl) ?_
                    refine va_get (D := D) (ci := 3) (v := .ref (am 5)) (C := RX3) (T := TX3) (N := 10) hx hb hts inX3 hown hK hP q f_7 rfl 4 (by decide) (hts _ tw_254) (fun _ h9 => h9) rfl dX3_best_97 ?_
                    refine lv_bipush (v := nI 12) hx hb dX3_best_100 (by decide +kernel) ?_
                    refine lv_iload_n hx hb dX3_best_102 rfl (lv_at hl 7 rfl) ?_
                    refine lv_imul hx hb dX3_best_103 ?_
                    refine lv_topi (fun z_33 ez_33 => ?_)
                    have ez_33 : z_33 = nI (12 * i) := by rw [ez_33]; exact pk_mul _ _
                    subst ez_33
                    refine lv_iload hx hb dX3_best_104 (lv_at hl 0 rfl) ?_
                    refine lv_iadd hx hb dX3_best_106 ?_
                    refine lv_topi (fun z_34 ez_34 => ?_)
                    have ez_34 : z_34 = nI (12 * i + e9) := by rw [ez_34]; exact nI_add _ _
                    subst ez_34
                    refine kx_iald hx hb hK hP (q + 5) f_12 rfl (i := (12 * i + e9)) (by omega) (by decide) dX3_best_107 ?_
                    refine lv_imul hx hb dX3_best_108 ?_
                    refine lv_iadd hx hb dX3_best_109 ?_
                    refine lv_topi (fun z_35 ez_35 => ?_)
                    have ez_35 : z_35 = (ms_sum (fun e => mw (12 * i + e)) s9 (e9 + 1)) := by rw [ez_35]; rfl
                    subst ez_35
                    refine lv_istore (lv' := [(6, .int (ms_sum (fun e => mw (12 * i + e)) s9 (e9 + 1))), (7, .int (nI e9)), (5, .int (nI s9)), (4, .int ms), (3, .int fd), (2, .int (nI (cf_rk (jl (mA me i) (mB me i)) (mc i) (cf_full (mc i))))), (0, .ref (am 0)), (1, .int (nI i))]) hx hb dX3_best_110 hl (by decide) rfl (fun ls hl => ?_)
                    refine lv_iinc (v := nI (e9 + 1)) (lv' := [(7, .int (nI (e9 + 1))), (6, .int (ms_sum (fun e => mw (12 * i + e)) s9 (e9 + 1))), (5, .int (nI s9)), (4, .int ms), (3, .int fd), (2, .int (nI (cf_rk (jl (mA me i) (mB me i)) (mc i) (cf_full (mc i))))), (0, .ref (am 0)), (1, .int (nI i))]) hx hb dX3_best_112 hl (k := 1) rfl (nI_1 _) (by decide) rfl (fun ls hl => ?_)
                    refine lv_goto (tgt := 76) hx hb dX3_best_115 (by decide) ?_
                    exact ih76 (e9 + 1) (by omega) (by omega) _ _ hP hD hS _ (lv_sub hl [0, 1, 2, 3, 4, 5, 6, 7] rfl)
              exact loop_76 (mc i + 1) 0 (Nat.zero_le _) (by omega) _ _ hP hD hS _ (lv_sub hl [0, 1, 2, 3, 4, 5, 6, 7] rfl)
            · skip
              have hnk : ¬ bm_ok (jl (mA me i) (mB me i)) (mc i) s9 := fun h => c_64 (by rw [cf_ind_iff.mpr h.2.1, h53])
              refine lv_goto (tgt := 152) hx hb dX3_best_67 (by decide) ?_
              refine lv_iinc (v := nI (s9 + 1)) (lv' := [(5, .int (nI (s9 + 1))), (4, .int ms), (3, .int fd), (2, .int (nI (cf_rk (jl (mA me i) (mB me i)) (mc i) (cf_full (mc i))))), (0, .ref (am 0)), (1, .int (nI i))]) hx hb dX3_best_152 hl (k := 0) rfl (nI_1 _) (by decide) rfl (fun ls hl => ?_)
              refine lv_goto (tgt := 37) hx hb dX3_best_155 (by decide) ?_
              exact ih37 (s9 + 1) fd ms (by omega) (bm_skip hbm hnk) (by omega) _ _ hP hD hS _ (lv_sub hl [0, 1, 2, 3, 4, 5] rfl)
    exact loop_37 (cf_full (mc i) + 2) 0 (-1) 0 (by omega) (Or.inl ⟨rfl, fun J h => absurd h (Nat.not_lt_zero J)⟩) (by omega) _ _ hP hD hS _ (lv_sub hl [0, 1, 2, 3, 4, 5] rfl)
  · skip
    have hno := kg_0 hy_x c_4
    refine lv_iconst (v := -1) hx hb dX3_best_7 (by decide +kernel) ?_
    exact kx_iret (v := -1) hx hb hr rfl hlocks hK hP hD hS dX3_best_8 (⟨Or.inr ⟨hno, rfl⟩, ⟨_, _, hM⟩, kx_fr_rf _ _⟩)
