set_option maxHeartbeats 4000000 in
set_option maxRecDepth 100000 in
/-- packed(line, met) -/
theorem c_packed (l : Launch) (D : va_G) (k0 : Nat → ClassId)  (w0 : va_W) (sz : Nat) (v met : Nat) (hv : gl_two v) (hvm : cf_sub v met) (hmb : met < 2 ^ 24) : kx_i l yX2_packed wsX2_packed ({ frames := 1, cells := 0, slots := 0, locals := 24 } : Room) D (tyL k0) w0 sz [.int (nI v), .int (nI met)] (fun (r : Int32) (u : va_W) => r = nI (pq_of met v) ∧ u = w0) 0 0 := by
  refine kx_of (Qf := fun A => va_Qi (fun (r : Int32) (u : va_W) => r = nI (pq_of met v) ∧ u = w0) (kx_B D (tyL k0) A) A) (cc := cX2_packed) (maxL := 4) (ret := (some .int)) (by decide +kernel) (Nat.le_of_ble_eq_true rfl) ?_
  intro p e s m below meth c A ls hx hb hml hown hts hr hlocks hnm hN hK hP hD hS hA hl
  have hown : s.vm.findClass RX2 = some m.cls := hown
  have hl : lv_has ls 4 [(0, .int (nI v)), (1, .int (nI met))] := hl
  skip
  refine lv_iload_n hx hb dX2_packed_0 rfl (lv_at hl 0 rfl) ?_
  refine lv_if_ne (tgt := 6) hx hb dX2_packed_1 (by decide) (fun c_1 => ?_) (fun c_1 => ?_)
  · skip
    have h0 : v ≠ 0 := fun h => c_1 ((kb_eq0 (Nat.lt_trans (gl_lt hv) (by decide))).mpr h)
    obtain ⟨lo, hi, hlh, hhi, ev⟩ := gl_ord hv h0
    have hvb := gl_lt hv
    have hlo : met.testBit lo = true := hvm lo (by
      have d : ¬ hi = lo := by omega
      rw [ev, Nat.testBit_xor, cf_one_bit, cf_one_bit]; simp [d])
    have p1 : 1 ≤ 2 ^ lo := Nat.one_le_two_pow
    have p2 : 1 ≤ 2 ^ hi := Nat.one_le_two_pow
    have m1 : met % 2 ^ lo ≤ met := Nat.mod_le _ _
    have m2 : met % 2 ^ hi ≤ met := Nat.mod_le _ _
    have c1 : pq_ix met lo ≤ lo := cf_card_le _ _
    have c2 : pq_ix met hi ≤ hi := cf_card_le _ _
    refine lv_iload_n hx hb dX2_packed_6 rfl (lv_at hl 0 rfl) ?_
    refine lv_iload_n hx hb dX2_packed_7 rfl (lv_at hl 0 rfl) ?_
    refine lv_ineg hx hb dX2_packed_8 ?_
    refine lv_iand hx hb dX2_packed_9 ?_
    refine lv_topi (fun z_1 ez_1 => ?_)
    have ez_1 : z_1 = nI (2 ^ lo) := by rw [ez_1]; rw [kb_neg (by omega) (by omega), kb_and, ev, kb_low hlh (by omega)]
    subst ez_1
    refine lv_istore_n (lv' := [(2, .int (nI (2 ^ lo))), (0, .int (nI v)), (1, .int (nI met))]) hx hb dX2_packed_10 rfl hl (by decide) rfl (fun ls hl => ?_)
    refine lv_iload_n hx hb dX2_packed_11 rfl (lv_at hl 1 rfl) ?_
    refine lv_iload_n hx hb dX2_packed_12 rfl (lv_at hl 0 rfl) ?_
    refine lv_ixor hx hb dX2_packed_13 ?_
    refine lv_topi (fun z_2 ez_2 => ?_)
    have ez_2 : z_2 = nI (2 ^ hi) := by rw [ez_2]; rw [kb_xor, ev, Nat.xor_comm (2 ^ lo), cf_xc]
    subst ez_2
    refine lv_istore_n (lv' := [(3, .int (nI (2 ^ hi))), (2, .int (nI (2 ^ lo))), (0, .int (nI v)), (1, .int (nI met))]) hx hb dX2_packed_14 rfl hl (by decide) rfl (fun ls hl => ?_)
    refine lv_iconst (v := 1) hx hb dX2_packed_15 (by decide +kernel) ?_
    refine lv_iload_n hx hb dX2_packed_16 rfl (lv_at hl 3 rfl) ?_
    refine lv_iload_n hx hb dX2_packed_17 rfl (lv_at hl 1 rfl) ?_
    refine lv_iconst (v := nI 1) hx hb dX2_packed_18 (by decide +kernel) ?_
    refine lv_isub hx hb dX2_packed_19 ?_
    refine lv_topi (fun z_3 ez_3 => ?_)
    have ez_3 : z_3 = nI (2 ^ lo - 1) := by rw [ez_3]; exact pk_sub p1
    subst ez_3
    refine lv_iand hx hb dX2_packed_20 ?_
    refine lv_topi (fun z_4 ez_4 => ?_)
    have ez_4 : z_4 = nI (met % 2 ^ lo) := by rw [ez_4]; rw [kb_and, Nat.and_two_pow_sub_one_eq_mod]
    subst ez_4
    refine kx_goi (va_runS (As := [.int (nI (met % 2 ^ lo))]) (rest := [.int 1]) ⟨hx, hb, hml, hown, hts⟩ (c_bits l D k0 w0 _ (met % 2 ^ lo) (by omega)) ⟨(kg_B (k := 1) hts tw_183 tw_181 tw_24 (by decide +kernel) rfl rfl ⟨Nat.le_of_ble_eq_true rfl, Nat.le_of_ble_eq_true rfl⟩), hts _ tw_182⟩ (kx_preS hN hK hP hD) rfl rfl hl.1 rfl (lv_room (Nat.le_of_ble_eq_true rfl)) dX2_packed_21 ⟨Nat.le_of_ble_eq_true rfl, Nat.le_of_ble_eq_true rfl⟩) hD hS hA (fun r_6 u_7 H locs hp_5 hP hD hS => ?_)
    obtain ⟨er_6, eu_7⟩ := hp_5
    rw [eu_7] at hP hD; subst er_6
    refine lv_topi (fun z_8 ez_8 => ?_)
    have ez_8 : z_8 = nI (pq_ix met lo) := by rw [ez_8]; rw [cf_card_mod met (by omega)]; rfl
    subst ez_8
    refine lv_ishl hx hb dX2_packed_24 ?_
    refine lv_topi (fun z_9 ez_9 => ?_)
    have ez_9 : z_9 = nI (2 ^ pq_ix met lo) := by rw [ez_9]; exact kb_one (by omega)
    subst ez_9
    refine lv_iconst (v := 1) hx hb dX2_packed_25 (by decide +kernel) ?_
    refine lv_iload_n hx hb dX2_packed_26 rfl (lv_at hl 3 rfl) ?_
    refine lv_iload_n hx hb dX2_packed_27 rfl (lv_at hl 0 rfl) ?_
    refine lv_iconst (v := nI 1) hx hb dX2_packed_28 (by decide +kernel) ?_
    refine lv_isub hx hb dX2_packed_29 ?_
    refine lv_topi (fun z_10 ez_10 => ?_)
    have ez_10 : z_10 = nI (2 ^ hi - 1) := by rw [ez_10]; exact pk_sub p2
    subst ez_10
    refine lv_iand hx hb dX2_packed_30 ?_
    refine lv_topi (fun z_11 ez_11 => ?_)
    have ez_11 : z_11 = nI (met % 2 ^ hi) := by rw [ez_11]; rw [kb_and, Nat.and_two_pow_sub_one_eq_mod]
    subst ez_11
    refine kx_goi (va_runS (As := [.int (nI (met % 2 ^ hi))]) (rest := [.int 1, .int (nI (2 ^ pq_ix met lo))]) ⟨hx, hb, hml, hown, hts⟩ (c_bits l D k0 w0 _ (met % 2 ^ hi) (by omega)) ⟨(kg_B (k := 1) hts tw_183 tw_181 tw_24 (by decide +kernel) rfl rfl ⟨Nat.le_of_ble_eq_true rfl, Nat.le_of_ble_eq_true rfl⟩), hts _ tw_182⟩ (kx_preS hN hK hP hD) rfl rfl hl.1 rfl (lv_room (Nat.le_of_ble_eq_true rfl)) dX2_packed_31 ⟨Nat.le_of_ble_eq_true rfl, Nat.le_of_ble_eq_true rfl⟩) hD hS hA (fun r_13 u_14 H locs hp_12 hP hD hS => ?_)
    obtain ⟨er_13, eu_14⟩ := hp_12
    rw [eu_14] at hP hD; subst er_13
    refine lv_topi (fun z_15 ez_15 => ?_)
    have ez_15 : z_15 = nI (pq_ix met hi) := by rw [ez_15]; rw [cf_card_mod met (by omega)]; rfl
    subst ez_15
    refine lv_ishl hx hb dX2_packed_34 ?_
    refine lv_topi (fun z_16 ez_16 => ?_)
    have ez_16 : z_16 = nI (2 ^ pq_ix met hi) := by rw [ez_16]; exact kb_one (by omega)
    subst ez_16
    refine lv_ior hx hb dX2_packed_35 ?_
    refine lv_topi (fun z_17 ez_17 => ?_)
    have ez_17 : z_17 = nI (pq_of met v) := by rw [ez_17]; rw [kb_or, pq_two hlh (by omega) hlo, ev]
    subst ez_17
    exact kx_iret (v := nI (pq_of met v)) hx hb hr rfl hlocks hK hP hD hS dX2_packed_36 (⟨rfl, rfl⟩)
  · skip
    have h0 : v = 0 := (kb_eq0 (Nat.lt_trans (gl_lt hv) (by decide))).mp c_1
    refine lv_iconst (v := nI 0) hx hb dX2_packed_4 (by decide +kernel) ?_
    exact kx_iret (v := nI 0) hx hb hr rfl hlocks hK hP hD hS dX2_packed_5 (⟨by rw [h0, pq_0], rfl⟩)

set_option maxHeartbeats 4000000 in
set_option maxRecDepth 100000 in
/-- draftPacked(graph, at, shift) -/
theorem c_draftPacked (l : Launch) (D : va_G) (k0 : Nat → ClassId)  (w0 : va_W) (sz : Nat) (qo o a1 a2 a5 a8 : Nat) (hO : w0[qo]? = some (o, .inr (2, [.ref a1, .ref a2, .ref a5, .ref a8]))) (qd : Nat) (dr : Nat → Nat) (hd : w0[qd]? = some (a8, .inl (k0 0, 12, .inl (fun j => nI (dr j))))) (qg g ga gb : Nat) (L : Nat → Nat) (wt : Nat → Int32) (n : Nat) (vv oo : Int32) (hG : w0[qg]? = some (g, .inr (1, [.ref ga, .ref gb, .int (nI n), .int vv, .int oo]))) (hL : w0[qg + 1]? = some (ga, .inl (k0 0, 12, .inl (fun j => nI (L j))))) (hW : w0[qg + 2]? = some (gb, .inl (k0 0, 12, .inl wt))) (hap : qd ≠ qo ∧ qd ≠ qg ∧ qd ≠ qg + 1 ∧ qd ≠ qg + 2) (at9 sh : Nat) (hn : at9 + n ≤ 12) (hg2 : ∀ e, e < n → gl_two (L e)) (hsh : sh + cf_card 32 (me_of L n) ≤ 24) : kx_v l yX2_draftPacked wsX2_draftPacked ({ frames := 2, cells := 0, slots := 0, locals := 48 } : Room) D (tyL k0) w0 sz [.ref o, .ref g, .int (nI at9), .int (nI sh)] (fun (u : va_W) => u[qd]? = some (a8, .inl (k0 0, 12, .inl (fun j => nI (dp_d (fun e => pq_of (me_of L n) (L e) * 2 ^ sh) at9 dr n j)))) ∧ kx_fr w0 u (fun j => j = qd)) 0 0 := by
  refine kx_of (Qf := fun A => va_Qv (fun (u : va_W) => u[qd]? = some (a8, .inl (k0 0, 12, .inl (fun j => nI (dp_d (fun e => pq_of (me_of L n) (L e) * 2 ^ sh) at9 dr n j)))) ∧ kx_fr w0 u (fun j => j = qd)) (kx_B D (tyL k0) A) A) (cc := cX2_draftPacked) (maxL := 6) (ret := none) (by decide +kernel) (Nat.le_of_ble_eq_true rfl) ?_
  intro p e s m below meth c A ls hx hb hml hown hts hr hlocks hnm hN hK hP hD hS hA hl
  have hown : s.vm.findClass RX2 = some m.cls := hown
  have hl : lv_has ls 6 [(0, .ref o), (1, .ref g), (2, .int (nI at9)), (3, .int (nI sh))] := hl
  have hfr : kx_fr w0 w0 (fun j => j = qd) := kx_fr_rf _ _
  have hmet : me_of L n < 2 ^ 24 := me_lt fun e he => gl_lt (hg2 e he)
  refine lv_aload_n hx hb dX2_draftPacked_0 rfl (lv_at hl 1 rfl) ?_
  refine kx_goi (va_runV (As := []) (rest := []) ⟨hx, hb, hml, hown, hts⟩ (c_met l D k0 w0 _ qg g ga gb L wt n vv oo hG hL hW (by omega)) ⟨(kg_B (k := 0) hts tw_177 tw_174 tw_21 (by decide +kernel) rfl rfl ⟨Nat.le_of_ble_eq_true rfl, Nat.le_of_ble_eq_true rfl⟩), hts _ tw_175, hts _ tw_176⟩ (kx_preV hN hK hP hD rfl hG) rfl rfl hl.1 rfl (lv_room (Nat.le_of_ble_eq_true rfl)) dX2_draftPacked_1 ⟨Nat.le_of_ble_eq_true rfl, Nat.le_of_ble_eq_true rfl⟩) hD hS hA (fun r_2 u_3 H locs hp_1 hP hD hS => ?_)
  obtain ⟨er_2, eu_3⟩ := hp_1
  rw [eu_3] at hP hD; subst er_2
  refine lv_istore (lv' := [(4, .int (nI (me_of L n))), (0, .ref o), (1, .ref g), (2, .int (nI at9)), (3, .int (nI sh))]) hx hb dX2_draftPacked_4 hl (by decide) rfl (fun ls hl => ?_)
  refine lv_iconst (v := nI 0) hx hb dX2_draftPacked_6 (by decide +kernel) ?_
  refine lv_istore (lv' := [(5, .int (nI 0)), (4, .int (nI (me_of L n))), (0, .ref o), (1, .ref g), (2, .int (nI at9)), (3, .int (nI sh))]) hx hb dX2_draftPacked_7 hl (by decide) rfl (fun ls hl => ?_)
  have loop_9 : ∀ (n9 : Nat) (e9 : Nat), (e9 ≤ n) → (n + 1 ≤ e9 + n9) → ∀ (w1 : va_W), w1[qo]? = some (o, .inr (2, [.ref a1, .ref a2, .ref a5, .ref a8])) → w1[qd]? = some (a8, .inl (k0 0, 12, .inl (fun y9 => nI ((dp_d (fun e => pq_of (me_of L n) (L e) * 2 ^ sh) at9 dr e9) y9)))) → w1[qg]? = some (g, .inr (1, [.ref ga, .ref gb, .int (nI n), .int vv, .int oo])) → w1[qg + 1]? = some (ga, .inl (k0 0, 12, .inl (fun y9 => nI (L y9)))) → w1[qg + 2]? = some (gb, .inl (k0 0, 12, .inl wt)) → kx_fr w0 w1 (fun j => j = qd) → ∀ (H : Heap) (locs : List Loc), va_P D vwCl w1 H → va_D A w1 → va_S A s.heap H locs → ∀ (ls : Array Slot), lv_has ls 6 [(5, .int (nI e9)), (4, .int (nI (me_of L n))), (0, .ref o), (1, .ref g), (2, .int (nI at9)), (3, .int (nI sh))] → W p l e ({ frames := 2, cells := 0, slots := 0, locals := 48 } : Room) s m ([.ref o, .ref g, .int (nI at9), .int (nI sh)] : List Value).toArray below meth c H locs 0 0 (MQ below (va_Qv (fun (u : va_W) => u[qd]? = some (a8, .inl (k0 0, 12, .inl (fun j => nI (dp_d (fun e => pq_of (me_of L n) (L e) * 2 ^ sh) at9 dr n j)))) ∧ kx_fr w0 u (fun j => j = qd)) (kx_B D (tyL k0) A) A) ([.ref o, .ref g, .int (nI at9), .int (nI sh)] : List Value).toArray s 0 0 A) (F0 m 9 ls []) := by
    intro n9
    induction n9 with
    | zero =>
      intro e9 he hme
      exact absurd hme (by omega)
    | succ n9 ih9 =>
      intro e9 he hme w1 F9_0 F9_1 F9_2 F9_3 F9_4 hfr H locs hP hD hS ls hl
      refine lv_iload hx hb dX2_draftPacked_9 (lv_at hl 0 rfl) ?_
      refine lv_aload_n hx hb dX2_draftPacked_11 rfl (lv_at hl 3 rfl) ?_
      refine va_get (D := D) (ci := 1) (v := .int (nI n)) (C := RX1) (T := TX1) (N := 5) hx hb hts inX1 hown hK hP qg F9_2 rfl 2 (by decide) (hts _ tw_64) (fun _ h9 => h9) rfl dX2_draftPacked_12 ?_
      refine lv_icmp_ge (tgt := 56) hx hb dX2_draftPacked_15 (by decide) (fun c_15 => ?_) (fun c_15 => ?_)
      · skip
        have hik : e9 = n := by
          have := (nI_leI (by omega) (by omega)).mp c_15
          omega
        subst hik
        exact kx_vret hx hb hr hlocks hK hP hD hS dX2_draftPacked_56 (⟨F9_1, hfr⟩)
      · skip
        have hik : e9 < n := by
          rcases Nat.lt_or_ge (e9) (n) with h | h
          · exact h
          · exact absurd ((nI_leI (by omega) (by omega)).mpr h) c_15
        refine lv_iload_n hx hb dX2_draftPacked_18 rfl (lv_at hl 4 rfl) ?_
        refine lv_iload hx hb dX2_draftPacked_19 (lv_at hl 0 rfl) ?_
        refine lv_iadd hx hb dX2_draftPacked_21 ?_
        refine lv_topi (fun z_4 ez_4 => ?_)
        have ez_4 : z_4 = nI (at9 + e9) := by rw [ez_4]; exact nI_add _ _
        subst ez_4
        refine lv_bipush (v := nI 12) hx hb dX2_draftPacked_22 (by decide +kernel) ?_
        refine lv_icmp_ge (tgt := 56) hx hb dX2_draftPacked_24 (by decide) (fun c_24 => ?_) (fun c_24 => ?_)
        · skip
          exact absurd c_24 (nI_ge (by omega) (by omega))
        · skip
          refine lv_aload_n hx hb dX2_draftPacked_27 rfl (lv_at hl 2 rfl) ?_
          refine va_get (D := D) (ci := 2) (v := .ref a8) (C := RX2) (T := TX2) (N := 4) hx hb hts inX2 hown hK hP qo F9_0 rfl 3 (by decide) (hts _ tw_81) (fun _ h9 => h9) rfl dX2_draftPacked_28 ?_
          refine lv_iload_n hx hb dX2_draftPacked_31 rfl (lv_at hl 4 rfl) ?_
          refine lv_iload hx hb dX2_draftPacked_32 (lv_at hl 0 rfl) ?_
          refine lv_iadd hx hb dX2_draftPacked_34 ?_
          refine lv_topi (fun z_5 ez_5 => ?_)
          have ez_5 : z_5 = nI (at9 + e9) := by rw [ez_5]; exact nI_add _ _
          subst ez_5
          refine lv_aload_n hx hb dX2_draftPacked_35 rfl (lv_at hl 3 rfl) ?_
          refine va_get (D := D) (ci := 1) (v := .ref ga) (C := RX1) (T := TX1) (N := 5) hx hb hts inX1 hown hK hP qg F9_2 rfl 0 (by decide) (hts _ tw_59) (fun _ h9 => h9) rfl dX2_draftPacked_36 ?_
          refine lv_iload hx hb dX2_draftPacked_39 (lv_at hl 0 rfl) ?_
          refine kx_nald hx hb hK hP (qg + 1) F9_3 rfl (i := e9) (by omega) (by decide) dX2_draftPacked_41 ?_
          refine lv_iload hx hb dX2_draftPacked_42 (lv_at hl 1 rfl) ?_
          refine kx_goi (va_runS (As := [.int (nI (L e9)), .int (nI (me_of L n))]) (rest := [.int (nI (at9 + e9)), .ref a8]) ⟨hx, hb, hml, hown, hts⟩ (c_packed l D k0 w1 _ (L e9) (me_of L n) (hg2 e9 hik) (me_sub hik) hmet) ⟨(kg_B (k := 2) hts tw_180 tw_178 tw_19 (by decide +kernel) rfl rfl ⟨Nat.le_of_ble_eq_true rfl, Nat.le_of_ble_eq_true rfl⟩), hts _ tw_179⟩ (kx_preS hN hK hP hD) rfl rfl hl.1 rfl (lv_room (Nat.le_of_ble_eq_true rfl)) dX2_draftPacked_44 ⟨Nat.le_of_ble_eq_true rfl, Nat.le_of_ble_eq_true rfl⟩) hD hS hA (fun r_7 u_8 H locs hp_6 hP hD hS => ?_)
          obtain ⟨er_7, eu_8⟩ := hp_6
          rw [eu_8] at hP hD; subst er_7
          refine lv_iload_n hx hb dX2_draftPacked_47 rfl (lv_at hl 5 rfl) ?_
          refine lv_ishl hx hb dX2_draftPacked_48 ?_
          refine lv_topi (fun z_9 ez_9 => ?_)
          have ez_9 : z_9 = nI (pq_of (me_of L n) (L e9) * 2 ^ sh) := by rw [ez_9]; exact kb_shl (by omega) (by
                  have k1 := pq_lt (me_sub (L := L) hik) (Nat.lt_trans hmet (by decide))
                  have k2 : pq_of (me_of L n) (L e9) * 2 ^ sh < 2 ^ cf_card 32 (me_of L n) * 2 ^ sh := Nat.mul_lt_mul_of_pos_right k1 (Nat.two_pow_pos sh)
                  rw [← Nat.pow_add] at k2
                  have k3 : 2 ^ (cf_card 32 (me_of L n) + sh) ≤ 2 ^ 24 := Nat.pow_le_pow_right (by omega) (by omega)
                  omega)
          subst ez_9
          refine kx_nast hx hb hK hP hD hS qd F9_1 rfl (i := (at9 + e9)) (x := (pq_of (me_of L n) (L e9) * 2 ^ sh)) (by omega) (by decide) dX2_draftPacked_49 (fun H locs hP hD hS => ?_)
          obtain ⟨w_10, ew_10⟩ : ∃ w, w = w1.set qd (a8, .inl (k0 0, 12, .inl (fun y9 => nI ((fo_up (dp_d (fun e => pq_of (me_of L n) (L e) * 2 ^ sh) at9 dr e9) (at9 + e9) (pq_of (me_of L n) (L e9) * 2 ^ sh)) y9)))) := ⟨_, rfl⟩
          have hP : va_P D vwCl w_10 H := by rw [ew_10]; exact hP
          have hD : va_D A w_10 := by rw [ew_10]; exact hD
          have f_11 : w_10[qo]? = some (o, .inr (2, [.ref a1, .ref a2, .ref a5, .ref a8])) := by rw [ew_10]; exact kx_set_ne F9_0 (by omega)
          have f_12 : w_10[qd]? = some (a8, .inl (k0 0, 12, .inl (fun y9 => nI ((fo_up (dp_d (fun e => pq_of (me_of L n) (L e) * 2 ^ sh) at9 dr e9) (at9 + e9) (pq_of (me_of L n) (L e9) * 2 ^ sh)) y9)))) := by rw [ew_10]; exact kx_set_self F9_1
          have f_13 : w_10[qg]? = some (g, .inr (1, [.ref ga, .ref gb, .int (nI n), .int vv, .int oo])) := by rw [ew_10]; exact kx_set_ne F9_2 (by omega)
          have f_14 : w_10[qg + 1]? = some (ga, .inl (k0 0, 12, .inl (fun y9 => nI (L y9)))) := by rw [ew_10]; exact kx_set_ne F9_3 (by omega)
          have f_15 : w_10[qg + 2]? = some (gb, .inl (k0 0, 12, .inl wt)) := by rw [ew_10]; exact kx_set_ne F9_4 (by omega)
          have hfr : kx_fr w0 w_10 (fun j => j = qd) := kx_fr_tr hfr (by rw [ew_10]; exact kx_fr_set (by omega))
          refine lv_iinc (v := nI (e9 + 1)) (lv' := [(5, .int (nI (e9 + 1))), (4, .int (nI (me_of L n))), (0, .ref o), (1, .ref g), (2, .int (nI at9)), (3, .int (nI sh))]) hx hb dX2_draftPacked_50 hl (k := 0) rfl (nI_1 _) (by decide) rfl (fun ls hl => ?_)
          refine lv_goto (tgt := 9) hx hb dX2_draftPacked_53 (by decide) ?_
          exact ih9 (e9 + 1) (by omega) (by omega) w_10 f_11 f_12 f_13 f_14 f_15 hfr _ _ hP hD hS _ (lv_sub hl [0, 1, 2, 3, 4, 5] rfl)
  exact loop_9 (n + 1) 0 (Nat.zero_le n) (by omega) w0 hO hd hG hL hW hfr _ _ hP hD hS _ (lv_sub hl [0, 1, 2, 3, 4, 5] rfl)

set_option maxHeartbeats 4000000 in
set_option maxRecDepth 100000 in
/-- beside(to, g, h) -/
theorem c_beside (l : Launch) (D : va_G) (k0 : Nat → ClassId)  (w0 : va_W) (sz : Nat) (b : Nat) (ad nE nV : Nat → Nat) (op : Nat → Int32) (LL : Nat → Nat → Nat) (ww : Nat → Nat → Int32) (hC : atC w0 b k0 ad nE nV op LL ww) (hI : cinv nE nV LL ww) (x y z : Int32) : kx_i l yX2_beside wsX2_beside ({ frames := 3, cells := 0, slots := 0, locals := 80 } : Room) D (tyL k0) w0 sz [.ref (ad 0), .int x, .int y, .int z] (fun (r : Int32) (u : va_W) => ((∃ t i j, t < 8 ∧ i < 8 ∧ j < 8 ∧ nE i + nE j ≤ 12 ∧ x = nI t ∧ y = nI i ∧ z = nI j ∧ r = nI (nE i + nE j) ∧ ∃ (L9 : Nat → Nat) (f9 : Nat → Int32), atC u b k0 ad (va_up nE t (nE i + nE j)) (va_up nV t (nV t)) (va_up op t 0) (va_up LL t L9) (va_up ww t f9) ∧ (∀ k, k < nE i + nE j → L9 k = bs_L (fun e => pq_of (me_of (LL i) (nE i)) (LL i e)) (fun e => pq_of (me_of (LL j) (nE j)) (LL j e)) (nE i) (cf_card 32 (me_of (LL i) (nE i))) k) ∧ ∀ k, k < nE i + nE j → f9 k = 0) ∨ (¬ (∃ t i j, t < 8 ∧ i < 8 ∧ j < 8 ∧ nE i + nE j ≤ 12 ∧ x = nI t ∧ y = nI i ∧ z = nI j) ∧ r = -1 ∧ u = w0)) ∧ kx_fr w0 u (fun j => b ≤ j ∧ j < b + 33)) 0 0 := by
  refine kx_of (Qf := fun A => va_Qi (fun (r : Int32) (u : va_W) => ((∃ t i j, t < 8 ∧ i < 8 ∧ j < 8 ∧ nE i + nE j ≤ 12 ∧ x = nI t ∧ y = nI i ∧ z = nI j ∧ r = nI (nE i + nE j) ∧ ∃ (L9 : Nat → Nat) (f9 : Nat → Int32), atC u b k0 ad (va_up nE t (nE i + nE j)) (va_up nV t (nV t)) (va_up op t 0) (va_up LL t L9) (va_up ww t f9) ∧ (∀ k, k < nE i + nE j → L9 k = bs_L (fun e => pq_of (me_of (LL i) (nE i)) (LL i e)) (fun e => pq_of (me_of (LL j) (nE j)) (LL j e)) (nE i) (cf_card 32 (me_of (LL i) (nE i))) k) ∧ ∀ k, k < nE i + nE j → f9 k = 0) ∨ (¬ (∃ t i j, t < 8 ∧ i < 8 ∧ j < 8 ∧ nE i + nE j ≤ 12 ∧ x = nI t ∧ y = nI i ∧ z = nI j) ∧ r = -1 ∧ u = w0)) ∧ kx_fr w0 u (fun j => b ≤ j ∧ j < b + 33)) (kx_B D (tyL k0) A) A) (cc := cX2_beside) (maxL := 6) (ret := (some .int)) (by decide +kernel) (Nat.le_of_ble_eq_true rfl) ?_
  intro p e s m below meth c A ls hx hb hml hown hts hr hlocks hnm hN hK hP hD hS hA hl
  have hown : s.vm.findClass RX2 = some m.cls := hown
  have hl : lv_has ls 6 [(0, .ref (ad 0)), (1, .int x), (2, .int y), (3, .int z)] := hl
  have hfr : kx_fr w0 w0 (fun j => j = b + 8) := kx_fr_rf _ _
  obtain ⟨hO, ⟨fq, hQ, hfq⟩, ⟨r1, p1, k1, hF1, hR1, hT1⟩, ⟨r2, p2, k2, hF2, hR2, hT2⟩, ⟨dr, hd⟩, hgs⟩ := id hC
  refine lv_iload_n hx hb dX2_beside_0 rfl (lv_at hl 1 rfl) ?_
  refine kx_goi (va_runS (As := [.int x]) (rest := []) ⟨hx, hb, hml, hown, hts⟩ (c_isGraph l D k0 w0 _ x) ⟨(kg_B (k := 1) hts tw_97 tw_95 tw_19 (by decide +kernel) rfl rfl ⟨Nat.le_of_ble_eq_true rfl, Nat.le_of_ble_eq_true rfl⟩), hts _ tw_96⟩ (kx_preS hN hK hP hD) rfl rfl hl.1 rfl (lv_room (Nat.le_of_ble_eq_true rfl)) dX2_beside_1 ⟨Nat.le_of_ble_eq_true rfl, Nat.le_of_ble_eq_true rfl⟩) hD hS hA (fun r_2 u_3 H locs hp_1 hP hD hS => ?_)
  obtain ⟨hy_x, eu⟩ := hp_1
  rw [eu] at hP hD
  refine lv_if_eq (tgt := 21) hx hb dX2_beside_4 (by decide) (fun c_4 => ?_) (fun c_4 => ?_)
  · skip
    have hno0 := kg_0 hy_x c_4
    have hno : ¬ (∃ t i j, t < 8 ∧ i < 8 ∧ j < 8 ∧ nE i + nE j ≤ 12 ∧ x = nI t ∧ y = nI i ∧ z = nI j) := fun ⟨t, _, _, h1, _, _, _, h2, _⟩ => hno0 ⟨t, h1, h2⟩
    refine lv_iconst (v := -1) hx hb dX2_beside_21 (by decide +kernel) ?_
    exact kx_iret (v := -1) hx hb hr rfl hlocks hK hP hD hS dX2_beside_22 (⟨Or.inr ⟨hno, rfl, rfl⟩, kx_fr_rf _ _⟩)
  · skip
    obtain ⟨t, h8t, e_x⟩ := kg_1 hy_x c_4
    rw [e_x] at hl
    obtain ⟨hGt, hLt, hWt⟩ := hgs t h8t
    obtain ⟨hnt, hvt, hl2t, hw2t⟩ := hI t h8t
    refine lv_iload_n hx hb dX2_beside_7 rfl (lv_at hl 2 rfl) ?_
    refine kx_goi (va_runS (As := [.int y]) (rest := []) ⟨hx, hb, hml, hown, hts⟩ (c_isGraph l D k0 w0 _ y) ⟨(kg_B (k := 1) hts tw_97 tw_95 tw_19 (by decide +kernel) rfl rfl ⟨Nat.le_of_ble_eq_true rfl, Nat.le_of_ble_eq_true rfl⟩), hts _ tw_96⟩ (kx_preS hN hK hP hD) rfl rfl hl.1 rfl (lv_room (Nat.le_of_ble_eq_true rfl)) dX2_beside_8 ⟨Nat.le_of_ble_eq_true rfl, Nat.le_of_ble_eq_true rfl⟩) hD hS hA (fun r_5 u_6 H locs hp_4 hP hD hS => ?_)
    obtain ⟨hy_y, eu⟩ := hp_4
    rw [eu] at hP hD
    refine lv_if_eq (tgt := 21) hx hb dX2_beside_11 (by decide) (fun c_11 => ?_) (fun c_11 => ?_)
    · skip
      have hno0 := kg_0 hy_y c_11
      have hno : ¬ (∃ t i j, t < 8 ∧ i < 8 ∧ j < 8 ∧ nE i + nE j ≤ 12 ∧ x = nI t ∧ y = nI i ∧ z = nI j) := fun ⟨_, i, _, _, h1, _, _, _, h2, _⟩ => hno0 ⟨i, h1, h2⟩
      refine lv_iconst (v := -1) hx hb dX2_beside_21 (by decide +kernel) ?_
      exact kx_iret (v := -1) hx hb hr rfl hlocks hK hP hD hS dX2_beside_22 (⟨Or.inr ⟨hno, rfl, rfl⟩, kx_fr_rf _ _⟩)
    · skip
      obtain ⟨i, h8i, e_y⟩ := kg_1 hy_y c_11
      rw [e_y] at hl
      obtain ⟨hGi, hLi, hWi⟩ := hgs i h8i
      obtain ⟨hni, hvi, hl2i, hw2i⟩ := hI i h8i
      refine lv_iload_n hx hb dX2_beside_14 rfl (lv_at hl 3 rfl) ?_
      refine kx_goi (va_runS (As := [.int z]) (rest := []) ⟨hx, hb, hml, hown, hts⟩ (c_isGraph l D k0 w0 _ z) ⟨(kg_B (k := 1) hts tw_97 tw_95 tw_19 (by decide +kernel) rfl rfl ⟨Nat.le_of_ble_eq_true rfl, Nat.le_of_ble_eq_true rfl⟩), hts _ tw_96⟩ (kx_preS hN hK hP hD) rfl rfl hl.1 rfl (lv_room (Nat.le_of_ble_eq_true rfl)) dX2_beside_15 ⟨Nat.le_of_ble_eq_true rfl, Nat.le_of_ble_eq_true rfl⟩) hD hS hA (fun r_8 u_9 H locs hp_7 hP hD hS => ?_)
      obtain ⟨hy_z, eu⟩ := hp_7
      rw [eu] at hP hD
      refine lv_if_ne (tgt := 23) hx hb dX2_beside_18 (by decide) (fun c_18 => ?_) (fun c_18 => ?_)
      · skip
        obtain ⟨j, h8j, e_z⟩ := kg_1 hy_z c_18
        rw [e_z] at hl
        obtain ⟨hGj, hLj, hWj⟩ := hgs j h8j
        obtain ⟨hnj, hvj, hl2j, hw2j⟩ := hI j h8j
        have hc1 := me_card hl2i
        have hc2 := me_card hl2j
        have hm1 : (me_of (LL i) (nE i)) < 2 ^ 24 := me_lt fun e he => gl_lt (hl2i e he)
        refine lv_aload_n hx hb dX2_beside_23 rfl (lv_at hl 0 rfl) ?_
        refine va_get (D := D) (ci := 2) (v := .ref (ad 1)) (C := RX2) (T := TX2) (N := 4) hx hb hts inX2 hown hK hP b hO rfl 0 (by decide) (hts _ tw_78) (fun _ h9 => h9) rfl dX2_beside_24 ?_
        refine lv_iload_n hx hb dX2_beside_27 rfl (lv_at hl 2 rfl) ?_
        refine kx_qald hx hb hK hP (b + 1) 1 hQ rfl (i := i) (r := (ad (9 + 3 * i))) (by omega) (by decide) (hfq _ (by omega)) dX2_beside_28 ?_
        refine va_get (D := D) (ci := 1) (v := .int (nI (nE i))) (C := RX1) (T := TX1) (N := 5) hx hb hts inX1 hown hK hP (b + 9 + 3 * i) hGi rfl 2 (by decide) (hts _ tw_64) (fun _ h9 => h9) rfl dX2_beside_29 ?_
        refine lv_istore (lv' := [(4, .int (nI (nE i))), (0, .ref (ad 0)), (1, .int (nI t)), (2, .int (nI i)), (3, .int (nI j))]) hx hb dX2_beside_32 hl (by decide) rfl (fun ls hl => ?_)
        refine lv_iload hx hb dX2_beside_34 (lv_at hl 0 rfl) ?_
        refine lv_aload_n hx hb dX2_beside_36 rfl (lv_at hl 1 rfl) ?_
        refine va_get (D := D) (ci := 2) (v := .ref (ad 1)) (C := RX2) (T := TX2) (N := 4) hx hb hts inX2 hown hK hP b hO rfl 0 (by decide) (hts _ tw_78) (fun _ h9 => h9) rfl dX2_beside_37 ?_
        refine lv_iload_n hx hb dX2_beside_40 rfl (lv_at hl 4 rfl) ?_
        refine kx_qald hx hb hK hP (b + 1) 1 hQ rfl (i := j) (r := (ad (9 + 3 * j))) (by omega) (by decide) (hfq _ (by omega)) dX2_beside_41 ?_
        refine va_get (D := D) (ci := 1) (v := .int (nI (nE j))) (C := RX1) (T := TX1) (N := 5) hx hb hts inX1 hown hK hP (b + 9 + 3 * j) hGj rfl 2 (by decide) (hts _ tw_64) (fun _ h9 => h9) rfl dX2_beside_42 ?_
        refine lv_iadd hx hb dX2_beside_45 ?_
        refine lv_topi (fun z_10 ez_10 => ?_)
        have ez_10 : z_10 = nI (nE i + nE j) := by rw [ez_10]; exact nI_add _ _
        subst ez_10
        refine lv_istore (lv' := [(5, .int (nI (nE i + nE j))), (4, .int (nI (nE i))), (0, .ref (ad 0)), (1, .int (nI t)), (2, .int (nI i)), (3, .int (nI j))]) hx hb dX2_beside_46 hl (by decide) rfl (fun ls hl => ?_)
        refine lv_iload hx hb dX2_beside_48 (lv_at hl 0 rfl) ?_
        refine lv_bipush (v := nI 12) hx hb dX2_beside_50 (by decide +kernel) ?_
        refine lv_icmp_le (tgt := 57) hx hb dX2_beside_52 (by decide) (fun c_52 => ?_) (fun c_52 => ?_)
        · skip
          have h12 : nE i + nE j ≤ 12 := (nI_leI (by omega) (by omega)).mp c_52
          refine lv_aload_n hx hb dX2_beside_57 rfl (lv_at hl 2 rfl) ?_
          refine lv_aload_n hx hb dX2_beside_58 rfl (lv_at hl 2 rfl) ?_
          refine va_get (D := D) (ci := 2) (v := .ref (ad 1)) (C := RX2) (T := TX2) (N := 4) hx hb hts inX2 hown hK hP b hO rfl 0 (by decide) (hts _ tw_78) (fun _ h9 => h9) rfl dX2_beside_59 ?_
          refine lv_iload_n hx hb dX2_beside_62 rfl (lv_at hl 4 rfl) ?_
          refine kx_qald hx hb hK hP (b + 1) 1 hQ rfl (i := i) (r := (ad (9 + 3 * i))) (by omega) (by decide) (hfq _ (by omega)) dX2_beside_63 ?_
          refine lv_iconst (v := nI 0) hx hb dX2_beside_64 (by decide +kernel) ?_
          refine lv_iconst (v := nI 0) hx hb dX2_beside_65 (by decide +kernel) ?_
          refine kx_gov (va_runV (As := [.ref (ad (9 + 3 * i)), .int (nI 0), .int (nI 0)]) (rest := []) ⟨hx, hb, hml, hown, hts⟩ (c_draftPacked l D k0 w0 _ b (ad 0) (ad 1) (ad 2) (ad 5) (ad 8) hO (b + 8) (dr) hd (b + 9 + 3 * i) (ad (9 + 3 * i)) (ad (10 + 3 * i)) (ad (11 + 3 * i)) (LL i) (ww i) (nE i) (nI (nV i)) (op i) hGi hLi hWi ⟨by omega, by omega, by omega, by omega⟩ 0 0 (by omega) hl2i (by omega)) ⟨(kg_B (k := 3) hts tw_173 tw_170 tw_19 (by decide +kernel) rfl rfl ⟨Nat.le_of_ble_eq_true rfl, Nat.le_of_ble_eq_true rfl⟩), hts _ tw_172, hts _ tw_2⟩ (kx_preV hN hK hP hD rfl hO) rfl rfl hl.1 rfl (lv_room (Nat.le_of_ble_eq_true rfl)) dX2_beside_66 ⟨Nat.le_of_ble_eq_true rfl, Nat.le_of_ble_eq_true rfl⟩) hD hS hA (fun u_13 H locs hp_11 hP hD hS => ?_)
          obtain ⟨hd9, hq⟩ := hp_11
          have f_14 : u_13[b]? = some (ad 0, .inr (2, [.ref (ad 1), .ref (ad 2), .ref (ad 5), .ref (ad 8)])) := by rw [hq _ (by omega)]; exact hO
          have f_15 : u_13[b + 1]? = some (ad 1, .inl (k0 1, 8, .inr (.inr (.inr (.inr fq))))) := by rw [hq _ (by omega)]; exact hQ
          have f_16 : u_13[b + 8]? = some (ad 8, .inl (k0 0, 12, .inl (fun y9 => nI ((dp_d (fun e => pq_of (me_of (LL i) (nE i)) (LL i e) * 2 ^ 0) 0 dr (nE i)) y9)))) := hd9
          have f_17 : u_13[b + 9 + 3 * t]? = some (ad (9 + 3 * t), .inr (1, [.ref (ad (10 + 3 * t)), .ref (ad (11 + 3 * t)), .int (nI (nE t)), .int (nI (nV t)), .int (op t)])) := by rw [hq _ (by omega)]; exact hGt
          have f_18 : u_13[b + 9 + 3 * t + 1]? = some (ad (10 + 3 * t), .inl (k0 0, 12, .inl (fun y9 => nI ((LL t) y9)))) := by rw [hq _ (by omega)]; exact hLt
          have f_19 : u_13[b + 9 + 3 * t + 2]? = some (ad (11 + 3 * t), .inl (k0 0, 12, .inl (ww t))) := by rw [hq _ (by omega)]; exact hWt
          have f_20 : u_13[b + 9 + 3 * i]? = some (ad (9 + 3 * i), .inr (1, [.ref (ad (10 + 3 * i)), .ref (ad (11 + 3 * i)), .int (nI (nE i)), .int (nI (nV i)), .int (op i)])) := by rw [hq _ (by omega)]; exact hGi
          have f_21 : u_13[b + 9 + 3 * i + 1]? = some (ad (10 + 3 * i), .inl (k0 0, 12, .inl (fun y9 => nI ((LL i) y9)))) := by rw [hq _ (by omega)]; exact hLi
          have f_22 : u_13[b + 9 + 3 * i + 2]? = some (ad (11 + 3 * i), .inl (k0 0, 12, .inl (ww i))) := by rw [hq _ (by omega)]; exact hWi
          have f_23 : u_13[b + 9 + 3 * j]? = some (ad (9 + 3 * j), .inr (1, [.ref (ad (10 + 3 * j)), .ref (ad (11 + 3 * j)), .int (nI (nE j)), .int (nI (nV j)), .int (op j)])) := by rw [hq _ (by omega)]; exact hGj
          have f_24 : u_13[b + 9 + 3 * j + 1]? = some (ad (10 + 3 * j), .inl (k0 0, 12, .inl (fun y9 => nI ((LL j) y9)))) := by rw [hq _ (by omega)]; exact hLj
          have f_25 : u_13[b + 9 + 3 * j + 2]? = some (ad (11 + 3 * j), .inl (k0 0, 12, .inl (ww j))) := by rw [hq _ (by omega)]; exact hWj
          have hfr : kx_fr w0 u_13 (fun j => j = b + 8) := kx_fr_tr hfr (kx_fr_mono hq (fun j h => h))
          refine lv_aload_n hx hb dX2_beside_69 rfl (lv_at hl 2 rfl) ?_
          refine lv_aload_n hx hb dX2_beside_70 rfl (lv_at hl 2 rfl) ?_
          refine va_get (D := D) (ci := 2) (v := .ref (ad 1)) (C := RX2) (T := TX2) (N := 4) hx hb hts inX2 hown hK hP b f_14 rfl 0 (by decide) (hts _ tw_78) (fun _ h9 => h9) rfl dX2_beside_71 ?_
          refine lv_iload_n hx hb dX2_beside_74 rfl (lv_at hl 5 rfl) ?_
          refine kx_qald hx hb hK hP (b + 1) 1 f_15 rfl (i := j) (r := (ad (9 + 3 * j))) (by omega) (by decide) (hfq _ (by omega)) dX2_beside_75 ?_
          refine lv_iload hx hb dX2_beside_76 (lv_at hl 1 rfl) ?_
          refine lv_aload_n hx hb dX2_beside_78 rfl (lv_at hl 2 rfl) ?_
          refine va_get (D := D) (ci := 2) (v := .ref (ad 1)) (C := RX2) (T := TX2) (N := 4) hx hb hts inX2 hown hK hP b f_14 rfl 0 (by decide) (hts _ tw_78) (fun _ h9 => h9) rfl dX2_beside_79 ?_
          refine lv_iload_n hx hb dX2_beside_82 rfl (lv_at hl 4 rfl) ?_
          refine kx_qald hx hb hK hP (b + 1) 1 f_15 rfl (i := i) (r := (ad (9 + 3 * i))) (by omega) (by decide) (hfq _ (by omega)) dX2_beside_83 ?_
          refine kx_goi (va_runV (As := []) (rest := [.int (nI (nE i)), .ref (ad (9 + 3 * j)), .ref (ad 0)]) ⟨hx, hb, hml, hown, hts⟩ (c_met l D k0 u_13 _ (b + 9 + 3 * i) (ad (9 + 3 * i)) (ad (10 + 3 * i)) (ad (11 + 3 * i)) (LL i) (ww i) (nE i) (nI (nV i)) (op i) f_20 f_21 f_22 hni) ⟨(kg_B (k := 0) hts tw_177 tw_174 tw_21 (by decide +kernel) rfl rfl ⟨Nat.le_of_ble_eq_true rfl, Nat.le_of_ble_eq_true rfl⟩), hts _ tw_175, hts _ tw_176⟩ (kx_preV hN hK hP hD rfl f_20) rfl rfl hl.1 rfl (lv_room (Nat.le_of_ble_eq_true rfl)) dX2_beside_84 ⟨Nat.le_of_ble_eq_true rfl, Nat.le_of_ble_eq_true rfl⟩) hD hS hA (fun r_27 u_28 H locs hp_26 hP hD hS => ?_)
          obtain ⟨er_27, eu_28⟩ := hp_26
          rw [eu_28] at hP hD; subst er_27
          refine kx_goi (va_runS (As := [.int (nI (me_of (LL i) (nE i)))]) (rest := [.int (nI (nE i)), .ref (ad (9 + 3 * j)), .ref (ad 0)]) ⟨hx, hb, hml, hown, hts⟩ (c_bits l D k0 u_13 _ (me_of (LL i) (nE i)) (by omega)) ⟨(kg_B (k := 1) hts tw_183 tw_181 tw_24 (by decide +kernel) rfl rfl ⟨Nat.le_of_ble_eq_true rfl, Nat.le_of_ble_eq_true rfl⟩), hts _ tw_182⟩ (kx_preS hN hK hP hD) rfl rfl hl.1 rfl (lv_room (Nat.le_of_ble_eq_true rfl)) dX2_beside_87 ⟨Nat.le_of_ble_eq_true rfl, Nat.le_of_ble_eq_true rfl⟩) hD hS hA (fun r_30 u_31 H locs hp_29 hP hD hS => ?_)
          obtain ⟨er_30, eu_31⟩ := hp_29
          rw [eu_31] at hP hD; subst er_30
          refine kx_gov (va_runV (As := [.ref (ad (9 + 3 * j)), .int (nI (nE i)), .int (nI (cf_card 32 (me_of (LL i) (nE i))))]) (rest := []) ⟨hx, hb, hml, hown, hts⟩ (c_draftPacked l D k0 u_13 _ b (ad 0) (ad 1) (ad 2) (ad 5) (ad 8) f_14 (b + 8) (dp_d (fun e => pq_of (me_of (LL i) (nE i)) (LL i e) * 2 ^ 0) 0 dr (nE i)) f_16 (b + 9 + 3 * j) (ad (9 + 3 * j)) (ad (10 + 3 * j)) (ad (11 + 3 * j)) (LL j) (ww j) (nE j) (nI (nV j)) (op j) f_23 f_24 f_25 ⟨by omega, by omega, by omega, by omega⟩ (nE i) (cf_card 32 (me_of (LL i) (nE i))) (by omega) hl2j (by omega)) ⟨(kg_B (k := 3) hts tw_173 tw_170 tw_19 (by decide +kernel) rfl rfl ⟨Nat.le_of_ble_eq_true rfl, Nat.le_of_ble_eq_true rfl⟩), hts _ tw_172, hts _ tw_2⟩ (kx_preV hN hK hP hD rfl f_14) rfl rfl hl.1 rfl (lv_room (Nat.le_of_ble_eq_true rfl)) dX2_beside_90 ⟨Nat.le_of_ble_eq_true rfl, Nat.le_of_ble_eq_true rfl⟩) hD hS hA (fun u_34 H locs hp_32 hP hD hS => ?_)
          obtain ⟨hd9, hq⟩ := hp_32
          have f_35 : u_34[b]? = some (ad 0, .inr (2, [.ref (ad 1), .ref (ad 2), .ref (ad 5), .ref (ad 8)])) := by rw [hq _ (by omega)]; exact f_14
          have f_36 : u_34[b + 1]? = some (ad 1, .inl (k0 1, 8, .inr (.inr (.inr (.inr fq))))) := by rw [hq _ (by omega)]; exact f_15
          have f_37 : u_34[b + 8]? = some (ad 8, .inl (k0 0, 12, .inl (fun y9 => nI ((dp_d (fun e => pq_of (me_of (LL j) (nE j)) (LL j e) * 2 ^ cf_card 32 (me_of (LL i) (nE i))) (nE i) (dp_d (fun e => pq_of (me_of (LL i) (nE i)) (LL i e) * 2 ^ 0) 0 dr (nE i)) (nE j)) y9)))) := hd9
          have f_38 : u_34[b + 9 + 3 * t]? = some (ad (9 + 3 * t), .inr (1, [.ref (ad (10 + 3 * t)), .ref (ad (11 + 3 * t)), .int (nI (nE t)), .int (nI (nV t)), .int (op t)])) := by rw [hq _ (by omega)]; exact f_17
          have f_39 : u_34[b + 9 + 3 * t + 1]? = some (ad (10 + 3 * t), .inl (k0 0, 12, .inl (fun y9 => nI ((LL t) y9)))) := by rw [hq _ (by omega)]; exact f_18
          have f_40 : u_34[b + 9 + 3 * t + 2]? = some (ad (11 + 3 * t), .inl (k0 0, 12, .inl (ww t))) := by rw [hq _ (by omega)]; exact f_19
          have f_41 : u_34[b + 9 + 3 * i]? = some (ad (9 + 3 * i), .inr (1, [.ref (ad (10 + 3 * i)), .ref (ad (11 + 3 * i)), .int (nI (nE i)), .int (nI (nV i)), .int (op i)])) := by rw [hq _ (by omega)]; exact f_20
          have f_42 : u_34[b + 9 + 3 * i + 1]? = some (ad (10 + 3 * i), .inl (k0 0, 12, .inl (fun y9 => nI ((LL i) y9)))) := by rw [hq _ (by omega)]; exact f_21
          have f_43 : u_34[b + 9 + 3 * i + 2]? = some (ad (11 + 3 * i), .inl (k0 0, 12, .inl (ww i))) := by rw [hq _ (by omega)]; exact f_22
          have f_44 : u_34[b + 9 + 3 * j]? = some (ad (9 + 3 * j), .inr (1, [.ref (ad (10 + 3 * j)), .ref (ad (11 + 3 * j)), .int (nI (nE j)), .int (nI (nV j)), .int (op j)])) := by rw [hq _ (by omega)]; exact f_23
          have f_45 : u_34[b + 9 + 3 * j + 1]? = some (ad (10 + 3 * j), .inl (k0 0, 12, .inl (fun y9 => nI ((LL j) y9)))) := by rw [hq _ (by omega)]; exact f_24
          have f_46 : u_34[b + 9 + 3 * j + 2]? = some (ad (11 + 3 * j), .inl (k0 0, 12, .inl (ww j))) := by rw [hq _ (by omega)]; exact f_25
          have hfr : kx_fr w0 u_34 (fun j => j = b + 8) := kx_fr_tr hfr (kx_fr_mono hq (fun j h => h))
          have hC2 : atC u_34 b k0 ad nE nV op LL ww := atC_rest hC (kx_fr_mono hfr (fun j h => by omega)) ⟨r1, p1, k1, atF_fr ⟨hF1, hR1, hT1⟩ hfr ⟨by omega, by omega, by omega⟩⟩ ⟨r2, p2, k2, atF_fr ⟨hF2, hR2, hT2⟩ hfr ⟨by omega, by omega, by omega⟩⟩ ⟨_, f_37⟩
          refine lv_aload_n hx hb dX2_beside_93 rfl (lv_at hl 2 rfl) ?_
          refine va_get (D := D) (ci := 2) (v := .ref (ad 1)) (C := RX2) (T := TX2) (N := 4) hx hb hts inX2 hown hK hP b f_35 rfl 0 (by decide) (hts _ tw_78) (fun _ h9 => h9) rfl dX2_beside_94 ?_
          refine lv_iload_n hx hb dX2_beside_97 rfl (lv_at hl 3 rfl) ?_
          refine kx_qald hx hb hK hP (b + 1) 1 f_36 rfl (i := t) (r := (ad (9 + 3 * t))) (by omega) (by decide) (hfq _ (by omega)) dX2_beside_98 ?_
          refine lv_aload_n hx hb dX2_beside_99 rfl (lv_at hl 2 rfl) ?_
          refine va_get (D := D) (ci := 2) (v := .ref (ad 8)) (C := RX2) (T := TX2) (N := 4) hx hb hts inX2 hown hK hP b f_35 rfl 3 (by decide) (hts _ tw_81) (fun _ h9 => h9) rfl dX2_beside_100 ?_
          refine lv_iload hx hb dX2_beside_103 (lv_at hl 0 rfl) ?_
          refine kx_gov (va_runV (As := [.ref (ad 8), .int (nI (nE i + nE j))]) (rest := []) ⟨hx, hb, hml, hown, hts⟩ (c_become l D k0 u_34 _ (b + 9 + 3 * t) (ad (9 + 3 * t)) (ad (10 + 3 * t)) (ad (11 + 3 * t)) (LL t) (ww t) (nE t) (nI (nV t)) (op t) f_38 f_39 f_40 (b + 8) (ad 8) (dp_d (fun e => pq_of (me_of (LL j) (nE j)) (LL j e) * 2 ^ cf_card 32 (me_of (LL i) (nE i))) (nE i) (dp_d (fun e => pq_of (me_of (LL i) (nE i)) (LL i e) * 2 ^ 0) 0 dr (nE i)) (nE j)) f_37 (by omega) (nE i + nE j) (by omega)) ⟨(kg_B (k := 2) hts tw_164 tw_161 tw_21 (by decide +kernel) rfl rfl ⟨Nat.le_of_ble_eq_true rfl, Nat.le_of_ble_eq_true rfl⟩), hts _ tw_162, hts _ tw_163⟩ (kx_preV hN hK hP hD rfl f_38) rfl rfl hl.1 rfl (lv_room (Nat.le_of_ble_eq_true rfl)) dX2_beside_105 ⟨Nat.le_of_ble_eq_true rfl, Nat.le_of_ble_eq_true rfl⟩) hD hS hA (fun u_49 H locs hp_47 hP hD hS => ?_)
          obtain ⟨L9, f9, hg, hl9, hf9, hq9⟩ := hp_47
          refine lv_iload hx hb dX2_beside_108 (lv_at hl 0 rfl) ?_
          exact kx_iret (v := nI (nE i + nE j)) hx hb hr rfl hlocks hK hP hD hS dX2_beside_110 (⟨Or.inl ⟨t, i, j, h8t, h8i, h8j, h12, e_x, e_y, e_z, rfl, L9, f9, atC_put hC2 hq9 hg, fun k hk => by
                  rw [hl9 k hk]
                  unfold bs_L
                  by_cases c : k < nE i
                  · rw [if_pos c, dp_out (Or.inl c), dp_in (Nat.zero_le k) (by omega), Nat.sub_zero, Nat.pow_zero, Nat.mul_one]
                  · rw [if_neg c, dp_in (by omega) (by omega)], hf9⟩, kx_fr_tr (kx_fr_mono hfr (fun j h => by omega)) (kx_fr_mono hq9 (fun j h => by omega))⟩)
        · skip
          have hno : ¬ (∃ t i j, t < 8 ∧ i < 8 ∧ j < 8 ∧ nE i + nE j ≤ 12 ∧ x = nI t ∧ y = nI i ∧ z = nI j) := fun ⟨_, i2, j2, _, h1, h2, h3, _, h4, h5⟩ => by
            have hi2 : i2 = i := ((nI_eq (by omega) (by omega)).mp (h4.symm.trans e_y))
            subst hi2
            have hj2 : j2 = j := ((nI_eq (by omega) (by omega)).mp (h5.symm.trans e_z))
            subst hj2
            exact c_52 ((nI_leI (by omega) (by omega)).mpr h3)
          refine lv_iconst (v := -1) hx hb dX2_beside_55 (by decide +kernel) ?_
          exact kx_iret (v := -1) hx hb hr rfl hlocks hK hP hD hS dX2_beside_56 (⟨Or.inr ⟨hno, rfl, rfl⟩, kx_fr_rf _ _⟩)
      · skip
        have hno0 := kg_0 hy_z c_18
        have hno : ¬ (∃ t i j, t < 8 ∧ i < 8 ∧ j < 8 ∧ nE i + nE j ≤ 12 ∧ x = nI t ∧ y = nI i ∧ z = nI j) := fun ⟨_, _, j, _, _, h1, _, _, _, h2⟩ => hno0 ⟨j, h1, h2⟩
        refine lv_iconst (v := -1) hx hb dX2_beside_21 (by decide +kernel) ?_
        exact kx_iret (v := -1) hx hb hr rfl hlocks hK hP hD hS dX2_beside_22 (⟨Or.inr ⟨hno, rfl, rfl⟩, kx_fr_rf _ _⟩)
