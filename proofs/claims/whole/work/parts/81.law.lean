/-! THE LAW -/
theorem law_K {s : State} {args : Array Value} (hts : ∀ w ∈ lw_gd, w.before args s = true) (hao : va_AO RX1 s) : ∃ (D : va_G) (k0 : Nat → ClassId), va_K D vwCl (tyL k0) s := by
  obtain ⟨c0, i0, h0⟩ := u_known (C := RX0) (T := TX0) (N := 3) (n := 3) hts inX0 (hts _ tw_36)
  obtain ⟨c1, i1, h1⟩ := u_known (C := RX1) (T := TX1) (N := 5) (n := 5) hts inX1 (hts _ tw_52)
  obtain ⟨c2, i2, h2⟩ := u_known (C := RX2) (T := TX2) (N := 4) (n := 4) hts inX2 (hts _ tw_26)
  obtain ⟨c3, i3, h3⟩ := u_known (C := RX3) (T := TX3) (N := 10) (n := 10) hts inX3 (hts _ tw_245)
  obtain ⟨a0, k0, p0, x1, x2, x3⟩ := Cond.arrayClass_spec (hts (.arrayClass .int) tw_51)
  obtain ⟨p1, a1, k1, y1, _, y2, y3, y4⟩ := Cond.arrayOver_spec hao
  obtain ⟨a2, k2, p2, z1, z2, z3⟩ := Cond.arrayClass_spec (hts (.arrayClass .boolean) tw_281)
  obtain ⟨a3, k3, p3, w1, w2, w3⟩ := Cond.arrayClass_spec (hts (.arrayClass .byte) tw_282)
  refine ⟨(fun k => match k with | 0 => c0 | 1 => c1 | 2 => c2 | _ => c3, fun k => match k with | 0 => i0 | 1 => i1 | 2 => i2 | _ => i3), fun k => match k with | 0 => a0 | 1 => a1 | 2 => a2 | _ => a3, ?_, ?_⟩
  · intro k q hq
    match k, hq with
    | 0, hq => cases hq; exact h0
    | 1, hq => cases hq; exact h1
    | 2, hq => cases hq; exact h2
    | 3, hq => cases hq; exact h3
    | k + 4, hq => simp [vwCl] at hq
  · intro k q hq
    match k, hq with
    | 0, hq => cases hq; exact ⟨fun n z => ⟨fun k h => (by cases h), k0, x2, p0, x3⟩, x1⟩
    | 1, hq => cases hq; exact ⟨fun n z => ⟨fun k h => (by cases h), k1, y2, p1, y3⟩, k1, p1, y2, y3, y1, y4⟩
    | 2, hq => cases hq; exact ⟨fun n z => ⟨fun k h => (by cases h), k2, z2, p2, z3⟩, z1⟩
    | 3, hq => cases hq; exact ⟨fun n z => ⟨fun k h => (by cases h), k3, w2, p3, w3⟩, w1⟩
    | k + 4, hq => simp [tyL] at hq
theorem kx_sld {p : Program} {l : Launch} {e : Env} {R : Room} {s : State} {m : MethodId} {args : Array Value} {below : List Frame} {meth : Method} {c : Code} {H : Heap} {locs : List Loc} {cells slots : Nat} {Q : State → Prop} {pc : Nat} {ls : Array Slot} {rest : List Value} {A : Nat → Prop} {H0 : Heap} {cc : ByteArray} (hx : p.tables.exec = Jvm.exec) (hb : c.code = cc) {b L : Nat} {xs : Nat → Int32} (hX : va_X b L xs s H0) (hbl : b < H0.size) (hbA : ¬ A b) (hS : va_S A H0 H locs) {i : Nat} (hi : i < L) (hL : L < 2 ^ 31) (hdg : decode cc pc = .ok (.iaload, 1))
    (kk : W p l e R s m args below meth c H locs cells slots Q (F0 m (pc + 1) ls (.int (xs i) :: rest))) : W p l e R s m args below meth c H locs cells slots Q (F0 m pc ls (.int (nI i) :: .ref b :: rest)) := by
  refine va_sld hx hb hX hbl hbA hS (vp_in_nI hi hL) hdg ?_
  rw [nI_clamp (Nat.lt_trans hi hL)]
  exact kk

set_option maxHeartbeats 8000000 in
set_option maxRecDepth 100000 in
theorem law_loop {p : Program} {e : Env} {s : State} {m : MethodId} {below : List Frame} {meth : Method} {c : Code} {l : Launch} {b L : Nat} {xs : Nat → Int32} (hL : L ≤ 2560) (C0 : lw_At p s m meth c b L xs) {D : va_G} {k0 : Nat → ClassId} (hN : kx_nest s) (hK : va_K D vwCl (tyL k0) s) :
    ∀ (n i9 : Nat), L + 5 + 1 ≤ i9 + n → i9 ≤ L + 5 → ∀ (o o2 : Nat) (w0 : va_W), St k0 o o2 w0 → ∀ (H : Heap) (locs : List Loc), va_P D vwCl w0 H → va_D (fun q : Nat => s.heap.size ≤ q) w0 → va_S (fun q : Nat => s.heap.size ≤ q) s.heap H locs → ∀ (ls : Array Slot), lv_has ls 4 [(0, .ref b), (1, .ref o), (2, .ref o2), (3, .int (nI i9))] → W p l e room_1 s m #[Value.ref b] below meth c H locs 43 8880 (lw_Z below #[Value.ref b] s) (F0 m 18 ls []) := by
  obtain ⟨hx, hb, hr, hml, hown, hts0, hX, hbl, hlocks, hgv⟩ := C0
  have hown : s.vm.findClass RL = some m.cls := hown
  have hts : ∀ w ∈ lw_gd, w.before #[Value.ref b] s = true := fun w h => hts0 w (List.mem_filter.mp h).1
  have hA : ∀ q : Nat, s.heap.size ≤ q → (fun q : Nat => s.heap.size ≤ q) q := fun _ h => h
  have hbA : ¬ (fun q : Nat => s.heap.size ≤ q) b := Nat.not_le.mpr hbl
  intro n
  induction n with
  | zero => intro i9 h1 h2; exact absurd h1 (by omega)
  | succ n ih =>
    intro i9 hme hi9 o o2 w0 hst0 H locs hP hD hS ls hl
    obtain ⟨ad, nE, nV, op, LL, ww, am, mv, mc, mo, me, mw, mm, mk, mn, fb, sb, ho, ho2, hC, hM, hI⟩ := id hst0
    subst ho; subst ho2
    refine lv_iload_n hx hb dL_law_18 rfl (lv_at hl 3 rfl) ?_
    refine lv_aload_n hx hb dL_law_19 rfl (lv_at hl 0 rfl) ?_
    refine va_slen hx hb hX hbl hbA hS dL_law_20 ?_
    refine lv_iconst (v := nI 5) hx hb dL_law_21 (by decide +kernel) ?_
    refine lv_isub hx hb dL_law_22 ?_
    refine lv_icmp_gt (tgt := 507) hx hb dL_law_23 (by decide) (fun c_23 => ?_) (fun c_23 => ?_)
    · skip
      refine lv_iconst (v := 1) hx hb dL_law_507 (by decide) ?_
      refine va_forget (fun q hq => hS.2.2 q hq) ?_
      refine W.widen (k := 600000) (n := 7302250) (by omega) (by omega) ?_
      exact lw_ret hx hb hr hlocks dL_law_508
    · skip
      have hi5 : i9 + 5 ≤ L := by
        have h9 : ¬ (nI L - nI 5).toInt < (nI i9).toInt := fun h => c_23 (Int32.lt_iff_toInt_lt.mpr h)
        rw [pk_sub_toInt (by omega) (by omega), nI_toInt (by omega)] at h9
        omega
      refine lv_aload_n hx hb dL_law_26 rfl (lv_at hl 0 rfl) ?_
      refine lv_iload_n hx hb dL_law_27 rfl (lv_at hl 3 rfl) ?_
      refine kx_sld hx hb hX hbl hbA hS (i := i9) (by omega) (by omega) dL_law_28 ?_
      refine lv_bipush (v := nI 15) hx hb dL_law_29 (by decide +kernel) ?_
      refine lv_iand hx hb dL_law_31 ?_
      obtain ⟨j9, hj9, ej9⟩ := pk_andE (xs i9) (m := nI 15) 4 (by decide)
      refine lv_topi (fun z9 ez9 => ?_)
      rw [ej9] at ez9
      subst ez9
      rcases (show j9 = 0 ∨ j9 = 1 ∨ j9 = 2 ∨ j9 = 3 ∨ j9 = 4 ∨ j9 = 5 ∨ j9 = 6 ∨ j9 = 7 ∨ j9 = 8 ∨ j9 = 9 ∨ j9 = 10 ∨ 11 ≤ j9 by omega) with rfl | rfl | rfl | rfl | rfl | rfl | rfl | rfl | rfl | rfl | rfl | h11
      · refine lv_tableIn (off := 60) (tgt := 92) hx hb dL_law_32 (by decide) (by decide) (by decide +kernel) (by decide) ?_
        refine lv_aload_n hx hb dL_law_92 rfl (lv_at hl 1 rfl) ?_
        refine lv_aload_n hx hb dL_law_93 rfl (lv_at hl 0 rfl) ?_
        refine lv_iload_n hx hb dL_law_94 rfl (lv_at hl 3 rfl) ?_
        refine lv_iconst (v := nI 1) hx hb dL_law_95 (by decide +kernel) ?_
        refine lv_iadd hx hb dL_law_96 ?_
        refine lv_topi (fun z_1 ez_1 => ?_)
        have ez_1 : z_1 = nI (i9 + 1) := by rw [ez_1]; exact nI_add _ _
        subst ez_1
        refine kx_sld hx hb hX hbl hbA hS (i := (i9 + 1)) (by omega) (by omega) dL_law_97 ?_
        refine lv_aload_n hx hb dL_law_98 rfl (lv_at hl 0 rfl) ?_
        refine lv_iload_n hx hb dL_law_99 rfl (lv_at hl 3 rfl) ?_
        refine lv_iconst (v := nI 2) hx hb dL_law_100 (by decide +kernel) ?_
        refine lv_iadd hx hb dL_law_101 ?_
        refine lv_topi (fun z_2 ez_2 => ?_)
        have ez_2 : z_2 = nI (i9 + 2) := by rw [ez_2]; exact nI_add _ _
        subst ez_2
        refine kx_sld hx hb hX hbl hbA hS (i := (i9 + 2)) (by omega) (by omega) dL_law_102 ?_
        refine kx_goi (va_runV (As := [.int (xs (i9 + 1)), .int (xs (i9 + 2))]) (rest := []) ⟨hx, hb, hml, hown, hts⟩ (c_begin l D k0 w0 _ 0 ad nE nV op LL ww hC (inv_c hI) (xs (i9 + 1)) (xs (i9 + 2))) ⟨(kg_B (k := 2) hts tw_94 tw_91 tw_19 (by decide +kernel) rfl rfl ⟨Nat.le_of_ble_eq_true rfl, Nat.le_of_ble_eq_true rfl⟩), hts _ tw_92, hts _ tw_93⟩ (kx_preV hN hK hP hD rfl hC.1) rfl rfl hl.1 rfl (lv_room (Nat.le_of_ble_eq_true rfl)) dL_law_103 ⟨Nat.le_of_ble_eq_true rfl, Nat.le_of_ble_eq_true rfl⟩) hD hS hA (fun r_4 u_5 H locs hp_3 hP hD hS => ?_)
        have hM1 := atM_fr hM hp_3.2 (fun j h1 h2 h3 => by omega)
        refine lv_aload_n hx hb dL_law_106 rfl (lv_at hl 2 rfl) ?_
        refine lv_aload_n hx hb dL_law_107 rfl (lv_at hl 0 rfl) ?_
        refine lv_iload_n hx hb dL_law_108 rfl (lv_at hl 3 rfl) ?_
        refine lv_iconst (v := nI 1) hx hb dL_law_109 (by decide +kernel) ?_
        refine lv_iadd hx hb dL_law_110 ?_
        refine lv_topi (fun z_6 ez_6 => ?_)
        have ez_6 : z_6 = nI (i9 + 1) := by rw [ez_6]; exact nI_add _ _
        subst ez_6
        refine kx_sld hx hb hX hbl hbA hS (i := (i9 + 1)) (by omega) (by omega) dL_law_111 ?_
        refine lv_aload_n hx hb dL_law_112 rfl (lv_at hl 0 rfl) ?_
        refine lv_iload_n hx hb dL_law_113 rfl (lv_at hl 3 rfl) ?_
        refine lv_iconst (v := nI 2) hx hb dL_law_114 (by decide +kernel) ?_
        refine lv_iadd hx hb dL_law_115 ?_
        refine lv_topi (fun z_7 ez_7 => ?_)
        have ez_7 : z_7 = nI (i9 + 2) := by rw [ez_7]; exact nI_add _ _
        subst ez_7
        refine kx_sld hx hb hX hbl hbA hS (i := (i9 + 2)) (by omega) (by omega) dL_law_116 ?_
        refine kx_goi (va_runV (As := [.int (xs (i9 + 1)), .int (xs (i9 + 2))]) (rest := [.int r_4]) ⟨hx, hb, hml, hown, hts⟩ (m_begin l D k0 u_5 _ 33 am mv mc mo me mw mm mk mn fb sb hM1 (inv_m hI) (xs (i9 + 1)) (xs (i9 + 2))) ⟨(kg_B (k := 2) hts tw_286 tw_283 tw_22 (by decide +kernel) rfl rfl ⟨Nat.le_of_ble_eq_true rfl, Nat.le_of_ble_eq_true rfl⟩), hts _ tw_284, hts _ tw_285⟩ (kx_preV hN hK hP hD rfl hM1.1) rfl rfl hl.1 rfl (lv_room (Nat.le_of_ble_eq_true rfl)) dL_law_117 ⟨Nat.le_of_ble_eq_true rfl, Nat.le_of_ble_eq_true rfl⟩) hD hS hA (fun r_9 u_10 H locs hp_8 hP hD hS => ?_)
        obtain ⟨hrr, hst⟩ := sp_begin hC hM1 hI hp_3 hp_8
        refine lv_icmp_eq (tgt := 501) hx hb dL_law_120 (by decide) (fun c_120 => ?_) (fun c_120 => ?_)
        · skip
          refine lv_iinc (v := nI (i9 + 5)) (lv' := [(3, .int (nI (i9 + 5))), (0, .ref b), (1, .ref (ad 0)), (2, .ref (am 0))]) hx hb dL_law_501 hl (k := 3) rfl (by rw [show Int32.ofInt 5 = nI 5 by decide]; exact nI_add _ _) (by decide) rfl (fun ls hl => ?_)
          refine lv_goto (tgt := 18) hx hb dL_law_504 (by decide) ?_
          exact ih (i9 + 5) (by omega) (by omega) _ _ _ hst _ _ hP hD hS _ (lv_sub hl [1, 2, 3, 0] rfl)
        · skip
          exact absurd hrr c_120
      · refine lv_tableIn (off := 93) (tgt := 125) hx hb dL_law_32 (by decide) (by decide) (by decide +kernel) (by decide) ?_
        refine lv_aload_n hx hb dL_law_125 rfl (lv_at hl 1 rfl) ?_
        refine lv_aload_n hx hb dL_law_126 rfl (lv_at hl 0 rfl) ?_
        refine lv_iload_n hx hb dL_law_127 rfl (lv_at hl 3 rfl) ?_
        refine lv_iconst (v := nI 1) hx hb dL_law_128 (by decide +kernel) ?_
        refine lv_iadd hx hb dL_law_129 ?_
        refine lv_topi (fun z_11 ez_11 => ?_)
        have ez_11 : z_11 = nI (i9 + 1) := by rw [ez_11]; exact nI_add _ _
        subst ez_11
        refine kx_sld hx hb hX hbl hbA hS (i := (i9 + 1)) (by omega) (by omega) dL_law_130 ?_
        refine lv_aload_n hx hb dL_law_131 rfl (lv_at hl 0 rfl) ?_
        refine lv_iload_n hx hb dL_law_132 rfl (lv_at hl 3 rfl) ?_
        refine lv_iconst (v := nI 2) hx hb dL_law_133 (by decide +kernel) ?_
        refine lv_iadd hx hb dL_law_134 ?_
        refine lv_topi (fun z_12 ez_12 => ?_)
        have ez_12 : z_12 = nI (i9 + 2) := by rw [ez_12]; exact nI_add _ _
        subst ez_12
        refine kx_sld hx hb hX hbl hbA hS (i := (i9 + 2)) (by omega) (by omega) dL_law_135 ?_
        refine lv_aload_n hx hb dL_law_136 rfl (lv_at hl 0 rfl) ?_
        refine lv_iload_n hx hb dL_law_137 rfl (lv_at hl 3 rfl) ?_
        refine lv_iconst (v := nI 3) hx hb dL_law_138 (by decide +kernel) ?_
        refine lv_iadd hx hb dL_law_139 ?_
        refine lv_topi (fun z_13 ez_13 => ?_)
        have ez_13 : z_13 = nI (i9 + 3) := by rw [ez_13]; exact nI_add _ _
        subst ez_13
        refine kx_sld hx hb hX hbl hbA hS (i := (i9 + 3)) (by omega) (by omega) dL_law_140 ?_
        refine kx_goi (va_runV (As := [.int (xs (i9 + 1)), .int (xs (i9 + 2)), .int (xs (i9 + 3))]) (rest := []) ⟨hx, hb, hml, hown, hts⟩ (c_add l D k0 w0 _ 0 ad nE nV op LL ww hC (inv_c hI) (xs (i9 + 1)) (xs (i9 + 2)) (xs (i9 + 3))) ⟨(kg_B (k := 3) hts tw_105 tw_102 tw_19 (by decide +kernel) rfl rfl ⟨Nat.le_of_ble_eq_true rfl, Nat.le_of_ble_eq_true rfl⟩), hts _ tw_103, hts _ tw_104⟩ (kx_preV hN hK hP hD rfl hC.1) rfl rfl hl.1 rfl (lv_room (Nat.le_of_ble_eq_true rfl)) dL_law_141 ⟨Nat.le_of_ble_eq_true rfl, Nat.le_of_ble_eq_true rfl⟩) hD hS hA (fun r_15 u_16 H locs hp_14 hP hD hS => ?_)
        have hM1 := atM_fr hM hp_14.2 (fun j h1 h2 h3 => by omega)
        refine lv_aload_n hx hb dL_law_144 rfl (lv_at hl 2 rfl) ?_
        refine lv_aload_n hx hb dL_law_145 rfl (lv_at hl 0 rfl) ?_
        refine lv_iload_n hx hb dL_law_146 rfl (lv_at hl 3 rfl) ?_
        refine lv_iconst (v := nI 1) hx hb dL_law_147 (by decide +kernel) ?_
        refine lv_iadd hx hb dL_law_148 ?_
        refine lv_topi (fun z_17 ez_17 => ?_)
        have ez_17 : z_17 = nI (i9 + 1) := by rw [ez_17]; exact nI_add _ _
        subst ez_17
        refine kx_sld hx hb hX hbl hbA hS (i := (i9 + 1)) (by omega) (by omega) dL_law_149 ?_
        refine lv_aload_n hx hb dL_law_150 rfl (lv_at hl 0 rfl) ?_
        refine lv_iload_n hx hb dL_law_151 rfl (lv_at hl 3 rfl) ?_
        refine lv_iconst (v := nI 2) hx hb dL_law_152 (by decide +kernel) ?_
        refine lv_iadd hx hb dL_law_153 ?_
        refine lv_topi (fun z_18 ez_18 => ?_)
        have ez_18 : z_18 = nI (i9 + 2) := by rw [ez_18]; exact nI_add _ _
        subst ez_18
        refine kx_sld hx hb hX hbl hbA hS (i := (i9 + 2)) (by omega) (by omega) dL_law_154 ?_
        refine lv_aload_n hx hb dL_law_155 rfl (lv_at hl 0 rfl) ?_
        refine lv_iload_n hx hb dL_law_156 rfl (lv_at hl 3 rfl) ?_
        refine lv_iconst (v := nI 3) hx hb dL_law_157 (by decide +kernel) ?_
        refine lv_iadd hx hb dL_law_158 ?_
        refine lv_topi (fun z_19 ez_19 => ?_)
        have ez_19 : z_19 = nI (i9 + 3) := by rw [ez_19]; exact nI_add _ _
        subst ez_19
        refine kx_sld hx hb hX hbl hbA hS (i := (i9 + 3)) (by omega) (by omega) dL_law_159 ?_
        refine kx_goi (va_runV (As := [.int (xs (i9 + 1)), .int (xs (i9 + 2)), .int (xs (i9 + 3))]) (rest := [.int r_15]) ⟨hx, hb, hml, hown, hts⟩ (m_add l D k0 u_16 _ 33 am mv mc mo me mw mm mk mn fb sb hM1 (inv_m hI) (xs (i9 + 1)) (xs (i9 + 2)) (xs (i9 + 3))) ⟨(kg_B (k := 3) hts tw_293 tw_290 tw_22 (by decide +kernel) rfl rfl ⟨Nat.le_of_ble_eq_true rfl, Nat.le_of_ble_eq_true rfl⟩), hts _ tw_291, hts _ tw_292⟩ (kx_preV hN hK hP hD rfl hM1.1) rfl rfl hl.1 rfl (lv_room (Nat.le_of_ble_eq_true rfl)) dL_law_160 ⟨Nat.le_of_ble_eq_true rfl, Nat.le_of_ble_eq_true rfl⟩) hD hS hA (fun r_21 u_22 H locs hp_20 hP hD hS => ?_)
        obtain ⟨hrr, hst⟩ := sp_add hC hM1 hI hp_14 hp_20
        refine lv_icmp_eq (tgt := 501) hx hb dL_law_163 (by decide) (fun c_163 => ?_) (fun c_163 => ?_)
        · skip
          refine lv_iinc (v := nI (i9 + 5)) (lv' := [(3, .int (nI (i9 + 5))), (0, .ref b), (1, .ref (ad 0)), (2, .ref (am 0))]) hx hb dL_law_501 hl (k := 3) rfl (by rw [show Int32.ofInt 5 = nI 5 by decide]; exact nI_add _ _) (by decide) rfl (fun ls hl => ?_)
          refine lv_goto (tgt := 18) hx hb dL_law_504 (by decide) ?_
          exact ih (i9 + 5) (by omega) (by omega) _ _ _ hst _ _ hP hD hS _ (lv_sub hl [1, 2, 3, 0] rfl)
        · skip
          exact absurd hrr c_163
      · refine lv_tableIn (off := 136) (tgt := 168) hx hb dL_law_32 (by decide) (by decide) (by decide +kernel) (by decide) ?_
        refine lv_aload_n hx hb dL_law_168 rfl (lv_at hl 1 rfl) ?_
        refine lv_aload_n hx hb dL_law_169 rfl (lv_at hl 0 rfl) ?_
        refine lv_iload_n hx hb dL_law_170 rfl (lv_at hl 3 rfl) ?_
        refine lv_iconst (v := nI 1) hx hb dL_law_171 (by decide +kernel) ?_
        refine lv_iadd hx hb dL_law_172 ?_
        refine lv_topi (fun z_23 ez_23 => ?_)
        have ez_23 : z_23 = nI (i9 + 1) := by rw [ez_23]; exact nI_add _ _
        subst ez_23
        refine kx_sld hx hb hX hbl hbA hS (i := (i9 + 1)) (by omega) (by omega) dL_law_173 ?_
        refine lv_aload_n hx hb dL_law_174 rfl (lv_at hl 0 rfl) ?_
        refine lv_iload_n hx hb dL_law_175 rfl (lv_at hl 3 rfl) ?_
        refine lv_iconst (v := nI 2) hx hb dL_law_176 (by decide +kernel) ?_
        refine lv_iadd hx hb dL_law_177 ?_
        refine lv_topi (fun z_24 ez_24 => ?_)
        have ez_24 : z_24 = nI (i9 + 2) := by rw [ez_24]; exact nI_add _ _
        subst ez_24
        refine kx_sld hx hb hX hbl hbA hS (i := (i9 + 2)) (by omega) (by omega) dL_law_178 ?_
        refine lv_aload_n hx hb dL_law_179 rfl (lv_at hl 0 rfl) ?_
        refine lv_iload_n hx hb dL_law_180 rfl (lv_at hl 3 rfl) ?_
        refine lv_iconst (v := nI 3) hx hb dL_law_181 (by decide +kernel) ?_
        refine lv_iadd hx hb dL_law_182 ?_
        refine lv_topi (fun z_25 ez_25 => ?_)
        have ez_25 : z_25 = nI (i9 + 3) := by rw [ez_25]; exact nI_add _ _
        subst ez_25
        refine kx_sld hx hb hX hbl hbA hS (i := (i9 + 3)) (by omega) (by omega) dL_law_183 ?_
        refine kx_goi (va_runV (As := [.int (xs (i9 + 1)), .int (xs (i9 + 2)), .int (xs (i9 + 3))]) (rest := []) ⟨hx, hb, hml, hown, hts⟩ (c_weigh l D k0 w0 _ 0 ad nE nV op LL ww hC (inv_c hI) (xs (i9 + 1)) (xs (i9 + 2)) (xs (i9 + 3))) ⟨(kg_B (k := 3) hts tw_117 tw_114 tw_19 (by decide +kernel) rfl rfl ⟨Nat.le_of_ble_eq_true rfl, Nat.le_of_ble_eq_true rfl⟩), hts _ tw_115, hts _ tw_116⟩ (kx_preV hN hK hP hD rfl hC.1) rfl rfl hl.1 rfl (lv_room (Nat.le_of_ble_eq_true rfl)) dL_law_184 ⟨Nat.le_of_ble_eq_true rfl, Nat.le_of_ble_eq_true rfl⟩) hD hS hA (fun r_27 u_28 H locs hp_26 hP hD hS => ?_)
        have hM1 := atM_fr hM hp_26.2 (fun j h1 h2 h3 => by omega)
        refine lv_aload_n hx hb dL_law_187 rfl (lv_at hl 2 rfl) ?_
        refine lv_aload_n hx hb dL_law_188 rfl (lv_at hl 0 rfl) ?_
        refine lv_iload_n hx hb dL_law_189 rfl (lv_at hl 3 rfl) ?_
        refine lv_iconst (v := nI 1) hx hb dL_law_190 (by decide +kernel) ?_
        refine lv_iadd hx hb dL_law_191 ?_
        refine lv_topi (fun z_29 ez_29 => ?_)
        have ez_29 : z_29 = nI (i9 + 1) := by rw [ez_29]; exact nI_add _ _
        subst ez_29
        refine kx_sld hx hb hX hbl hbA hS (i := (i9 + 1)) (by omega) (by omega) dL_law_192 ?_
        refine lv_aload_n hx hb dL_law_193 rfl (lv_at hl 0 rfl) ?_
        refine lv_iload_n hx hb dL_law_194 rfl (lv_at hl 3 rfl) ?_
        refine lv_iconst (v := nI 2) hx hb dL_law_195 (by decide +kernel) ?_
        refine lv_iadd hx hb dL_law_196 ?_
        refine lv_topi (fun z_30 ez_30 => ?_)
        have ez_30 : z_30 = nI (i9 + 2) := by rw [ez_30]; exact nI_add _ _
        subst ez_30
        refine kx_sld hx hb hX hbl hbA hS (i := (i9 + 2)) (by omega) (by omega) dL_law_197 ?_
        refine lv_aload_n hx hb dL_law_198 rfl (lv_at hl 0 rfl) ?_
        refine lv_iload_n hx hb dL_law_199 rfl (lv_at hl 3 rfl) ?_
        refine lv_iconst (v := nI 3) hx hb dL_law_200 (by decide +kernel) ?_
        refine lv_iadd hx hb dL_law_201 ?_
        refine lv_topi (fun z_31 ez_31 => ?_)
        have ez_31 : z_31 = nI (i9 + 3) := by rw [ez_31]; exact nI_add _ _
        subst ez_31
        refine kx_sld hx hb hX hbl hbA hS (i := (i9 + 3)) (by omega) (by omega) dL_law_202 ?_
        refine kx_goi (va_runV (As := [.int (xs (i9 + 1)), .int (xs (i9 + 2)), .int (xs (i9 + 3))]) (rest := [.int r_27]) ⟨hx, hb, hml, hown, hts⟩ (m_weigh l D k0 u_28 _ 33 am mv mc mo me mw mm mk mn fb sb hM1 (inv_m hI) (xs (i9 + 1)) (xs (i9 + 2)) (xs (i9 + 3))) ⟨(kg_B (k := 3) hts tw_297 tw_294 tw_22 (by decide +kernel) rfl rfl ⟨Nat.le_of_ble_eq_true rfl, Nat.le_of_ble_eq_true rfl⟩), hts _ tw_295, hts _ tw_296⟩ (kx_preV hN hK hP hD rfl hM1.1) rfl rfl hl.1 rfl (lv_room (Nat.le_of_ble_eq_true rfl)) dL_law_203 ⟨Nat.le_of_ble_eq_true rfl, Nat.le_of_ble_eq_true rfl⟩) hD hS hA (fun r_33 u_34 H locs hp_32 hP hD hS => ?_)
        obtain ⟨hrr, hst⟩ := sp_weigh hC hM1 hI hp_26 hp_32
        refine lv_icmp_eq (tgt := 501) hx hb dL_law_206 (by decide) (fun c_206 => ?_) (fun c_206 => ?_)
        · skip
          refine lv_iinc (v := nI (i9 + 5)) (lv' := [(3, .int (nI (i9 + 5))), (0, .ref b), (1, .ref (ad 0)), (2, .ref (am 0))]) hx hb dL_law_501 hl (k := 3) rfl (by rw [show Int32.ofInt 5 = nI 5 by decide]; exact nI_add _ _) (by decide) rfl (fun ls hl => ?_)
          refine lv_goto (tgt := 18) hx hb dL_law_504 (by decide) ?_
          exact ih (i9 + 5) (by omega) (by omega) _ _ _ hst _ _ hP hD hS _ (lv_sub hl [1, 2, 3, 0] rfl)
        · skip
          exact absurd hrr c_206
      · refine lv_tableIn (off := 179) (tgt := 211) hx hb dL_law_32 (by decide) (by decide) (by decide +kernel) (by decide) ?_
        refine lv_aload_n hx hb dL_law_211 rfl (lv_at hl 1 rfl) ?_
        refine lv_aload_n hx hb dL_law_212 rfl (lv_at hl 0 rfl) ?_
        refine lv_iload_n hx hb dL_law_213 rfl (lv_at hl 3 rfl) ?_
        refine lv_iconst (v := nI 1) hx hb dL_law_214 (by decide +kernel) ?_
        refine lv_iadd hx hb dL_law_215 ?_
        refine lv_topi (fun z_35 ez_35 => ?_)
        have ez_35 : z_35 = nI (i9 + 1) := by rw [ez_35]; exact nI_add _ _
        subst ez_35
        refine kx_sld hx hb hX hbl hbA hS (i := (i9 + 1)) (by omega) (by omega) dL_law_216 ?_
        refine lv_aload_n hx hb dL_law_217 rfl (lv_at hl 0 rfl) ?_
        refine lv_iload_n hx hb dL_law_218 rfl (lv_at hl 3 rfl) ?_
        refine lv_iconst (v := nI 2) hx hb dL_law_219 (by decide +kernel) ?_
        refine lv_iadd hx hb dL_law_220 ?_
        refine lv_topi (fun z_36 ez_36 => ?_)
        have ez_36 : z_36 = nI (i9 + 2) := by rw [ez_36]; exact nI_add _ _
        subst ez_36
        refine kx_sld hx hb hX hbl hbA hS (i := (i9 + 2)) (by omega) (by omega) dL_law_221 ?_
        refine lv_aload_n hx hb dL_law_222 rfl (lv_at hl 0 rfl) ?_
        refine lv_iload_n hx hb dL_law_223 rfl (lv_at hl 3 rfl) ?_
        refine lv_iconst (v := nI 3) hx hb dL_law_224 (by decide +kernel) ?_
        refine lv_iadd hx hb dL_law_225 ?_
        refine lv_topi (fun z_37 ez_37 => ?_)
        have ez_37 : z_37 = nI (i9 + 3) := by rw [ez_37]; exact nI_add _ _
        subst ez_37
        refine kx_sld hx hb hX hbl hbA hS (i := (i9 + 3)) (by omega) (by omega) dL_law_226 ?_
        refine lv_aload_n hx hb dL_law_227 rfl (lv_at hl 0 rfl) ?_
        refine lv_iload_n hx hb dL_law_228 rfl (lv_at hl 3 rfl) ?_
        refine lv_iconst (v := nI 4) hx hb dL_law_229 (by decide +kernel) ?_
        refine lv_iadd hx hb dL_law_230 ?_
        refine lv_topi (fun z_38 ez_38 => ?_)
        have ez_38 : z_38 = nI (i9 + 4) := by rw [ez_38]; exact nI_add _ _
        subst ez_38
        refine kx_sld hx hb hX hbl hbA hS (i := (i9 + 4)) (by omega) (by omega) dL_law_231 ?_
        refine lv_if_eq (tgt := 239) hx hb dL_law_232 (by decide) (fun c_232 => ?_) (fun c_232 => ?_)
        · skip
          refine lv_iconst (v := 0) hx hb dL_law_239 (by decide +kernel) ?_
          refine kx_goi (va_runV (As := [.int (xs (i9 + 1)), .int (xs (i9 + 2)), .int (xs (i9 + 3)), .int 0]) (rest := []) ⟨hx, hb, hml, hown, hts⟩ (c_leave l D k0 w0 _ 0 ad nE nV op LL ww hC (inv_c hI) (xs (i9 + 1)) (xs (i9 + 2)) (xs (i9 + 3)) 0) ⟨(kg_B (k := 4) hts tw_125 tw_122 tw_19 (by decide +kernel) rfl rfl ⟨Nat.le_of_ble_eq_true rfl, Nat.le_of_ble_eq_true rfl⟩), hts _ tw_123, hts _ tw_124⟩ (kx_preV hN hK hP hD rfl hC.1) rfl rfl hl.1 rfl (lv_room (Nat.le_of_ble_eq_true rfl)) dL_law_240 ⟨Nat.le_of_ble_eq_true rfl, Nat.le_of_ble_eq_true rfl⟩) hD hS hA (fun r_40 u_41 H locs hp_39 hP hD hS => ?_)
          have hM1 := atM_fr hM hp_39.2 (fun j h1 h2 h3 => by omega)
          refine lv_aload_n hx hb dL_law_243 rfl (lv_at hl 2 rfl) ?_
          refine lv_aload_n hx hb dL_law_244 rfl (lv_at hl 0 rfl) ?_
          refine lv_iload_n hx hb dL_law_245 rfl (lv_at hl 3 rfl) ?_
          refine lv_iconst (v := nI 1) hx hb dL_law_246 (by decide +kernel) ?_
          refine lv_iadd hx hb dL_law_247 ?_
          refine lv_topi (fun z_42 ez_42 => ?_)
          have ez_42 : z_42 = nI (i9 + 1) := by rw [ez_42]; exact nI_add _ _
          subst ez_42
          refine kx_sld hx hb hX hbl hbA hS (i := (i9 + 1)) (by omega) (by omega) dL_law_248 ?_
          refine lv_aload_n hx hb dL_law_249 rfl (lv_at hl 0 rfl) ?_
          refine lv_iload_n hx hb dL_law_250 rfl (lv_at hl 3 rfl) ?_
          refine lv_iconst (v := nI 2) hx hb dL_law_251 (by decide +kernel) ?_
          refine lv_iadd hx hb dL_law_252 ?_
          refine lv_topi (fun z_43 ez_43 => ?_)
          have ez_43 : z_43 = nI (i9 + 2) := by rw [ez_43]; exact nI_add _ _
          subst ez_43
          refine kx_sld hx hb hX hbl hbA hS (i := (i9 + 2)) (by omega) (by omega) dL_law_253 ?_
          refine lv_aload_n hx hb dL_law_254 rfl (lv_at hl 0 rfl) ?_
          refine lv_iload_n hx hb dL_law_255 rfl (lv_at hl 3 rfl) ?_
          refine lv_iconst (v := nI 3) hx hb dL_law_256 (by decide +kernel) ?_
          refine lv_iadd hx hb dL_law_257 ?_
          refine lv_topi (fun z_44 ez_44 => ?_)
          have ez_44 : z_44 = nI (i9 + 3) := by rw [ez_44]; exact nI_add _ _
          subst ez_44
          refine kx_sld hx hb hX hbl hbA hS (i := (i9 + 3)) (by omega) (by omega) dL_law_258 ?_
          refine lv_aload_n hx hb dL_law_259 rfl (lv_at hl 0 rfl) ?_
          refine lv_iload_n hx hb dL_law_260 rfl (lv_at hl 3 rfl) ?_
          refine lv_iconst (v := nI 4) hx hb dL_law_261 (by decide +kernel) ?_
          refine lv_iadd hx hb dL_law_262 ?_
          refine lv_topi (fun z_45 ez_45 => ?_)
          have ez_45 : z_45 = nI (i9 + 4) := by rw [ez_45]; exact nI_add _ _
          subst ez_45
          refine kx_sld hx hb hX hbl hbA hS (i := (i9 + 4)) (by omega) (by omega) dL_law_263 ?_
          refine lv_if_eq (tgt := 271) hx hb dL_law_264 (by decide) (fun c_264 => ?_) (fun c_264 => ?_)
          · skip
            refine lv_iconst (v := 0) hx hb dL_law_271 (by decide +kernel) ?_
            refine kx_goi (va_runV (As := [.int (xs (i9 + 1)), .int (xs (i9 + 2)), .int (xs (i9 + 3)), .int 0]) (rest := [.int r_40]) ⟨hx, hb, hml, hown, hts⟩ (m_leave l D k0 u_41 _ 33 am mv mc mo me mw mm mk mn fb sb hM1 (inv_m hI) (xs (i9 + 1)) (xs (i9 + 2)) (xs (i9 + 3)) 0) ⟨(kg_B (k := 4) hts tw_305 tw_302 tw_22 (by decide +kernel) rfl rfl ⟨Nat.le_of_ble_eq_true rfl, Nat.le_of_ble_eq_true rfl⟩), hts _ tw_303, hts _ tw_304⟩ (kx_preV hN hK hP hD rfl hM1.1) rfl rfl hl.1 rfl (lv_room (Nat.le_of_ble_eq_true rfl)) dL_law_272 ⟨Nat.le_of_ble_eq_true rfl, Nat.le_of_ble_eq_true rfl⟩) hD hS hA (fun r_47 u_48 H locs hp_46 hP hD hS => ?_)
            obtain ⟨hrr, hst⟩ := sp_leave hC hM1 hI hp_39 hp_46
            refine lv_icmp_eq (tgt := 501) hx hb dL_law_275 (by decide) (fun c_275 => ?_) (fun c_275 => ?_)
            · skip
              refine lv_iinc (v := nI (i9 + 5)) (lv' := [(3, .int (nI (i9 + 5))), (0, .ref b), (1, .ref (ad 0)), (2, .ref (am 0))]) hx hb dL_law_501 hl (k := 3) rfl (by rw [show Int32.ofInt 5 = nI 5 by decide]; exact nI_add _ _) (by decide) rfl (fun ls hl => ?_)
              refine lv_goto (tgt := 18) hx hb dL_law_504 (by decide) ?_
              exact ih (i9 + 5) (by omega) (by omega) _ _ _ hst _ _ hP hD hS _ (lv_sub hl [1, 2, 3, 0] rfl)
            · skip
              exact absurd hrr c_275
          · skip
            exact absurd c_232 c_264
        · skip
          refine lv_iconst (v := 1) hx hb dL_law_235 (by decide +kernel) ?_
          refine lv_goto (tgt := 240) hx hb dL_law_236 (by decide) ?_
          refine kx_goi (va_runV (As := [.int (xs (i9 + 1)), .int (xs (i9 + 2)), .int (xs (i9 + 3)), .int 1]) (rest := []) ⟨hx, hb, hml, hown, hts⟩ (c_leave l D k0 w0 _ 0 ad nE nV op LL ww hC (inv_c hI) (xs (i9 + 1)) (xs (i9 + 2)) (xs (i9 + 3)) 1) ⟨(kg_B (k := 4) hts tw_125 tw_122 tw_19 (by decide +kernel) rfl rfl ⟨Nat.le_of_ble_eq_true rfl, Nat.le_of_ble_eq_true rfl⟩), hts _ tw_123, hts _ tw_124⟩ (kx_preV hN hK hP hD rfl hC.1) rfl rfl hl.1 rfl (lv_room (Nat.le_of_ble_eq_true rfl)) dL_law_240 ⟨Nat.le_of_ble_eq_true rfl, Nat.le_of_ble_eq_true rfl⟩) hD hS hA (fun r_50 u_51 H locs hp_49 hP hD hS => ?_)
          have hM1 := atM_fr hM hp_49.2 (fun j h1 h2 h3 => by omega)
          refine lv_aload_n hx hb dL_law_243 rfl (lv_at hl 2 rfl) ?_
          refine lv_aload_n hx hb dL_law_244 rfl (lv_at hl 0 rfl) ?_
          refine lv_iload_n hx hb dL_law_245 rfl (lv_at hl 3 rfl) ?_
          refine lv_iconst (v := nI 1) hx hb dL_law_246 (by decide +kernel) ?_
          refine lv_iadd hx hb dL_law_247 ?_
          refine lv_topi (fun z_52 ez_52 => ?_)
          have ez_52 : z_52 = nI (i9 + 1) := by rw [ez_52]; exact nI_add _ _
          subst ez_52
          refine kx_sld hx hb hX hbl hbA hS (i := (i9 + 1)) (by omega) (by omega) dL_law_248 ?_
          refine lv_aload_n hx hb dL_law_249 rfl (lv_at hl 0 rfl) ?_
          refine lv_iload_n hx hb dL_law_250 rfl (lv_at hl 3 rfl) ?_
          refine lv_iconst (v := nI 2) hx hb dL_law_251 (by decide +kernel) ?_
          refine lv_iadd hx hb dL_law_252 ?_
          refine lv_topi (fun z_53 ez_53 => ?_)
          have ez_53 : z_53 = nI (i9 + 2) := by rw [ez_53]; exact nI_add _ _
          subst ez_53
          refine kx_sld hx hb hX hbl hbA hS (i := (i9 + 2)) (by omega) (by omega) dL_law_253 ?_
          refine lv_aload_n hx hb dL_law_254 rfl (lv_at hl 0 rfl) ?_
          refine lv_iload_n hx hb dL_law_255 rfl (lv_at hl 3 rfl) ?_
          refine lv_iconst (v := nI 3) hx hb dL_law_256 (by decide +kernel) ?_
          refine lv_iadd hx hb dL_law_257 ?_
          refine lv_topi (fun z_54 ez_54 => ?_)
          have ez_54 : z_54 = nI (i9 + 3) := by rw [ez_54]; exact nI_add _ _
          subst ez_54
          refine kx_sld hx hb hX hbl hbA hS (i := (i9 + 3)) (by omega) (by omega) dL_law_258 ?_
          refine lv_aload_n hx hb dL_law_259 rfl (lv_at hl 0 rfl) ?_
          refine lv_iload_n hx hb dL_law_260 rfl (lv_at hl 3 rfl) ?_
          refine lv_iconst (v := nI 4) hx hb dL_law_261 (by decide +kernel) ?_
          refine lv_iadd hx hb dL_law_262 ?_
          refine lv_topi (fun z_55 ez_55 => ?_)
          have ez_55 : z_55 = nI (i9 + 4) := by rw [ez_55]; exact nI_add _ _
          subst ez_55
          refine kx_sld hx hb hX hbl hbA hS (i := (i9 + 4)) (by omega) (by omega) dL_law_263 ?_
          refine lv_if_eq (tgt := 271) hx hb dL_law_264 (by decide) (fun c_264 => ?_) (fun c_264 => ?_)
          · skip
            exact absurd c_264 c_232
          · skip
            refine lv_iconst (v := 1) hx hb dL_law_267 (by decide +kernel) ?_
            refine lv_goto (tgt := 272) hx hb dL_law_268 (by decide) ?_
            refine kx_goi (va_runV (As := [.int (xs (i9 + 1)), .int (xs (i9 + 2)), .int (xs (i9 + 3)), .int 1]) (rest := [.int r_50]) ⟨hx, hb, hml, hown, hts⟩ (m_leave l D k0 u_51 _ 33 am mv mc mo me mw mm mk mn fb sb hM1 (inv_m hI) (xs (i9 + 1)) (xs (i9 + 2)) (xs (i9 + 3)) 1) ⟨(kg_B (k := 4) hts tw_305 tw_302 tw_22 (by decide +kernel) rfl rfl ⟨Nat.le_of_ble_eq_true rfl, Nat.le_of_ble_eq_true rfl⟩), hts _ tw_303, hts _ tw_304⟩ (kx_preV hN hK hP hD rfl hM1.1) rfl rfl hl.1 rfl (lv_room (Nat.le_of_ble_eq_true rfl)) dL_law_272 ⟨Nat.le_of_ble_eq_true rfl, Nat.le_of_ble_eq_true rfl⟩) hD hS hA (fun r_57 u_58 H locs hp_56 hP hD hS => ?_)
            obtain ⟨hrr, hst⟩ := sp_leave hC hM1 hI hp_49 hp_56
            refine lv_icmp_eq (tgt := 501) hx hb dL_law_275 (by decide) (fun c_275 => ?_) (fun c_275 => ?_)
            · skip
              refine lv_iinc (v := nI (i9 + 5)) (lv' := [(3, .int (nI (i9 + 5))), (0, .ref b), (1, .ref (ad 0)), (2, .ref (am 0))]) hx hb dL_law_501 hl (k := 3) rfl (by rw [show Int32.ofInt 5 = nI 5 by decide]; exact nI_add _ _) (by decide) rfl (fun ls hl => ?_)
              refine lv_goto (tgt := 18) hx hb dL_law_504 (by decide) ?_
              exact ih (i9 + 5) (by omega) (by omega) _ _ _ hst _ _ hP hD hS _ (lv_sub hl [1, 2, 3, 0] rfl)
            · skip
              exact absurd hrr c_275
      · refine lv_tableIn (off := 248) (tgt := 280) hx hb dL_law_32 (by decide) (by decide) (by decide +kernel) (by decide) ?_
        refine lv_aload_n hx hb dL_law_280 rfl (lv_at hl 1 rfl) ?_
        refine lv_aload_n hx hb dL_law_281 rfl (lv_at hl 0 rfl) ?_
        refine lv_iload_n hx hb dL_law_282 rfl (lv_at hl 3 rfl) ?_
        refine lv_iconst (v := nI 1) hx hb dL_law_283 (by decide +kernel) ?_
        refine lv_iadd hx hb dL_law_284 ?_
        refine lv_topi (fun z_59 ez_59 => ?_)
        have ez_59 : z_59 = nI (i9 + 1) := by rw [ez_59]; exact nI_add _ _
        subst ez_59
        refine kx_sld hx hb hX hbl hbA hS (i := (i9 + 1)) (by omega) (by omega) dL_law_285 ?_
        refine lv_aload_n hx hb dL_law_286 rfl (lv_at hl 0 rfl) ?_
        refine lv_iload_n hx hb dL_law_287 rfl (lv_at hl 3 rfl) ?_
        refine lv_iconst (v := nI 2) hx hb dL_law_288 (by decide +kernel) ?_
        refine lv_iadd hx hb dL_law_289 ?_
        refine lv_topi (fun z_60 ez_60 => ?_)
        have ez_60 : z_60 = nI (i9 + 2) := by rw [ez_60]; exact nI_add _ _
        subst ez_60
        refine kx_sld hx hb hX hbl hbA hS (i := (i9 + 2)) (by omega) (by omega) dL_law_290 ?_
        refine lv_aload_n hx hb dL_law_291 rfl (lv_at hl 0 rfl) ?_
        refine lv_iload_n hx hb dL_law_292 rfl (lv_at hl 3 rfl) ?_
        refine lv_iconst (v := nI 3) hx hb dL_law_293 (by decide +kernel) ?_
        refine lv_iadd hx hb dL_law_294 ?_
        refine lv_topi (fun z_61 ez_61 => ?_)
        have ez_61 : z_61 = nI (i9 + 3) := by rw [ez_61]; exact nI_add _ _
        subst ez_61
        refine kx_sld hx hb hX hbl hbA hS (i := (i9 + 3)) (by omega) (by omega) dL_law_295 ?_
        refine kx_goi (va_runV (As := [.int (xs (i9 + 1)), .int (xs (i9 + 2)), .int (xs (i9 + 3))]) (rest := []) ⟨hx, hb, hml, hown, hts⟩ (c_beside l D k0 w0 _ 0 ad nE nV op LL ww hC (inv_c hI) (xs (i9 + 1)) (xs (i9 + 2)) (xs (i9 + 3))) ⟨(kg_B (k := 3) hts tw_169 tw_166 tw_19 (by decide +kernel) rfl rfl ⟨Nat.le_of_ble_eq_true rfl, Nat.le_of_ble_eq_true rfl⟩), hts _ tw_167, hts _ tw_168⟩ (kx_preV hN hK hP hD rfl hC.1) rfl rfl hl.1 rfl (lv_room (Nat.le_of_ble_eq_true rfl)) dL_law_296 ⟨Nat.le_of_ble_eq_true rfl, Nat.le_of_ble_eq_true rfl⟩) hD hS hA (fun r_63 u_64 H locs hp_62 hP hD hS => ?_)
        have hM1 := atM_fr hM hp_62.2 (fun j h1 h2 h3 => by omega)
        refine lv_aload_n hx hb dL_law_299 rfl (lv_at hl 2 rfl) ?_
        refine lv_aload_n hx hb dL_law_300 rfl (lv_at hl 0 rfl) ?_
        refine lv_iload_n hx hb dL_law_301 rfl (lv_at hl 3 rfl) ?_
        refine lv_iconst (v := nI 1) hx hb dL_law_302 (by decide +kernel) ?_
        refine lv_iadd hx hb dL_law_303 ?_
        refine lv_topi (fun z_65 ez_65 => ?_)
        have ez_65 : z_65 = nI (i9 + 1) := by rw [ez_65]; exact nI_add _ _
        subst ez_65
        refine kx_sld hx hb hX hbl hbA hS (i := (i9 + 1)) (by omega) (by omega) dL_law_304 ?_
        refine lv_aload_n hx hb dL_law_305 rfl (lv_at hl 0 rfl) ?_
        refine lv_iload_n hx hb dL_law_306 rfl (lv_at hl 3 rfl) ?_
        refine lv_iconst (v := nI 2) hx hb dL_law_307 (by decide +kernel) ?_
        refine lv_iadd hx hb dL_law_308 ?_
        refine lv_topi (fun z_66 ez_66 => ?_)
        have ez_66 : z_66 = nI (i9 + 2) := by rw [ez_66]; exact nI_add _ _
        subst ez_66
        refine kx_sld hx hb hX hbl hbA hS (i := (i9 + 2)) (by omega) (by omega) dL_law_309 ?_
        refine lv_aload_n hx hb dL_law_310 rfl (lv_at hl 0 rfl) ?_
        refine lv_iload_n hx hb dL_law_311 rfl (lv_at hl 3 rfl) ?_
        refine lv_iconst (v := nI 3) hx hb dL_law_312 (by decide +kernel) ?_
        refine lv_iadd hx hb dL_law_313 ?_
        refine lv_topi (fun z_67 ez_67 => ?_)
        have ez_67 : z_67 = nI (i9 + 3) := by rw [ez_67]; exact nI_add _ _
        subst ez_67
        refine kx_sld hx hb hX hbl hbA hS (i := (i9 + 3)) (by omega) (by omega) dL_law_314 ?_
        refine kx_goi (va_runV (As := [.int (xs (i9 + 1)), .int (xs (i9 + 2)), .int (xs (i9 + 3))]) (rest := [.int r_63]) ⟨hx, hb, hml, hown, hts⟩ (m_beside l D k0 u_64 _ 33 am mv mc mo me mw mm mk mn fb sb hM1 (inv_m hI) (xs (i9 + 1)) (xs (i9 + 2)) (xs (i9 + 3))) ⟨(kg_B (k := 3) hts tw_329 tw_326 tw_22 (by decide +kernel) rfl rfl ⟨Nat.le_of_ble_eq_true rfl, Nat.le_of_ble_eq_true rfl⟩), hts _ tw_327, hts _ tw_328⟩ (kx_preV hN hK hP hD rfl hM1.1) rfl rfl hl.1 rfl (lv_room (Nat.le_of_ble_eq_true rfl)) dL_law_315 ⟨Nat.le_of_ble_eq_true rfl, Nat.le_of_ble_eq_true rfl⟩) hD hS hA (fun r_69 u_70 H locs hp_68 hP hD hS => ?_)
        obtain ⟨hrr, hst⟩ := sp_beside hC hM1 hI hp_62 hp_68
        refine lv_icmp_eq (tgt := 501) hx hb dL_law_318 (by decide) (fun c_318 => ?_) (fun c_318 => ?_)
        · skip
          refine lv_iinc (v := nI (i9 + 5)) (lv' := [(3, .int (nI (i9 + 5))), (0, .ref b), (1, .ref (ad 0)), (2, .ref (am 0))]) hx hb dL_law_501 hl (k := 3) rfl (by rw [show Int32.ofInt 5 = nI 5 by decide]; exact nI_add _ _) (by decide) rfl (fun ls hl => ?_)
          refine lv_goto (tgt := 18) hx hb dL_law_504 (by decide) ?_
          exact ih (i9 + 5) (by omega) (by omega) _ _ _ hst _ _ hP hD hS _ (lv_sub hl [1, 2, 3, 0] rfl)
        · skip
          exact absurd hrr c_318
      · refine lv_tableIn (off := 291) (tgt := 323) hx hb dL_law_32 (by decide) (by decide) (by decide +kernel) (by decide) ?_
        refine lv_aload_n hx hb dL_law_323 rfl (lv_at hl 1 rfl) ?_
        refine lv_aload_n hx hb dL_law_324 rfl (lv_at hl 0 rfl) ?_
        refine lv_iload_n hx hb dL_law_325 rfl (lv_at hl 3 rfl) ?_
        refine lv_iconst (v := nI 1) hx hb dL_law_326 (by decide +kernel) ?_
        refine lv_iadd hx hb dL_law_327 ?_
        refine lv_topi (fun z_71 ez_71 => ?_)
        have ez_71 : z_71 = nI (i9 + 1) := by rw [ez_71]; exact nI_add _ _
        subst ez_71
        refine kx_sld hx hb hX hbl hbA hS (i := (i9 + 1)) (by omega) (by omega) dL_law_328 ?_
        refine kx_goi (va_runV (As := [.int (xs (i9 + 1))]) (rest := []) ⟨hx, hb, hml, hown, hts⟩ (c_edges l D k0 w0 _ 0 ad nE nV op LL ww hC (inv_c hI) (xs (i9 + 1))) ⟨(kg_B (k := 1) hts tw_190 tw_187 tw_19 (by decide +kernel) rfl rfl ⟨Nat.le_of_ble_eq_true rfl, Nat.le_of_ble_eq_true rfl⟩), hts _ tw_188, hts _ tw_189⟩ (kx_preV hN hK hP hD rfl hC.1) rfl rfl hl.1 rfl (lv_room (Nat.le_of_ble_eq_true rfl)) dL_law_329 ⟨Nat.le_of_ble_eq_true rfl, Nat.le_of_ble_eq_true rfl⟩) hD hS hA (fun r_73 u_74 H locs hp_72 hP hD hS => ?_)
        have hM1 : atM u_74 33 k0 am mv mc mo me mw mm mk mn fb sb := by rw [hp_72.2]; exact hM
        refine lv_aload_n hx hb dL_law_332 rfl (lv_at hl 2 rfl) ?_
        refine lv_aload_n hx hb dL_law_333 rfl (lv_at hl 0 rfl) ?_
        refine lv_iload_n hx hb dL_law_334 rfl (lv_at hl 3 rfl) ?_
        refine lv_iconst (v := nI 1) hx hb dL_law_335 (by decide +kernel) ?_
        refine lv_iadd hx hb dL_law_336 ?_
        refine lv_topi (fun z_75 ez_75 => ?_)
        have ez_75 : z_75 = nI (i9 + 1) := by rw [ez_75]; exact nI_add _ _
        subst ez_75
        refine kx_sld hx hb hX hbl hbA hS (i := (i9 + 1)) (by omega) (by omega) dL_law_337 ?_
        refine kx_goi (va_runV (As := [.int (xs (i9 + 1))]) (rest := [.int r_73]) ⟨hx, hb, hml, hown, hts⟩ (m_edges l D k0 u_74 _ 33 am mv mc mo me mw mm mk mn fb sb hM1 (inv_m hI) (xs (i9 + 1))) ⟨(kg_B (k := 1) hts tw_337 tw_334 tw_22 (by decide +kernel) rfl rfl ⟨Nat.le_of_ble_eq_true rfl, Nat.le_of_ble_eq_true rfl⟩), hts _ tw_335, hts _ tw_336⟩ (kx_preV hN hK hP hD rfl hM1.1) rfl rfl hl.1 rfl (lv_room (Nat.le_of_ble_eq_true rfl)) dL_law_338 ⟨Nat.le_of_ble_eq_true rfl, Nat.le_of_ble_eq_true rfl⟩) hD hS hA (fun r_77 u_78 H locs hp_76 hP hD hS => ?_)
        obtain ⟨hrr, hst⟩ := sp_edges hC hM1 hI hp_72 hp_76
        refine lv_icmp_eq (tgt := 501) hx hb dL_law_341 (by decide) (fun c_341 => ?_) (fun c_341 => ?_)
        · skip
          refine lv_iinc (v := nI (i9 + 5)) (lv' := [(3, .int (nI (i9 + 5))), (0, .ref b), (1, .ref (ad 0)), (2, .ref (am 0))]) hx hb dL_law_501 hl (k := 3) rfl (by rw [show Int32.ofInt 5 = nI 5 by decide]; exact nI_add _ _) (by decide) rfl (fun ls hl => ?_)
          refine lv_goto (tgt := 18) hx hb dL_law_504 (by decide) ?_
          exact ih (i9 + 5) (by omega) (by omega) _ _ _ hst _ _ hP hD hS _ (lv_sub hl [1, 2, 3, 0] rfl)
        · skip
          exact absurd hrr c_341
      · refine lv_tableIn (off := 314) (tgt := 346) hx hb dL_law_32 (by decide) (by decide) (by decide +kernel) (by decide) ?_
        refine lv_aload_n hx hb dL_law_346 rfl (lv_at hl 1 rfl) ?_
        refine lv_aload_n hx hb dL_law_347 rfl (lv_at hl 0 rfl) ?_
        refine lv_iload_n hx hb dL_law_348 rfl (lv_at hl 3 rfl) ?_
        refine lv_iconst (v := nI 1) hx hb dL_law_349 (by decide +kernel) ?_
        refine lv_iadd hx hb dL_law_350 ?_
        refine lv_topi (fun z_79 ez_79 => ?_)
        have ez_79 : z_79 = nI (i9 + 1) := by rw [ez_79]; exact nI_add _ _
        subst ez_79
        refine kx_sld hx hb hX hbl hbA hS (i := (i9 + 1)) (by omega) (by omega) dL_law_351 ?_
        refine lv_aload_n hx hb dL_law_352 rfl (lv_at hl 0 rfl) ?_
        refine lv_iload_n hx hb dL_law_353 rfl (lv_at hl 3 rfl) ?_
        refine lv_iconst (v := nI 2) hx hb dL_law_354 (by decide +kernel) ?_
        refine lv_iadd hx hb dL_law_355 ?_
        refine lv_topi (fun z_80 ez_80 => ?_)
        have ez_80 : z_80 = nI (i9 + 2) := by rw [ez_80]; exact nI_add _ _
        subst ez_80
        refine kx_sld hx hb hX hbl hbA hS (i := (i9 + 2)) (by omega) (by omega) dL_law_356 ?_
        refine kx_goi (va_runV (As := [.int (xs (i9 + 1)), .int (xs (i9 + 2))]) (rest := []) ⟨hx, hb, hml, hown, hts⟩ (c_weight l D k0 w0 _ 0 ad nE nV op LL ww hC (inv_c hI) (xs (i9 + 1)) (xs (i9 + 2))) ⟨(kg_B (k := 2) hts tw_194 tw_191 tw_19 (by decide +kernel) rfl rfl ⟨Nat.le_of_ble_eq_true rfl, Nat.le_of_ble_eq_true rfl⟩), hts _ tw_192, hts _ tw_193⟩ (kx_preV hN hK hP hD rfl hC.1) rfl rfl hl.1 rfl (lv_room (Nat.le_of_ble_eq_true rfl)) dL_law_357 ⟨Nat.le_of_ble_eq_true rfl, Nat.le_of_ble_eq_true rfl⟩) hD hS hA (fun r_82 u_83 H locs hp_81 hP hD hS => ?_)
        have hM1 : atM u_83 33 k0 am mv mc mo me mw mm mk mn fb sb := by rw [hp_81.2]; exact hM
        refine lv_aload_n hx hb dL_law_360 rfl (lv_at hl 2 rfl) ?_
        refine lv_aload_n hx hb dL_law_361 rfl (lv_at hl 0 rfl) ?_
        refine lv_iload_n hx hb dL_law_362 rfl (lv_at hl 3 rfl) ?_
        refine lv_iconst (v := nI 1) hx hb dL_law_363 (by decide +kernel) ?_
        refine lv_iadd hx hb dL_law_364 ?_
        refine lv_topi (fun z_84 ez_84 => ?_)
        have ez_84 : z_84 = nI (i9 + 1) := by rw [ez_84]; exact nI_add _ _
        subst ez_84
        refine kx_sld hx hb hX hbl hbA hS (i := (i9 + 1)) (by omega) (by omega) dL_law_365 ?_
        refine lv_aload_n hx hb dL_law_366 rfl (lv_at hl 0 rfl) ?_
        refine lv_iload_n hx hb dL_law_367 rfl (lv_at hl 3 rfl) ?_
        refine lv_iconst (v := nI 2) hx hb dL_law_368 (by decide +kernel) ?_
        refine lv_iadd hx hb dL_law_369 ?_
        refine lv_topi (fun z_85 ez_85 => ?_)
        have ez_85 : z_85 = nI (i9 + 2) := by rw [ez_85]; exact nI_add _ _
        subst ez_85
        refine kx_sld hx hb hX hbl hbA hS (i := (i9 + 2)) (by omega) (by omega) dL_law_370 ?_
        refine kx_goi (va_runV (As := [.int (xs (i9 + 1)), .int (xs (i9 + 2))]) (rest := [.int r_82]) ⟨hx, hb, hml, hown, hts⟩ (m_weight l D k0 u_83 _ 33 am mv mc mo me mw mm mk mn fb sb hM1 (inv_m hI) (xs (i9 + 1)) (xs (i9 + 2))) ⟨(kg_B (k := 2) hts tw_341 tw_338 tw_22 (by decide +kernel) rfl rfl ⟨Nat.le_of_ble_eq_true rfl, Nat.le_of_ble_eq_true rfl⟩), hts _ tw_339, hts _ tw_340⟩ (kx_preV hN hK hP hD rfl hM1.1) rfl rfl hl.1 rfl (lv_room (Nat.le_of_ble_eq_true rfl)) dL_law_371 ⟨Nat.le_of_ble_eq_true rfl, Nat.le_of_ble_eq_true rfl⟩) hD hS hA (fun r_87 u_88 H locs hp_86 hP hD hS => ?_)
        obtain ⟨hrr, hst⟩ := sp_weight hC hM1 hI hp_81 hp_86
        refine lv_icmp_eq (tgt := 501) hx hb dL_law_374 (by decide) (fun c_374 => ?_) (fun c_374 => ?_)
        · skip
          refine lv_iinc (v := nI (i9 + 5)) (lv' := [(3, .int (nI (i9 + 5))), (0, .ref b), (1, .ref (ad 0)), (2, .ref (am 0))]) hx hb dL_law_501 hl (k := 3) rfl (by rw [show Int32.ofInt 5 = nI 5 by decide]; exact nI_add _ _) (by decide) rfl (fun ls hl => ?_)
          refine lv_goto (tgt := 18) hx hb dL_law_504 (by decide) ?_
          exact ih (i9 + 5) (by omega) (by omega) _ _ _ hst _ _ hP hD hS _ (lv_sub hl [1, 2, 3, 0] rfl)
        · skip
          exact absurd hrr c_374
      · refine lv_tableIn (off := 347) (tgt := 379) hx hb dL_law_32 (by decide) (by decide) (by decide +kernel) (by decide) ?_
        refine lv_aload_n hx hb dL_law_379 rfl (lv_at hl 1 rfl) ?_
        refine lv_aload_n hx hb dL_law_380 rfl (lv_at hl 0 rfl) ?_
        refine lv_iload_n hx hb dL_law_381 rfl (lv_at hl 3 rfl) ?_
        refine lv_iconst (v := nI 1) hx hb dL_law_382 (by decide +kernel) ?_
        refine lv_iadd hx hb dL_law_383 ?_
        refine lv_topi (fun z_89 ez_89 => ?_)
        have ez_89 : z_89 = nI (i9 + 1) := by rw [ez_89]; exact nI_add _ _
        subst ez_89
        refine kx_sld hx hb hX hbl hbA hS (i := (i9 + 1)) (by omega) (by omega) dL_law_384 ?_
        refine lv_aload_n hx hb dL_law_385 rfl (lv_at hl 0 rfl) ?_
        refine lv_iload_n hx hb dL_law_386 rfl (lv_at hl 3 rfl) ?_
        refine lv_iconst (v := nI 2) hx hb dL_law_387 (by decide +kernel) ?_
        refine lv_iadd hx hb dL_law_388 ?_
        refine lv_topi (fun z_90 ez_90 => ?_)
        have ez_90 : z_90 = nI (i9 + 2) := by rw [ez_90]; exact nI_add _ _
        subst ez_90
        refine kx_sld hx hb hX hbl hbA hS (i := (i9 + 2)) (by omega) (by omega) dL_law_389 ?_
        refine kx_goi (va_runV (As := [.int (xs (i9 + 1)), .int (xs (i9 + 2))]) (rest := []) ⟨hx, hb, hml, hown, hts⟩ (c_rank l D k0 w0 _ 0 ad nE nV op LL ww hC (inv_c hI) (xs (i9 + 1)) (xs (i9 + 2))) ⟨(kg_B (k := 2) hts tw_198 tw_195 tw_19 (by decide +kernel) rfl rfl ⟨Nat.le_of_ble_eq_true rfl, Nat.le_of_ble_eq_true rfl⟩), hts _ tw_196, hts _ tw_197⟩ (kx_preV hN hK hP hD rfl hC.1) rfl rfl hl.1 rfl (lv_room (Nat.le_of_ble_eq_true rfl)) dL_law_390 ⟨Nat.le_of_ble_eq_true rfl, Nat.le_of_ble_eq_true rfl⟩) hD hS hA (fun r_92 u_93 H locs hp_91 hP hD hS => ?_)
        have hM1 := atM_fr hM hp_91.2.2 (fun j h1 h2 h3 => by omega)
        refine lv_aload_n hx hb dL_law_393 rfl (lv_at hl 2 rfl) ?_
        refine lv_aload_n hx hb dL_law_394 rfl (lv_at hl 0 rfl) ?_
        refine lv_iload_n hx hb dL_law_395 rfl (lv_at hl 3 rfl) ?_
        refine lv_iconst (v := nI 1) hx hb dL_law_396 (by decide +kernel) ?_
        refine lv_iadd hx hb dL_law_397 ?_
        refine lv_topi (fun z_94 ez_94 => ?_)
        have ez_94 : z_94 = nI (i9 + 1) := by rw [ez_94]; exact nI_add _ _
        subst ez_94
        refine kx_sld hx hb hX hbl hbA hS (i := (i9 + 1)) (by omega) (by omega) dL_law_398 ?_
        refine lv_aload_n hx hb dL_law_399 rfl (lv_at hl 0 rfl) ?_
        refine lv_iload_n hx hb dL_law_400 rfl (lv_at hl 3 rfl) ?_
        refine lv_iconst (v := nI 2) hx hb dL_law_401 (by decide +kernel) ?_
        refine lv_iadd hx hb dL_law_402 ?_
        refine lv_topi (fun z_95 ez_95 => ?_)
        have ez_95 : z_95 = nI (i9 + 2) := by rw [ez_95]; exact nI_add _ _
        subst ez_95
        refine kx_sld hx hb hX hbl hbA hS (i := (i9 + 2)) (by omega) (by omega) dL_law_403 ?_
        refine kx_goi (va_runV (As := [.int (xs (i9 + 1)), .int (xs (i9 + 2))]) (rest := [.int r_92]) ⟨hx, hb, hml, hown, hts⟩ (m_rank l D k0 u_93 _ 33 am mv mc mo me mw mm mk mn fb sb hM1 (inv_m hI) (xs (i9 + 1)) (xs (i9 + 2))) ⟨(kg_B (k := 2) hts tw_345 tw_342 tw_22 (by decide +kernel) rfl rfl ⟨Nat.le_of_ble_eq_true rfl, Nat.le_of_ble_eq_true rfl⟩), hts _ tw_343, hts _ tw_344⟩ (kx_preV hN hK hP hD rfl hM1.1) rfl rfl hl.1 rfl (lv_room (Nat.le_of_ble_eq_true rfl)) dL_law_404 ⟨Nat.le_of_ble_eq_true rfl, Nat.le_of_ble_eq_true rfl⟩) hD hS hA (fun r_97 u_98 H locs hp_96 hP hD hS => ?_)
        obtain ⟨hrr, hst⟩ := sp_rank hC hM1 hI hp_91 hp_96
        refine lv_icmp_eq (tgt := 501) hx hb dL_law_407 (by decide) (fun c_407 => ?_) (fun c_407 => ?_)
        · skip
          refine lv_iinc (v := nI (i9 + 5)) (lv' := [(3, .int (nI (i9 + 5))), (0, .ref b), (1, .ref (ad 0)), (2, .ref (am 0))]) hx hb dL_law_501 hl (k := 3) rfl (by rw [show Int32.ofInt 5 = nI 5 by decide]; exact nI_add _ _) (by decide) rfl (fun ls hl => ?_)
          refine lv_goto (tgt := 18) hx hb dL_law_504 (by decide) ?_
          exact ih (i9 + 5) (by omega) (by omega) _ _ _ hst _ _ hP hD hS _ (lv_sub hl [1, 2, 3, 0] rfl)
        · skip
          exact absurd hrr c_407
      · refine lv_tableIn (off := 380) (tgt := 412) hx hb dL_law_32 (by decide) (by decide) (by decide +kernel) (by decide) ?_
        refine lv_aload_n hx hb dL_law_412 rfl (lv_at hl 1 rfl) ?_
        refine lv_aload_n hx hb dL_law_413 rfl (lv_at hl 0 rfl) ?_
        refine lv_iload_n hx hb dL_law_414 rfl (lv_at hl 3 rfl) ?_
        refine lv_iconst (v := nI 1) hx hb dL_law_415 (by decide +kernel) ?_
        refine lv_iadd hx hb dL_law_416 ?_
        refine lv_topi (fun z_99 ez_99 => ?_)
        have ez_99 : z_99 = nI (i9 + 1) := by rw [ez_99]; exact nI_add _ _
        subst ez_99
        refine kx_sld hx hb hX hbl hbA hS (i := (i9 + 1)) (by omega) (by omega) dL_law_417 ?_
        refine kx_goi (va_runV (As := [.int (xs (i9 + 1))]) (rest := []) ⟨hx, hb, hml, hown, hts⟩ (c_best l D k0 w0 _ 0 ad nE nV op LL ww hC (inv_c hI) (xs (i9 + 1))) ⟨(kg_B (k := 1) hts tw_202 tw_199 tw_19 (by decide +kernel) rfl rfl ⟨Nat.le_of_ble_eq_true rfl, Nat.le_of_ble_eq_true rfl⟩), hts _ tw_200, hts _ tw_201⟩ (kx_preV hN hK hP hD rfl hC.1) rfl rfl hl.1 rfl (lv_room (Nat.le_of_ble_eq_true rfl)) dL_law_418 ⟨Nat.le_of_ble_eq_true rfl, Nat.le_of_ble_eq_true rfl⟩) hD hS hA (fun r_101 u_102 H locs hp_100 hP hD hS => ?_)
        have hM1 := atM_fr hM hp_100.2.2 (fun j h1 h2 h3 => by omega)
        refine lv_aload_n hx hb dL_law_421 rfl (lv_at hl 2 rfl) ?_
        refine lv_aload_n hx hb dL_law_422 rfl (lv_at hl 0 rfl) ?_
        refine lv_iload_n hx hb dL_law_423 rfl (lv_at hl 3 rfl) ?_
        refine lv_iconst (v := nI 1) hx hb dL_law_424 (by decide +kernel) ?_
        refine lv_iadd hx hb dL_law_425 ?_
        refine lv_topi (fun z_103 ez_103 => ?_)
        have ez_103 : z_103 = nI (i9 + 1) := by rw [ez_103]; exact nI_add _ _
        subst ez_103
        refine kx_sld hx hb hX hbl hbA hS (i := (i9 + 1)) (by omega) (by omega) dL_law_426 ?_
        refine kx_goi (va_runV (As := [.int (xs (i9 + 1))]) (rest := [.int r_101]) ⟨hx, hb, hml, hown, hts⟩ (m_best l D k0 u_102 _ 33 am mv mc mo me mw mm mk mn fb sb hM1 (inv_m hI) (xs (i9 + 1))) ⟨(kg_B (k := 1) hts tw_349 tw_346 tw_22 (by decide +kernel) rfl rfl ⟨Nat.le_of_ble_eq_true rfl, Nat.le_of_ble_eq_true rfl⟩), hts _ tw_347, hts _ tw_348⟩ (kx_preV hN hK hP hD rfl hM1.1) rfl rfl hl.1 rfl (lv_room (Nat.le_of_ble_eq_true rfl)) dL_law_427 ⟨Nat.le_of_ble_eq_true rfl, Nat.le_of_ble_eq_true rfl⟩) hD hS hA (fun r_105 u_106 H locs hp_104 hP hD hS => ?_)
        obtain ⟨hrr, hst⟩ := sp_best hC hM1 hI hp_100 hp_104
        refine lv_icmp_eq (tgt := 501) hx hb dL_law_430 (by decide) (fun c_430 => ?_) (fun c_430 => ?_)
        · skip
          refine lv_iinc (v := nI (i9 + 5)) (lv' := [(3, .int (nI (i9 + 5))), (0, .ref b), (1, .ref (ad 0)), (2, .ref (am 0))]) hx hb dL_law_501 hl (k := 3) rfl (by rw [show Int32.ofInt 5 = nI 5 by decide]; exact nI_add _ _) (by decide) rfl (fun ls hl => ?_)
          refine lv_goto (tgt := 18) hx hb dL_law_504 (by decide) ?_
          exact ih (i9 + 5) (by omega) (by omega) _ _ _ hst _ _ hP hD hS _ (lv_sub hl [1, 2, 3, 0] rfl)
        · skip
          exact absurd hrr c_430
      · refine lv_tableIn (off := 403) (tgt := 435) hx hb dL_law_32 (by decide) (by decide) (by decide +kernel) (by decide) ?_
        refine lv_aload_n hx hb dL_law_435 rfl (lv_at hl 1 rfl) ?_
        refine lv_aload_n hx hb dL_law_436 rfl (lv_at hl 0 rfl) ?_
        refine lv_iload_n hx hb dL_law_437 rfl (lv_at hl 3 rfl) ?_
        refine lv_iconst (v := nI 1) hx hb dL_law_438 (by decide +kernel) ?_
        refine lv_iadd hx hb dL_law_439 ?_
        refine lv_topi (fun z_107 ez_107 => ?_)
        have ez_107 : z_107 = nI (i9 + 1) := by rw [ez_107]; exact nI_add _ _
        subst ez_107
        refine kx_sld hx hb hX hbl hbA hS (i := (i9 + 1)) (by omega) (by omega) dL_law_440 ?_
        refine lv_aload_n hx hb dL_law_441 rfl (lv_at hl 0 rfl) ?_
        refine lv_iload_n hx hb dL_law_442 rfl (lv_at hl 3 rfl) ?_
        refine lv_iconst (v := nI 2) hx hb dL_law_443 (by decide +kernel) ?_
        refine lv_iadd hx hb dL_law_444 ?_
        refine lv_topi (fun z_108 ez_108 => ?_)
        have ez_108 : z_108 = nI (i9 + 2) := by rw [ez_108]; exact nI_add _ _
        subst ez_108
        refine kx_sld hx hb hX hbl hbA hS (i := (i9 + 2)) (by omega) (by omega) dL_law_445 ?_
        refine kx_goi (va_runV (As := [.int (xs (i9 + 1)), .int (xs (i9 + 2))]) (rest := []) ⟨hx, hb, hml, hown, hts⟩ (c_common l D k0 w0 _ 0 ad nE nV op LL ww hC (inv_c hI) (xs (i9 + 1)) (xs (i9 + 2))) ⟨(kg_B (k := 2) hts tw_213 tw_210 tw_19 (by decide +kernel) rfl rfl ⟨Nat.le_of_ble_eq_true rfl, Nat.le_of_ble_eq_true rfl⟩), hts _ tw_211, hts _ tw_212⟩ (kx_preV hN hK hP hD rfl hC.1) rfl rfl hl.1 rfl (lv_room (Nat.le_of_ble_eq_true rfl)) dL_law_446 ⟨Nat.le_of_ble_eq_true rfl, Nat.le_of_ble_eq_true rfl⟩) hD hS hA (fun r_110 u_111 H locs hp_109 hP hD hS => ?_)
        have hM1 := atM_fr hM hp_109.2.2 (fun j h1 h2 h3 => by omega)
        refine lv_aload_n hx hb dL_law_449 rfl (lv_at hl 2 rfl) ?_
        refine lv_aload_n hx hb dL_law_450 rfl (lv_at hl 0 rfl) ?_
        refine lv_iload_n hx hb dL_law_451 rfl (lv_at hl 3 rfl) ?_
        refine lv_iconst (v := nI 1) hx hb dL_law_452 (by decide +kernel) ?_
        refine lv_iadd hx hb dL_law_453 ?_
        refine lv_topi (fun z_112 ez_112 => ?_)
        have ez_112 : z_112 = nI (i9 + 1) := by rw [ez_112]; exact nI_add _ _
        subst ez_112
        refine kx_sld hx hb hX hbl hbA hS (i := (i9 + 1)) (by omega) (by omega) dL_law_454 ?_
        refine lv_aload_n hx hb dL_law_455 rfl (lv_at hl 0 rfl) ?_
        refine lv_iload_n hx hb dL_law_456 rfl (lv_at hl 3 rfl) ?_
        refine lv_iconst (v := nI 2) hx hb dL_law_457 (by decide +kernel) ?_
        refine lv_iadd hx hb dL_law_458 ?_
        refine lv_topi (fun z_113 ez_113 => ?_)
        have ez_113 : z_113 = nI (i9 + 2) := by rw [ez_113]; exact nI_add _ _
        subst ez_113
        refine kx_sld hx hb hX hbl hbA hS (i := (i9 + 2)) (by omega) (by omega) dL_law_459 ?_
        refine kx_goi (va_runV (As := [.int (xs (i9 + 1)), .int (xs (i9 + 2))]) (rest := [.int r_110]) ⟨hx, hb, hml, hown, hts⟩ (m_common l D k0 u_111 _ 33 am mv mc mo me mw mm mk mn fb sb hM1 (inv_m hI) (xs (i9 + 1)) (xs (i9 + 2))) ⟨(kg_B (k := 2) hts tw_363 tw_360 tw_22 (by decide +kernel) rfl rfl ⟨Nat.le_of_ble_eq_true rfl, Nat.le_of_ble_eq_true rfl⟩), hts _ tw_361, hts _ tw_362⟩ (kx_preV hN hK hP hD rfl hM1.1) rfl rfl hl.1 rfl (lv_room (Nat.le_of_ble_eq_true rfl)) dL_law_460 ⟨Nat.le_of_ble_eq_true rfl, Nat.le_of_ble_eq_true rfl⟩) hD hS hA (fun r_115 u_116 H locs hp_114 hP hD hS => ?_)
        obtain ⟨hrr, hst⟩ := sp_common hC hM1 hI hp_109 hp_114
        refine lv_icmp_eq (tgt := 501) hx hb dL_law_463 (by decide) (fun c_463 => ?_) (fun c_463 => ?_)
        · skip
          refine lv_iinc (v := nI (i9 + 5)) (lv' := [(3, .int (nI (i9 + 5))), (0, .ref b), (1, .ref (ad 0)), (2, .ref (am 0))]) hx hb dL_law_501 hl (k := 3) rfl (by rw [show Int32.ofInt 5 = nI 5 by decide]; exact nI_add _ _) (by decide) rfl (fun ls hl => ?_)
          refine lv_goto (tgt := 18) hx hb dL_law_504 (by decide) ?_
          exact ih (i9 + 5) (by omega) (by omega) _ _ _ hst _ _ hP hD hS _ (lv_sub hl [1, 2, 3, 0] rfl)
        · skip
          exact absurd hrr c_463
      · refine lv_tableIn (off := 436) (tgt := 468) hx hb dL_law_32 (by decide) (by decide) (by decide +kernel) (by decide) ?_
        refine lv_aload_n hx hb dL_law_468 rfl (lv_at hl 1 rfl) ?_
        refine lv_aload_n hx hb dL_law_469 rfl (lv_at hl 0 rfl) ?_
        refine lv_iload_n hx hb dL_law_470 rfl (lv_at hl 3 rfl) ?_
        refine lv_iconst (v := nI 1) hx hb dL_law_471 (by decide +kernel) ?_
        refine lv_iadd hx hb dL_law_472 ?_
        refine lv_topi (fun z_117 ez_117 => ?_)
        have ez_117 : z_117 = nI (i9 + 1) := by rw [ez_117]; exact nI_add _ _
        subst ez_117
        refine kx_sld hx hb hX hbl hbA hS (i := (i9 + 1)) (by omega) (by omega) dL_law_473 ?_
        refine lv_aload_n hx hb dL_law_474 rfl (lv_at hl 0 rfl) ?_
        refine lv_iload_n hx hb dL_law_475 rfl (lv_at hl 3 rfl) ?_
        refine lv_iconst (v := nI 2) hx hb dL_law_476 (by decide +kernel) ?_
        refine lv_iadd hx hb dL_law_477 ?_
        refine lv_topi (fun z_118 ez_118 => ?_)
        have ez_118 : z_118 = nI (i9 + 2) := by rw [ez_118]; exact nI_add _ _
        subst ez_118
        refine kx_sld hx hb hX hbl hbA hS (i := (i9 + 2)) (by omega) (by omega) dL_law_478 ?_
        refine kx_goi (va_runV (As := [.int (xs (i9 + 1)), .int (xs (i9 + 2))]) (rest := []) ⟨hx, hb, hml, hown, hts⟩ (c_cover l D k0 w0 _ 0 ad nE nV op LL ww hC (inv_c hI) (xs (i9 + 1)) (xs (i9 + 2))) ⟨(kg_B (k := 2) hts tw_234 tw_231 tw_19 (by decide +kernel) rfl rfl ⟨Nat.le_of_ble_eq_true rfl, Nat.le_of_ble_eq_true rfl⟩), hts _ tw_232, hts _ tw_233⟩ (kx_preV hN hK hP hD rfl hC.1) rfl rfl hl.1 rfl (lv_room (Nat.le_of_ble_eq_true rfl)) dL_law_479 ⟨Nat.le_of_ble_eq_true rfl, Nat.le_of_ble_eq_true rfl⟩) hD hS hA (fun r_120 u_121 H locs hp_119 hP hD hS => ?_)
        have hM1 := atM_fr hM hp_119.2.2 (fun j h1 h2 h3 => by omega)
        refine lv_aload_n hx hb dL_law_482 rfl (lv_at hl 2 rfl) ?_
        refine lv_aload_n hx hb dL_law_483 rfl (lv_at hl 0 rfl) ?_
        refine lv_iload_n hx hb dL_law_484 rfl (lv_at hl 3 rfl) ?_
        refine lv_iconst (v := nI 1) hx hb dL_law_485 (by decide +kernel) ?_
        refine lv_iadd hx hb dL_law_486 ?_
        refine lv_topi (fun z_122 ez_122 => ?_)
        have ez_122 : z_122 = nI (i9 + 1) := by rw [ez_122]; exact nI_add _ _
        subst ez_122
        refine kx_sld hx hb hX hbl hbA hS (i := (i9 + 1)) (by omega) (by omega) dL_law_487 ?_
        refine lv_aload_n hx hb dL_law_488 rfl (lv_at hl 0 rfl) ?_
        refine lv_iload_n hx hb dL_law_489 rfl (lv_at hl 3 rfl) ?_
        refine lv_iconst (v := nI 2) hx hb dL_law_490 (by decide +kernel) ?_
        refine lv_iadd hx hb dL_law_491 ?_
        refine lv_topi (fun z_123 ez_123 => ?_)
        have ez_123 : z_123 = nI (i9 + 2) := by rw [ez_123]; exact nI_add _ _
        subst ez_123
        refine kx_sld hx hb hX hbl hbA hS (i := (i9 + 2)) (by omega) (by omega) dL_law_492 ?_
        refine kx_goi (va_runV (As := [.int (xs (i9 + 1)), .int (xs (i9 + 2))]) (rest := [.int r_120]) ⟨hx, hb, hml, hown, hts⟩ (m_cover l D k0 u_121 _ 33 am mv mc mo me mw mm mk mn fb sb hM1 (inv_m hI) (xs (i9 + 1)) (xs (i9 + 2))) ⟨(kg_B (k := 2) hts tw_375 tw_372 tw_22 (by decide +kernel) rfl rfl ⟨Nat.le_of_ble_eq_true rfl, Nat.le_of_ble_eq_true rfl⟩), hts _ tw_373, hts _ tw_374⟩ (kx_preV hN hK hP hD rfl hM1.1) rfl rfl hl.1 rfl (lv_room (Nat.le_of_ble_eq_true rfl)) dL_law_493 ⟨Nat.le_of_ble_eq_true rfl, Nat.le_of_ble_eq_true rfl⟩) hD hS hA (fun r_125 u_126 H locs hp_124 hP hD hS => ?_)
        obtain ⟨hrr, hst⟩ := sp_cover hC hM1 hI hp_119 hp_124
        refine lv_icmp_eq (tgt := 501) hx hb dL_law_496 (by decide) (fun c_496 => ?_) (fun c_496 => ?_)
        · skip
          refine lv_iinc (v := nI (i9 + 5)) (lv' := [(3, .int (nI (i9 + 5))), (0, .ref b), (1, .ref (ad 0)), (2, .ref (am 0))]) hx hb dL_law_501 hl (k := 3) rfl (by rw [show Int32.ofInt 5 = nI 5 by decide]; exact nI_add _ _) (by decide) rfl (fun ls hl => ?_)
          refine lv_goto (tgt := 18) hx hb dL_law_504 (by decide) ?_
          exact ih (i9 + 5) (by omega) (by omega) _ _ _ hst _ _ hP hD hS _ (lv_sub hl [1, 2, 3, 0] rfl)
        · skip
          exact absurd hrr c_496
      · refine lv_tableOut (tgt := 501) hx hb dL_law_32 (Or.inr (by rw [nI_toInt (by omega)]; omega)) (by decide) ?_
        refine lv_iinc (v := nI (i9 + 5)) (lv' := [(3, .int (nI (i9 + 5))), (0, .ref b), (1, .ref (ad 0)), (2, .ref (am 0))]) hx hb dL_law_501 hl (k := 3) rfl (by rw [show Int32.ofInt 5 = nI 5 by decide]; exact nI_add _ _) (by decide) rfl (fun ls hl => ?_)
        refine lv_goto (tgt := 18) hx hb dL_law_504 (by decide) ?_
        exact ih (i9 + 5) (by omega) (by omega) _ _ _ hst0 _ _ hP hD hS _ (lv_sub hl [1, 2, 3, 0] rfl)
