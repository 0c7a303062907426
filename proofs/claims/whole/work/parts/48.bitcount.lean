set_option maxHeartbeats 4000000 in
set_option maxRecDepth 100000 in
/-- Integer.bitCount -/
theorem c_bits (l : Launch) (D : va_G) (k0 : Nat → ClassId)  (w0 : va_W) (sz : Nat) (x : Nat) (hxb : x < 2 ^ 30) : kx_i l yJ6_bitCount wsJ6_bitCount ({ frames := 0, cells := 0, slots := 0, locals := 0 } : Room) D (tyL k0) w0 sz [.int (nI x)] (fun (r : Int32) (u : va_W) => r = nI (cf_card 32 x) ∧ u = w0) 0 0 := by
  refine kx_of (Qf := fun A => va_Qi (fun (r : Int32) (u : va_W) => r = nI (cf_card 32 x) ∧ u = w0) (kx_B D (tyL k0) A) A) (cc := cJ6_bitCount) (maxL := 1) (ret := (some .int)) (by decide +kernel) (Nat.le_of_ble_eq_true rfl) ?_
  intro p e s m below meth c A ls hx hb hml hown hts hr hlocks hnm hN hK hP hD hS hA hl
  have hown : s.vm.findClass RJ6 = some m.cls := hown
  have hl : lv_has ls 1 [(0, .int (nI x))] := hl
  skip
  obtain ⟨a9, ea⟩ : ∃ a9, a9 = x - ((x / 2) &&& 1431655765) := ⟨_, rfl⟩
  obtain ⟨b9, eb⟩ : ∃ b9, b9 = (a9 &&& 858993459) + ((a9 / 4) &&& 858993459) := ⟨_, rfl⟩
  obtain ⟨d9, ed⟩ : ∃ d9, d9 = (b9 + b9 / 16) &&& 252645135 := ⟨_, rfl⟩
  obtain ⟨f9, ef⟩ : ∃ f9, f9 = d9 + d9 / 256 := ⟨_, rfl⟩
  have hcnt : (f9 + f9 / 65536) &&& 63 = cf_card 32 x := by
    have h := bc_count hxb
    dsimp only at h
    rw [← ea, ← eb, ← ed, ← ef] at h
    exact h
  have h1 : (x / 2) &&& 1431655765 ≤ x := Nat.le_trans Nat.and_le_left (Nat.div_le_self _ _)
  have h2 : a9 < 2 ^ 30 := by omega
  have h3 : a9 &&& 858993459 ≤ a9 := Nat.and_le_left
  have h4 : (a9 / 4) &&& 858993459 ≤ a9 / 4 := Nat.and_le_left
  have h5 : b9 < 2 ^ 31 := by omega
  have h6 : d9 ≤ 252645135 := by rw [ed]; exact Nat.and_le_right
  have h7 : f9 < 2 ^ 31 := by omega
  refine lv_iload_n hx hb dJ6_bitCount_0 rfl (lv_at hl 0 rfl) ?_
  refine lv_iload_n hx hb dJ6_bitCount_1 rfl (lv_at hl 0 rfl) ?_
  refine lv_iconst (v := nI 1) hx hb dJ6_bitCount_2 (by decide +kernel) ?_
  refine lv_iushr (v := nI (x / 2)) hx hb dJ6_bitCount_3 (pk_ushrN (n := x) (by omega) (nI 1) 1 (by decide +kernel)) ?_
  refine lv_ldcw hx hb hown (hts _ tw_184) dJ6_bitCount_4 ?_
  refine lv_iand hx hb dJ6_bitCount_7 ?_
  refine lv_topi (fun z_1 ez_1 => ?_)
  have ez_1 : z_1 = nI (x / 2 &&& 1431655765) := by rw [ez_1]; show _ &&& nI 1431655765 = _; exact kb_and _ _
  subst ez_1
  refine lv_isub hx hb dJ6_bitCount_8 ?_
  refine lv_topi (fun z_2 ez_2 => ?_)
  have ez_2 : z_2 = nI a9 := by rw [ez_2]; rw [pk_sub h1, ea]
  subst ez_2
  refine lv_istore_n (lv' := [(0, .int (nI a9))]) hx hb dJ6_bitCount_9 rfl hl (by decide) rfl (fun ls hl => ?_)
  refine lv_iload_n hx hb dJ6_bitCount_10 rfl (lv_at hl 0 rfl) ?_
  refine lv_ldcw hx hb hown (hts _ tw_185) dJ6_bitCount_11 ?_
  refine lv_iand hx hb dJ6_bitCount_14 ?_
  refine lv_topi (fun z_3 ez_3 => ?_)
  have ez_3 : z_3 = nI (a9 &&& 858993459) := by rw [ez_3]; show _ &&& nI 858993459 = _; exact kb_and _ _
  subst ez_3
  refine lv_iload_n hx hb dJ6_bitCount_15 rfl (lv_at hl 0 rfl) ?_
  refine lv_iconst (v := nI 2) hx hb dJ6_bitCount_16 (by decide +kernel) ?_
  refine lv_iushr (v := nI (a9 / 4)) hx hb dJ6_bitCount_17 (pk_ushrN (n := a9) (by omega) (nI 2) 2 (by decide +kernel)) ?_
  refine lv_ldcw hx hb hown (hts _ tw_185) dJ6_bitCount_18 ?_
  refine lv_iand hx hb dJ6_bitCount_21 ?_
  refine lv_topi (fun z_4 ez_4 => ?_)
  have ez_4 : z_4 = nI (a9 / 4 &&& 858993459) := by rw [ez_4]; show _ &&& nI 858993459 = _; exact kb_and _ _
  subst ez_4
  refine lv_iadd hx hb dJ6_bitCount_22 ?_
  refine lv_topi (fun z_5 ez_5 => ?_)
  have ez_5 : z_5 = nI b9 := by rw [ez_5]; rw [nI_add, eb]
  subst ez_5
  refine lv_istore_n (lv' := [(0, .int (nI b9))]) hx hb dJ6_bitCount_23 rfl hl (by decide) rfl (fun ls hl => ?_)
  refine lv_iload_n hx hb dJ6_bitCount_24 rfl (lv_at hl 0 rfl) ?_
  refine lv_iload_n hx hb dJ6_bitCount_25 rfl (lv_at hl 0 rfl) ?_
  refine lv_iconst (v := nI 4) hx hb dJ6_bitCount_26 (by decide +kernel) ?_
  refine lv_iushr (v := nI (b9 / 16)) hx hb dJ6_bitCount_27 (pk_ushrN (n := b9) (by omega) (nI 4) 4 (by decide +kernel)) ?_
  refine lv_iadd hx hb dJ6_bitCount_28 ?_
  refine lv_topi (fun z_6 ez_6 => ?_)
  have ez_6 : z_6 = nI (b9 + b9 / 16) := by rw [ez_6]; exact nI_add _ _
  subst ez_6
  refine lv_ldcw hx hb hown (hts _ tw_186) dJ6_bitCount_29 ?_
  refine lv_iand hx hb dJ6_bitCount_32 ?_
  refine lv_topi (fun z_7 ez_7 => ?_)
  have ez_7 : z_7 = nI d9 := by rw [ez_7]; show _ &&& nI 252645135 = _; rw [kb_and, ed]
  subst ez_7
  refine lv_istore_n (lv' := [(0, .int (nI d9))]) hx hb dJ6_bitCount_33 rfl hl (by decide) rfl (fun ls hl => ?_)
  refine lv_iload_n hx hb dJ6_bitCount_34 rfl (lv_at hl 0 rfl) ?_
  refine lv_iload_n hx hb dJ6_bitCount_35 rfl (lv_at hl 0 rfl) ?_
  refine lv_bipush (v := nI 8) hx hb dJ6_bitCount_36 (by decide +kernel) ?_
  refine lv_iushr (v := nI (d9 / 256)) hx hb dJ6_bitCount_38 (pk_ushrN (n := d9) (by omega) (nI 8) 8 (by decide +kernel)) ?_
  refine lv_iadd hx hb dJ6_bitCount_39 ?_
  refine lv_topi (fun z_8 ez_8 => ?_)
  have ez_8 : z_8 = nI f9 := by rw [ez_8]; rw [nI_add, ef]
  subst ez_8
  refine lv_istore_n (lv' := [(0, .int (nI f9))]) hx hb dJ6_bitCount_40 rfl hl (by decide) rfl (fun ls hl => ?_)
  refine lv_iload_n hx hb dJ6_bitCount_41 rfl (lv_at hl 0 rfl) ?_
  refine lv_iload_n hx hb dJ6_bitCount_42 rfl (lv_at hl 0 rfl) ?_
  refine lv_bipush (v := nI 16) hx hb dJ6_bitCount_43 (by decide +kernel) ?_
  refine lv_iushr (v := nI (f9 / 65536)) hx hb dJ6_bitCount_45 (pk_ushrN (n := f9) (by omega) (nI 16) 16 (by decide +kernel)) ?_
  refine lv_iadd hx hb dJ6_bitCount_46 ?_
  refine lv_topi (fun z_9 ez_9 => ?_)
  have ez_9 : z_9 = nI (f9 + f9 / 65536) := by rw [ez_9]; exact nI_add _ _
  subst ez_9
  refine lv_istore_n (lv' := [(0, .int (nI (f9 + f9 / 65536)))]) hx hb dJ6_bitCount_47 rfl hl (by decide) rfl (fun ls hl => ?_)
  refine lv_iload_n hx hb dJ6_bitCount_48 rfl (lv_at hl 0 rfl) ?_
  refine lv_bipush (v := nI 63) hx hb dJ6_bitCount_49 (by decide +kernel) ?_
  refine lv_iand hx hb dJ6_bitCount_51 ?_
  refine lv_topi (fun z_10 ez_10 => ?_)
  have ez_10 : z_10 = nI (cf_card 32 x) := by rw [ez_10]; rw [kb_and, hcnt]
  subst ez_10
  exact kx_iret (v := nI (cf_card 32 x)) hx hb hr rfl hlocks hK hP hD hS dJ6_bitCount_52 (⟨rfl, rfl⟩)
