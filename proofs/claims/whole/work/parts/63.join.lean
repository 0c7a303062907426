def mA (me : Nat → Nat) (i : Nat) : Nat → Nat := fun e => me (24 * i + 2 * e)
def mB (me : Nat → Nat) (i : Nat) : Nat → Nat := fun e => me (24 * i + 2 * e + 1)
theorem kb_i2b : ∀ x, x < 128 → (nI x).toInt8.toInt32 = nI x := by decide +kernel
theorem jn_yes {A B : Nat → Nat} {S e : Nat} (h : S.testBit e = true) (h2 : (jn A B S e).1 (A e) ≠ (jn A B S e).1 (B e)) : jn A B S (e + 1) = (fun v => if (jn A B S e).1 v = (jn A B S e).1 (B e) then (jn A B S e).1 (A e) else (jn A B S e).1 v, (jn A B S e).2 + 1) := by simp only [jn]; rw [if_pos ⟨h, h2⟩]
theorem jn_no {A B : Nat → Nat} {S e : Nat} (h : ¬ (S.testBit e = true ∧ (jn A B S e).1 (A e) ≠ (jn A B S e).1 (B e))) : jn A B S (e + 1) = jn A B S e := by simp only [jn]; rw [if_neg h]

set_option maxHeartbeats 4000000 in
set_option maxRecDepth 100000 in
/-- the model: join -/
theorem m_join (l : Launch) (D : va_G) (k0 : Nat → ClassId)  (w0 : va_W) (sz : Nat) (q : Nat) (am mv mc mo me : Nat → Nat) (mw : Nat → Int32) (mm : Nat → Nat) (mk : Nat) (mn fb sb : Nat → Nat) (hM : atM w0 q k0 am mv mc mo me mw mm mk mn fb sb) (hI : minv mv mc mo me mw) (i S : Nat) (h8i : i < 8) (hSb : S < 2 ^ 31) : kx_i l yX3_join wsX3_join ({ frames := 0, cells := 0, slots := 0, locals := 0 } : Room) D (tyL k0) w0 sz [.ref (am 0), .int (nI i), .int (nI S)] (fun (r : Int32) (u : va_W) => ∃ mn9 : Nat → Nat, r = nI (jn (mA me i) (mB me i) S (mc i)).2 ∧ (∀ v, v < 32 → mn9 v = (jn (mA me i) (mB me i) S (mc i)).1 v) ∧ u[q + 7]? = some (am 7, .inl (k0 0, 32, .inl (fun j => nI (mn9 j)))) ∧ kx_fr w0 u (fun j => j = q + 7)) 0 0 := by
  refine kx_of (Qf := fun A => va_Qi (fun (r : Int32) (u : va_W) => ∃ mn9 : Nat → Nat, r = nI (jn (mA me i) (mB me i) S (mc i)).2 ∧ (∀ v, v < 32 → mn9 v = (jn (mA me i) (mB me i) S (mc i)).1 v) ∧ u[q + 7]? = some (am 7, .inl (k0 0, 32, .inl (fun j => nI (mn9 j)))) ∧ kx_fr w0 u (fun j => j = q + 7)) (kx_B D (tyL k0) A) A) (cc := cX3_join) (maxL := 8) (ret := (some .int)) (by decide +kernel) (Nat.le_of_ble_eq_true rfl) ?_
  intro p e s m below meth c A ls hx hb hml hown hts hr hlocks hnm hN hK hP hD hS hA hl
  have hown : s.vm.findClass RX3 = some m.cls := hown
  have hl : lv_has ls 8 [(0, .ref (am 0)), (1, .int (nI i)), (2, .int (nI S))] := hl
  have hfr : kx_fr w0 w0 (fun j => j = q + 7) := kx_fr_rf _ _
  obtain ⟨hM0, hM1, hM2, hM3, hM4, hM5, hM6, hM7, hM8, hM9⟩ := id hM
  obtain ⟨hni, hvi, hoi, he2i, hw2i⟩ := hI i h8i
  refine lv_iconst (v := nI 0) hx hb dX3_join_0 (by decide +kernel) ?_
  refine lv_istore_n (lv' := [(3, .int (nI 0)), (0, .ref (am 0)), (1, .int (nI i)), (2, .int (nI S))]) hx hb dX3_join_1 rfl hl (by decide) rfl (fun ls hl => ?_)
  have loop_2 : ∀ (n2 : Nat) (v9 : Nat) (mn1 : Nat → Nat), (v9 ≤ 32) → (∀ v, v < v9 → mn1 v = v) → (33 ≤ v9 + n2) → ∀ (w1 : va_W), w1[q]? = some (am 0, .inr (3, [.ref (am 1), .ref (am 2), .ref (am 3), .ref (am 4), .ref (am 5), .ref (am 6), .int (nI mk), .ref (am 7), .ref (am 8), .ref (am 9)])) → w1[q + 1]? = some (am 1, .inl (k0 0, 8, .inl (fun y9 => nI (mv y9)))) → w1[q + 2]? = some (am 2, .inl (k0 0, 8, .inl (fun y9 => nI (mc y9)))) → w1[q + 3]? = some (am 3, .inl (k0 2, 8, .inl (fun y9 => nI (mo y9)))) → w1[q + 4]? = some (am 4, .inl (k0 0, 192, .inl (fun y9 => nI (me y9)))) → w1[q + 5]? = some (am 5, .inl (k0 0, 96, .inl mw)) → w1[q + 6]? = some (am 6, .inl (k0 0, 24, .inl (fun y9 => nI (mm y9)))) → w1[q + 7]? = some (am 7, .inl (k0 0, 32, .inl (fun y9 => nI (mn1 y9)))) → w1[q + 8]? = some (am 8, .inl (k0 3, 4096, .inl (fun y9 => nI (fb y9)))) → w1[q + 9]? = some (am 9, .inl (k0 3, 4096, .inl (fun y9 => nI (sb y9)))) → kx_fr w0 w1 (fun j => j = q + 7) → ∀ (H : Heap) (locs : List Loc), va_P D vwCl w1 H → va_D A w1 → va_S A s.heap H locs → ∀ (ls : Array Slot), lv_has ls 8 [(3, .int (nI v9)), (0, .ref (am 0)), (1, .int (nI i)), (2, .int (nI S))] → W p l e ({ frames := 0, cells := 0, slots := 0, locals := 0 } : Room) s m ([.ref (am 0), .int (nI i), .int (nI S)] : List Value).toArray below meth c H locs 0 0 (MQ below (va_Qi (fun (r : Int32) (u : va_W) => ∃ mn9 : Nat → Nat, r = nI (jn (mA me i) (mB me i) S (mc i)).2 ∧ (∀ v, v < 32 → mn9 v = (jn (mA me i) (mB me i) S (mc i)).1 v) ∧ u[q + 7]? = some (am 7, .inl (k0 0, 32, .inl (fun j => nI (mn9 j)))) ∧ kx_fr w0 u (fun j => j = q + 7)) (kx_B D (tyL k0) A) A) ([.ref (am 0), .int (nI i), .int (nI S)] : List Value).toArray s 0 0 A) (F0 m 2 ls []) := by
    intro n2
    induction n2 with
    | zero =>
      intro v9 mn1 hv9 hmn hme
      exact absurd hme (by omega)
    | succ n2 ih2 =>
      intro v9 mn1 hv9 hmn hme w1 F2_0 F2_1 F2_2 F2_3 F2_4 F2_5 F2_6 F2_7 F2_8 F2_9 hfr H locs hP hD hS ls hl
      refine lv_iload_n hx hb dX3_join_2 rfl (lv_at hl 0 rfl) ?_
      refine lv_bipush (v := nI 32) hx hb dX3_join_3 (by decide +kernel) ?_
      refine lv_icmp_ge (tgt := 21) hx hb dX3_join_5 (by decide) (fun c_5 => ?_) (fun c_5 => ?_)
      · skip
        have hik : v9 = 32 := by
          have := (nI_leI (by omega) (by omega)).mp c_5
          omega
        subst hik
        refine lv_iconst (v := nI 0) hx hb dX3_join_21 (by decide +kernel) ?_
        refine lv_istore_n (lv' := [(3, .int (nI 0)), (0, .ref (am 0)), (1, .int (nI i)), (2, .int (nI S))]) hx hb dX3_join_22 rfl hl (by decide) rfl (fun ls hl => ?_)
        refine lv_iconst (v := nI 0) hx hb dX3_join_23 (by decide +kernel) ?_
        refine lv_istore (lv' := [(4, .int (nI 0)), (3, .int (nI 0)), (0, .ref (am 0)), (1, .int (nI i)), (2, .int (nI S))]) hx hb dX3_join_24 hl (by decide) rfl (fun ls hl => ?_)
        have loop_26 : ∀ (n26 : Nat) (e9 : Nat) (mn1 : Nat → Nat), (e9 ≤ mc i) → (∀ v, v < 32 → mn1 v = (jn (mA me i) (mB me i) S e9).1 v) → (mc i + 1 ≤ e9 + n26) → ∀ (w2 : va_W), w2[q]? = some (am 0, .inr (3, [.ref (am 1), .ref (am 2), .ref (am 3), .ref (am 4), .ref (am 5), .ref (am 6), .int (nI mk), .ref (am 7), .ref (am 8), .ref (am 9)])) → w2[q + 1]? = some (am 1, .inl (k0 0, 8, .inl (fun y9 => nI (mv y9)))) → w2[q + 2]? = some (am 2, .inl (k0 0, 8, .inl (fun y9 => nI (mc y9)))) → w2[q + 3]? = some (am 3, .inl (k0 2, 8, .inl (fun y9 => nI (mo y9)))) → w2[q + 4]? = some (am 4, .inl (k0 0, 192, .inl (fun y9 => nI (me y9)))) → w2[q + 5]? = some (am 5, .inl (k0 0, 96, .inl mw)) → w2[q + 6]? = some (am 6, .inl (k0 0, 24, .inl (fun y9 => nI (mm y9)))) → w2[q + 7]? = some (am 7, .inl (k0 0, 32, .inl (fun y9 => nI (mn1 y9)))) → w2[q + 8]? = some (am 8, .inl (k0 3, 4096, .inl (fun y9 => nI (fb y9)))) → w2[q + 9]? = some (am 9, .inl (k0 3, 4096, .inl (fun y9 => nI (sb y9)))) → kx_fr w0 w2 (fun j => j = q + 7) → ∀ (H : Heap) (locs : List Loc), va_P D vwCl w2 H → va_D A w2 → va_S A s.heap H locs → ∀ (ls : Array Slot), lv_has ls 8 [(4, .int (nI e9)), (3, .int (nI ((jn (mA me i) (mB me i) S e9).2))), (0, .ref (am 0)), (1, .int (nI i)), (2, .int (nI S))] → W p l e ({ frames := 0, cells := 0, slots := 0, locals := 0 } : Room) s m ([.ref (am 0), .int (nI i), .int (nI S)] : List Value).toArray below meth c H locs 0 0 (MQ below (va_Qi (fun (r : Int32) (u : va_W) => ∃ mn9 : Nat → Nat, r = nI (jn (mA me i) (mB me i) S (mc i)).2 ∧ (∀ v, v < 32 → mn9 v = (jn (mA me i) (mB me i) S (mc i)).1 v) ∧ u[q + 7]? = some (am 7, .inl (k0 0, 32, .inl (fun j => nI (mn9 j)))) ∧ kx_fr w0 u (fun j => j = q + 7)) (kx_B D (tyL k0) A) A) ([.ref (am 0), .int (nI i), .int (nI S)] : List Value).toArray s 0 0 A) (F0 m 26 ls []) := by
          intro n26
          induction n26 with
          | zero =>
            intro e9 mn1 he hmn hme
            exact absurd hme (by omega)
          | succ n26 ih26 =>
            intro e9 mn1 he hmn hme w2 F26_0 F26_1 F26_2 F26_3 F26_4 F26_5 F26_6 F26_7 F26_8 F26_9 hfr H locs hP hD hS ls hl
            refine lv_iload hx hb dX3_join_26 (lv_at hl 0 rfl) ?_
            refine lv_aload_n hx hb dX3_join_28 rfl (lv_at hl 2 rfl) ?_
            refine va_get (D := D) (ci := 3) (v := .ref (am 2)) (C := RX3) (T := TX3) (N := 10) hx hb hts inX3 hown hK hP q F26_0 rfl 1 (by decide) (hts _ tw_251) (fun _ h9 => h9) rfl dX3_join_29 ?_
            refine lv_iload_n hx hb dX3_join_32 rfl (lv_at hl 3 rfl) ?_
            refine kx_nald hx hb hK hP (q + 2) F26_2 rfl (i := i) (by omega) (by decide) dX3_join_33 ?_
            refine lv_icmp_ge (tgt := 154) hx hb dX3_join_34 (by decide) (fun c_34 => ?_) (fun c_34 => ?_)
            · skip
              have hik : e9 = mc i := by
                have := (nI_leI (by omega) (by omega)).mp c_34
                omega
              refine lv_iload_n hx hb dX3_join_154 rfl (lv_at hl 1 rfl) ?_
              exact kx_iret (v := nI ((jn (mA me i) (mB me i) S e9).2)) hx hb hr rfl hlocks hK hP hD hS dX3_join_155 (by rw [hik]; exact ⟨mn1, rfl, by rw [← hik]; exact hmn, F26_7, hfr⟩)
            · skip
              have hik : e9 < mc i := by
                rcases Nat.lt_or_ge (e9) (mc i) with h | h
                · exact h
                · exact absurd ((nI_leI (by omega) (by omega)).mpr h) c_34
              have hj1 := jn_lt (A := mA me i) (B := mB me i) (S := S) (n := mc i) (k := 32) (fun e he => by have := he2i e he; unfold mA; omega) e9 he
              refine lv_aload_n hx hb dX3_join_37 rfl (lv_at hl 2 rfl) ?_
              refine va_get (D := D) (ci := 3) (v := .ref (am 7)) (C := RX3) (T := TX3) (N := 10) hx hb hts inX3 hown hK hP q F26_0 rfl 7 (by decide) (hts _ tw_257) (fun _ h9 => h9) rfl dX3_join_38 ?_
              refine lv_aload_n hx hb dX3_join_41 rfl (lv_at hl 2 rfl) ?_
              refine va_get (D := D) (ci := 3) (v := .ref (am 4)) (C := RX3) (T := TX3) (N := 10) hx hb hts inX3 hown hK hP q F26_0 rfl 3 (by decide) (hts _ tw_253) (fun _ h9 => h9) rfl dX3_join_42 ?_
              refine lv_bipush (v := nI 24) hx hb dX3_join_45 (by decide +kernel) ?_
              refine lv_iload_n hx hb dX3_join_47 rfl (lv_at hl 3 rfl) ?_
              refine lv_imul hx hb dX3_join_48 ?_
              refine lv_topi (fun z_1 ez_1 => ?_)
              have ez_1 : z_1 = nI (24 * i) := by rw [ez_1]; exact pk_mul _ _
              subst ez_1
              refine lv_iconst (v := nI 2) hx hb dX3_join_49 (by decide +kernel) ?_
              refine lv_iload hx hb dX3_join_50 (lv_at hl 0 rfl) ?_
              refine lv_imul hx hb dX3_join_52 ?_
              refine lv_topi (fun z_2 ez_2 => ?_)
              have ez_2 : z_2 = nI (2 * e9) := by rw [ez_2]; exact pk_mul _ _
              subst ez_2
              refine lv_iadd hx hb dX3_join_53 ?_
              refine lv_topi (fun z_3 ez_3 => ?_)
              have ez_3 : z_3 = nI (24 * i + 2 * e9) := by rw [ez_3]; exact nI_add _ _
              subst ez_3
              refine kx_nald hx hb hK hP (q + 4) F26_4 rfl (i := (24 * i + 2 * e9)) (by omega) (by decide) dX3_join_54 ?_
              refine kx_nald hx hb hK hP (q + 7) F26_7 rfl (i := (me (24 * i + 2 * e9))) (by have := he2i e9 hik; omega) (by decide) dX3_join_55 ?_
              refine lv_topi (fun z_4 ez_4 => ?_)
              have ez_4 : z_4 = nI ((jn (mA me i) (mB me i) S e9).1 (mA me i e9)) := by rw [ez_4]; rw [hmn _ (by have := he2i e9 hik; omega)]; rfl
              subst ez_4
              refine lv_istore (lv' := [(5, .int (nI ((jn (mA me i) (mB me i) S e9).1 (mA me i e9)))), (4, .int (nI e9)), (3, .int (nI ((jn (mA me i) (mB me i) S e9).2))), (0, .ref (am 0)), (1, .int (nI i)), (2, .int (nI S))]) hx hb dX3_join_56 hl (by decide) rfl (fun ls hl => ?_)
              refine lv_aload_n hx hb dX3_join_58 rfl (lv_at hl 3 rfl) ?_
              refine va_get (D := D) (ci := 3) (v := .ref (am 7)) (C := RX3) (T := TX3) (N := 10) hx hb hts inX3 hown hK hP q F26_0 rfl 7 (by decide) (hts _ tw_257) (fun _ h9 => h9) rfl dX3_join_59 ?_
              refine lv_aload_n hx hb dX3_join_62 rfl (lv_at hl 3 rfl) ?_
              refine va_get (D := D) (ci := 3) (v := .ref (am 4)) (C := RX3) (T := TX3) (N := 10) hx hb hts inX3 hown hK hP q F26_0 rfl 3 (by decide) (hts _ tw_253) (fun _ h9 => h9) rfl dX3_join_63 ?_
              refine lv_bipush (v := nI 24) hx hb dX3_join_66 (by decide +kernel) ?_
              refine lv_iload_n hx hb dX3_join_68 rfl (lv_at hl 4 rfl) ?_
              refine lv_imul hx hb dX3_join_69 ?_
              refine lv_topi (fun z_5 ez_5 => ?_)
              have ez_5 : z_5 = nI (24 * i) := by rw [ez_5]; exact pk_mul _ _
              subst ez_5
              refine lv_iconst (v := nI 2) hx hb dX3_join_70 (by decide +kernel) ?_
              refine lv_iload hx hb dX3_join_71 (lv_at hl 1 rfl) ?_
              refine lv_imul hx hb dX3_join_73 ?_
              refine lv_topi (fun z_6 ez_6 => ?_)
              have ez_6 : z_6 = nI (2 * e9) := by rw [ez_6]; exact pk_mul _ _
              subst ez_6
              refine lv_iadd hx hb dX3_join_74 ?_
              refine lv_topi (fun z_7 ez_7 => ?_)
              have ez_7 : z_7 = nI (24 * i + 2 * e9) := by rw [ez_7]; exact nI_add _ _
              subst ez_7
              refine lv_iconst (v := nI 1) hx hb dX3_join_75 (by decide +kernel) ?_
              refine lv_iadd hx hb dX3_join_76 ?_
              refine lv_topi (fun z_8 ez_8 => ?_)
              have ez_8 : z_8 = nI (24 * i + 2 * e9 + 1) := by rw [ez_8]; exact nI_add _ _
              subst ez_8
              refine kx_nald hx hb hK hP (q + 4) F26_4 rfl (i := (24 * i + 2 * e9 + 1)) (by omega) (by decide) dX3_join_77 ?_
              refine kx_nald hx hb hK hP (q + 7) F26_7 rfl (i := (me (24 * i + 2 * e9 + 1))) (by have := he2i e9 hik; omega) (by decide) dX3_join_78 ?_
              refine lv_topi (fun z_9 ez_9 => ?_)
              have ez_9 : z_9 = nI ((jn (mA me i) (mB me i) S e9).1 (mB me i e9)) := by rw [ez_9]; rw [hmn _ (by have := he2i e9 hik; omega)]; rfl
              subst ez_9
              refine lv_istore (lv' := [(6, .int (nI ((jn (mA me i) (mB me i) S e9).1 (mB me i e9)))), (5, .int (nI ((jn (mA me i) (mB me i) S e9).1 (mA me i e9)))), (4, .int (nI e9)), (3, .int (nI ((jn (mA me i) (mB me i) S e9).2))), (0, .ref (am 0)), (1, .int (nI i)), (2, .int (nI S))]) hx hb dX3_join_79 hl (by decide) rfl (fun ls hl => ?_)
              refine lv_iload_n hx hb dX3_join_81 rfl (lv_at hl 6 rfl) ?_
              refine lv_iload hx hb dX3_join_82 (lv_at hl 2 rfl) ?_
              refine lv_ishr hx hb dX3_join_84 ?_
              refine lv_iconst (v := 1) hx hb dX3_join_85 (by decide +kernel) ?_
              refine lv_iand hx hb dX3_join_86 ?_
              refine lv_topi (fun z_10 ez_10 => ?_)
              have ez_10 : z_10 = nI (if S.testBit e9 = true then 1 else 0) := by rw [ez_10]; exact kb_has hSb (by omega)
              subst ez_10
              refine lv_iconst (v := 1) hx hb dX3_join_87 (by decide +kernel) ?_
              refine lv_icmp_ne (tgt := 148) hx hb dX3_join_88 (by decide) (fun c_88 => ?_) (fun c_88 => ?_)
              · skip
                have ej : (jn (mA me i) (mB me i) S (e9 + 1)) = (jn (mA me i) (mB me i) S e9) := jn_no (fun h => c_88 ((kb_bit1 _).mpr h.1))
                have e3 : (jn (mA me i) (mB me i) S e9).2 = (jn (mA me i) (mB me i) S (e9 + 1)).2 := by rw [ej]
                rw [e3] at hl
                refine lv_iinc (v := nI (e9 + 1)) (lv' := [(4, .int (nI (e9 + 1))), (6, .int (nI ((jn (mA me i) (mB me i) S e9).1 (mB me i e9)))), (5, .int (nI ((jn (mA me i) (mB me i) S e9).1 (mA me i e9)))), (3, .int (nI ((jn (mA me i) (mB me i) S (e9 + 1)).2))), (0, .ref (am 0)), (1, .int (nI i)), (2, .int (nI S))]) hx hb dX3_join_148 hl (k := 2) rfl (nI_1 _) (by decide) rfl (fun ls hl => ?_)
                refine lv_goto (tgt := 26) hx hb dX3_join_151 (by decide) ?_
                exact ih26 (e9 + 1) mn1 (by omega) (fun v hv => by rw [ej]; exact hmn v hv) (by omega) w2 F26_0 F26_1 F26_2 F26_3 F26_4 F26_5 F26_6 F26_7 F26_8 F26_9 hfr _ _ hP hD hS _ (lv_sub hl [0, 3, 4, 5, 6] rfl)
              · skip
                have hS1 : S.testBit e9 = true := (kb_bit1 _).mp c_88
                have ha32 := hj1 (mA me i e9) (by have := he2i e9 hik; unfold mA; omega)
                have hb32 := hj1 (mB me i e9) (by have := he2i e9 hik; unfold mB; omega)
                refine lv_iload hx hb dX3_join_91 (lv_at hl 1 rfl) ?_
                refine lv_iload hx hb dX3_join_93 (lv_at hl 0 rfl) ?_
                refine lv_icmp_eq (tgt := 148) hx hb dX3_join_95 (by decide) (fun c_95 => ?_) (fun c_95 => ?_)
                · skip
                  have ej : (jn (mA me i) (mB me i) S (e9 + 1)) = (jn (mA me i) (mB me i) S e9) := jn_no (fun h => h.2 ((nI_eq (by omega) (by omega)).mp c_95))
                  have e3 : (jn (mA me i) (mB me i) S e9).2 = (jn (mA me i) (mB me i) S (e9 + 1)).2 := by rw [ej]
                  rw [e3] at hl
                  refine lv_iinc (v := nI (e9 + 1)) (lv' := [(4, .int (nI (e9 + 1))), (6, .int (nI ((jn (mA me i) (mB me i) S e9).1 (mB me i e9)))), (5, .int (nI ((jn (mA me i) (mB me i) S e9).1 (mA me i e9)))), (3, .int (nI ((jn (mA me i) (mB me i) S (e9 + 1)).2))), (0, .ref (am 0)), (1, .int (nI i)), (2, .int (nI S))]) hx hb dX3_join_148 hl (k := 2) rfl (nI_1 _) (by decide) rfl (fun ls hl => ?_)
                  refine lv_goto (tgt := 26) hx hb dX3_join_151 (by decide) ?_
                  exact ih26 (e9 + 1) mn1 (by omega) (fun v hv => by rw [ej]; exact hmn v hv) (by omega) w2 F26_0 F26_1 F26_2 F26_3 F26_4 F26_5 F26_6 F26_7 F26_8 F26_9 hfr _ _ hP hD hS _ (lv_sub hl [0, 3, 4, 5, 6] rfl)
                · skip
                  have hab : ((jn (mA me i) (mB me i) S e9).1 (mA me i e9)) ≠ ((jn (mA me i) (mB me i) S e9).1 (mB me i e9)) := fun h => c_95 (by rw [h])
                  refine lv_iinc (v := nI ((jn (mA me i) (mB me i) S e9).2 + 1)) (lv' := [(3, .int (nI ((jn (mA me i) (mB me i) S e9).2 + 1))), (6, .int (nI ((jn (mA me i) (mB me i) S e9).1 (mB me i e9)))), (5, .int (nI ((jn (mA me i) (mB me i) S e9).1 (mA me i e9)))), (4, .int (nI e9)), (0, .ref (am 0)), (1, .int (nI i)), (2, .int (nI S))]) hx hb dX3_join_98 hl (k := 3) rfl (nI_1 _) (by decide) rfl (fun ls hl => ?_)
                  refine lv_iconst (v := nI 0) hx hb dX3_join_101 (by decide +kernel) ?_
                  refine lv_istore (lv' := [(7, .int (nI 0)), (3, .int (nI ((jn (mA me i) (mB me i) S e9).2 + 1))), (6, .int (nI ((jn (mA me i) (mB me i) S e9).1 (mB me i e9)))), (5, .int (nI ((jn (mA me i) (mB me i) S e9).1 (mA me i e9)))), (4, .int (nI e9)), (0, .ref (am 0)), (1, .int (nI i)), (2, .int (nI S))]) hx hb dX3_join_102 hl (by decide) rfl (fun ls hl => ?_)
                  have loop_104 : ∀ (n104 : Nat) (v9 : Nat) (mn2 : Nat → Nat), (v9 ≤ 32) → (∀ v, v < v9 → mn2 v = (if (jn (mA me i) (mB me i) S e9).1 v = ((jn (mA me i) (mB me i) S e9).1 (mB me i e9)) then ((jn (mA me i) (mB me i) S e9).1 (mA me i e9)) else (jn (mA me i) (mB me i) S e9).1 v)) → (∀ v, v9 ≤ v → v < 32 → mn2 v = (jn (mA me i) (mB me i) S e9).1 v) → (33 ≤ v9 + n104) → ∀ (w3 : va_W), w3[q]? = some (am 0, .inr (3, [.ref (am 1), .ref (am 2), .ref (am 3), .ref (am 4), .ref (am 5), .ref (am 6), .int (nI mk), .ref (am 7), .ref (am 8), .ref (am 9)])) → w3[q + 1]? = some (am 1, .inl (k0 0, 8, .inl (fun y9 => nI (mv y9)))) → w3[q + 2]? = some (am 2, .inl (k0 0, 8, .inl (fun y9 => nI (mc y9)))) → w3[q + 3]? = some (am 3, .inl (k0 2, 8, .inl (fun y9 => nI (mo y9)))) → w3[q + 4]? = some (am 4, .inl (k0 0, 192, .inl (fun y9 => nI (me y9)))) → w3[q + 5]? = some (am 5, .inl (k0 0, 96, .inl mw)) → w3[q + 6]? = some (am 6, .inl (k0 0, 24, .inl (fun y9 => nI (mm y9)))) → w3[q + 7]? = some (am 7, .inl (k0 0, 32, .inl (fun y9 => nI (mn2 y9)))) → w3[q + 8]? = some (am 8, .inl (k0 3, 4096, .inl (fun y9 => nI (fb y9)))) → w3[q + 9]? = some (am 9, .inl (k0 3, 4096, .inl (fun y9 => nI (sb y9)))) → kx_fr w0 w3 (fun j => j = q + 7) → ∀ (H : Heap) (locs : List Loc), va_P D vwCl w3 H → va_D A w3 → va_S A s.heap H locs → ∀ (ls : Array Slot), lv_has ls 8 [(7, .int (nI v9)), (3, .int (nI ((jn (mA me i) (mB me i) S e9).2 + 1))), (6, .int (nI ((jn (mA me i) (mB me i) S e9).1 (mB me i e9)))), (5, .int (nI ((jn (mA me i) (mB me i) S e9).1 (mA me i e9)))), (4, .int (nI e9)), (0, .ref (am 0)), (1, .int (nI i)), (2, .int (nI S))] → W p l e ({ frames := 0, cells := 0, slots := 0, locals := 0 } : Room) s m ([.ref (am 0), .int (nI i), .int (nI S)] : List Value).toArray below meth c H locs 0 0 (MQ below (va_Qi (fun (r : Int32) (u : va_W) => ∃ mn9 : Nat → Nat, r = nI (jn (mA me i) (mB me i) S (mc i)).2 ∧ (∀ v, v < 32 → mn9 v = (jn (mA me i) (mB me i) S (mc i)).1 v) ∧ u[q + 7]? = some (am 7, .inl (k0 0, 32, .inl (fun j => nI (mn9 j)))) ∧ kx_fr w0 u (fun j => j = q + 7)) (kx_B D (tyL k0) A) A) ([.ref (am 0), .int (nI i), .int (nI S)] : List Value).toArray s 0 0 A) (F0 m 104 ls []) := by
                    intro n104
                    induction n104 with
                    | zero =>
                      intro v9 mn2 hv9 hm2 hm3 hme
                      exact absurd hme (by omega)
                    | succ n104 ih104 =>
                      intro v9 mn2 hv9 hm2 hm3 hme w3 F104_0 F104_1 F104_2 F104_3 F104_4 F104_5 F104_6 F104_7 F104_8 F104_9 hfr H locs hP hD hS ls hl
                      refine lv_iload hx hb dX3_join_104 (lv_at hl 0 rfl) ?_
                      refine lv_bipush (v := nI 32) hx hb dX3_join_106 (by decide +kernel) ?_
                      refine lv_icmp_ge (tgt := 148) hx hb dX3_join_108 (by decide) (fun c_108 => ?_) (fun c_108 => ?_)
                      · skip
                        have hv32 : v9 = 32 := by
                          have := (nI_leI (by omega) (by omega)).mp c_108
                          omega
                        have ej := jn_yes hS1 hab
                        have e3 : ((jn (mA me i) (mB me i) S e9).2 + 1) = (jn (mA me i) (mB me i) S (e9 + 1)).2 := by rw [ej]
                        rw [e3] at hl
                        refine lv_iinc (v := nI (e9 + 1)) (lv' := [(4, .int (nI (e9 + 1))), (7, .int (nI v9)), (3, .int (nI ((jn (mA me i) (mB me i) S (e9 + 1)).2))), (6, .int (nI ((jn (mA me i) (mB me i) S e9).1 (mB me i e9)))), (5, .int (nI ((jn (mA me i) (mB me i) S e9).1 (mA me i e9)))), (0, .ref (am 0)), (1, .int (nI i)), (2, .int (nI S))]) hx hb dX3_join_148 hl (k := 4) rfl (nI_1 _) (by decide) rfl (fun ls hl => ?_)
                        refine lv_goto (tgt := 26) hx hb dX3_join_151 (by decide) ?_
                        exact ih26 (e9 + 1) mn2 (by omega) (fun v hv => by rw [ej]; exact hm2 v (by omega)) (by omega) w3 F104_0 F104_1 F104_2 F104_3 F104_4 F104_5 F104_6 F104_7 F104_8 F104_9 hfr _ _ hP hD hS _ (lv_sub hl [0, 2, 5, 6, 7] rfl)
                      · skip
                        have hik : v9 < 32 := by
                          rcases Nat.lt_or_ge (v9) (32) with h | h
                          · exact h
                          · exact absurd ((nI_leI (by omega) (by omega)).mpr h) c_108
                        have hx32 := hj1 v9 hik
                        refine lv_aload_n hx hb dX3_join_111 rfl (lv_at hl 5 rfl) ?_
                        refine va_get (D := D) (ci := 3) (v := .ref (am 7)) (C := RX3) (T := TX3) (N := 10) hx hb hts inX3 hown hK hP q F104_0 rfl 7 (by decide) (hts _ tw_257) (fun _ h9 => h9) rfl dX3_join_112 ?_
                        refine lv_iload hx hb dX3_join_115 (lv_at hl 0 rfl) ?_
                        refine lv_aload_n hx hb dX3_join_117 rfl (lv_at hl 5 rfl) ?_
                        refine va_get (D := D) (ci := 3) (v := .ref (am 7)) (C := RX3) (T := TX3) (N := 10) hx hb hts inX3 hown hK hP q F104_0 rfl 7 (by decide) (hts _ tw_257) (fun _ h9 => h9) rfl dX3_join_118 ?_
                        refine lv_iload hx hb dX3_join_121 (lv_at hl 0 rfl) ?_
                        refine kx_nald hx hb hK hP (q + 7) F104_7 rfl (i := v9) (by omega) (by decide) dX3_join_123 ?_
                        refine lv_iload hx hb dX3_join_124 (lv_at hl 2 rfl) ?_
                        refine lv_icmp_ne (tgt := 134) hx hb dX3_join_126 (by decide) (fun c_126 => ?_) (fun c_126 => ?_)
                        · skip
                          have hz9 : (if (jn (mA me i) (mB me i) S e9).1 v9 = ((jn (mA me i) (mB me i) S e9).1 (mB me i e9)) then ((jn (mA me i) (mB me i) S e9).1 (mA me i e9)) else (jn (mA me i) (mB me i) S e9).1 v9) = (jn (mA me i) (mB me i) S e9).1 v9 := by
                            rw [if_neg]
                            intro h
                            exact c_126 (by rw [hm3 v9 (Nat.le_refl _) hik, h])
                          refine lv_aload_n hx hb dX3_join_134 rfl (lv_at hl 5 rfl) ?_
                          refine va_get (D := D) (ci := 3) (v := .ref (am 7)) (C := RX3) (T := TX3) (N := 10) hx hb hts inX3 hown hK hP q F104_0 rfl 7 (by decide) (hts _ tw_257) (fun _ h9 => h9) rfl dX3_join_135 ?_
                          refine lv_iload hx hb dX3_join_138 (lv_at hl 0 rfl) ?_
                          refine kx_nald hx hb hK hP (q + 7) F104_7 rfl (i := v9) (by omega) (by decide) dX3_join_140 ?_
                          refine lv_topi (fun z_11 ez_11 => ?_)
                          have ez_11 : z_11 = nI ((jn (mA me i) (mB me i) S e9).1 v9) := by rw [ez_11]; rw [hm3 v9 (Nat.le_refl _) hik]
                          subst ez_11
                          refine kx_nast hx hb hK hP hD hS (q + 7) F104_7 rfl (i := v9) (x := ((jn (mA me i) (mB me i) S e9).1 v9)) (by omega) (by decide) dX3_join_141 (fun H locs hP hD hS => ?_)
                          obtain ⟨w_12, ew_12⟩ : ∃ w, w = w3.set (q + 7) (am 7, .inl (k0 0, 32, .inl (fun y9 => nI ((fo_up mn2 v9 ((jn (mA me i) (mB me i) S e9).1 v9)) y9)))) := ⟨_, rfl⟩
                          have hP : va_P D vwCl w_12 H := by rw [ew_12]; exact hP
                          have hD : va_D A w_12 := by rw [ew_12]; exact hD
                          have f_13 : w_12[q]? = some (am 0, .inr (3, [.ref (am 1), .ref (am 2), .ref (am 3), .ref (am 4), .ref (am 5), .ref (am 6), .int (nI mk), .ref (am 7), .ref (am 8), .ref (am 9)])) := by rw [ew_12]; exact kx_set_ne F104_0 (by omega)
                          have f_14 : w_12[q + 1]? = some (am 1, .inl (k0 0, 8, .inl (fun y9 => nI (mv y9)))) := by rw [ew_12]; exact kx_set_ne F104_1 (by omega)
                          have f_15 : w_12[q + 2]? = some (am 2, .inl (k0 0, 8, .inl (fun y9 => nI (mc y9)))) := by rw [ew_12]; exact kx_set_ne F104_2 (by omega)
                          have f_16 : w_12[q + 3]? = some (am 3, .inl (k0 2, 8, .inl (fun y9 => nI (mo y9)))) := by rw [ew_12]; exact kx_set_ne F104_3 (by omega)
                          have f_17 : w_12[q + 4]? = some (am 4, .inl (k0 0, 192, .inl (fun y9 => nI (me y9)))) := by rw [ew_12]; exact kx_set_ne F104_4 (by omega)
                          have f_18 : w_12[q + 5]? = some (am 5, .inl (k0 0, 96, .inl mw)) := by rw [ew_12]; exact kx_set_ne F104_5 (by omega)
                          have f_19 : w_12[q + 6]? = some (am 6, .inl (k0 0, 24, .inl (fun y9 => nI (mm y9)))) := by rw [ew_12]; exact kx_set_ne F104_6 (by omega)
                          have f_20 : w_12[q + 7]? = some (am 7, .inl (k0 0, 32, .inl (fun y9 => nI ((fo_up mn2 v9 ((jn (mA me i) (mB me i) S e9).1 v9)) y9)))) := by rw [ew_12]; exact kx_set_self F104_7
                          have f_21 : w_12[q + 8]? = some (am 8, .inl (k0 3, 4096, .inl (fun y9 => nI (fb y9)))) := by rw [ew_12]; exact kx_set_ne F104_8 (by omega)
                          have f_22 : w_12[q + 9]? = some (am 9, .inl (k0 3, 4096, .inl (fun y9 => nI (sb y9)))) := by rw [ew_12]; exact kx_set_ne F104_9 (by omega)
                          have hfr : kx_fr w0 w_12 (fun j => j = q + 7) := kx_fr_tr hfr (by rw [ew_12]; exact kx_fr_set (by omega))
                          refine lv_iinc (v := nI (v9 + 1)) (lv' := [(7, .int (nI (v9 + 1))), (3, .int (nI ((jn (mA me i) (mB me i) S e9).2 + 1))), (6, .int (nI ((jn (mA me i) (mB me i) S e9).1 (mB me i e9)))), (5, .int (nI ((jn (mA me i) (mB me i) S e9).1 (mA me i e9)))), (4, .int (nI e9)), (0, .ref (am 0)), (1, .int (nI i)), (2, .int (nI S))]) hx hb dX3_join_142 hl (k := 0) rfl (nI_1 _) (by decide) rfl (fun ls hl => ?_)
                          refine lv_goto (tgt := 104) hx hb dX3_join_145 (by decide) ?_
                          exact ih104 (v9 + 1) (fo_up mn2 v9 ((jn (mA me i) (mB me i) S e9).1 v9)) (by omega) (fun v h => by
                              rcases Nat.lt_or_ge v v9 with h2 | h2
                              · rw [fo_up_lt _ _ h2]; exact hm2 v h2
                              · rw [show v = v9 by omega, fo_up_self, hz9]) (fun v h h2 => by
                              have h3 : ¬ v = v9 := by omega
                              simp only [fo_up, if_neg h3]; exact hm3 v (by omega) h2) (by omega) w_12 f_13 f_14 f_15 f_16 f_17 f_18 f_19 f_20 f_21 f_22 hfr _ _ hP hD hS _ (lv_sub hl [0, 1, 2, 3, 4, 5, 6, 7] rfl)
                        · skip
                          have hz9 : (if (jn (mA me i) (mB me i) S e9).1 v9 = ((jn (mA me i) (mB me i) S e9).1 (mB me i e9)) then ((jn (mA me i) (mB me i) S e9).1 (mA me i e9)) else (jn (mA me i) (mB me i) S e9).1 v9) = ((jn (mA me i) (mB me i) S e9).1 (mA me i e9)) := by
                            rw [if_pos]
                            have h126 := c_126
                            rw [hm3 v9 (Nat.le_refl _) hik] at h126
                            exact (nI_eq (by omega) (by omega)).mp h126
                          refine lv_iload hx hb dX3_join_129 (lv_at hl 3 rfl) ?_
                          refine lv_goto (tgt := 141) hx hb dX3_join_131 (by decide) ?_
                          refine kx_nast hx hb hK hP hD hS (q + 7) F104_7 rfl (i := v9) (x := ((jn (mA me i) (mB me i) S e9).1 (mA me i e9))) (by omega) (by decide) dX3_join_141 (fun H locs hP hD hS => ?_)
                          obtain ⟨w_23, ew_23⟩ : ∃ w, w = w3.set (q + 7) (am 7, .inl (k0 0, 32, .inl (fun y9 => nI ((fo_up mn2 v9 ((jn (mA me i) (mB me i) S e9).1 (mA me i e9))) y9)))) := ⟨_, rfl⟩
                          have hP : va_P D vwCl w_23 H := by rw [ew_23]; exact hP
                          have hD : va_D A w_23 := by rw [ew_23]; exact hD
                          have f_24 : w_23[q]? = some (am 0, .inr (3, [.ref (am 1), .ref (am 2), .ref (am 3), .ref (am 4), .ref (am 5), .ref (am 6), .int (nI mk), .ref (am 7), .ref (am 8), .ref (am 9)])) := by rw [ew_23]; exact kx_set_ne F104_0 (by omega)
                          have f_25 : w_23[q + 1]? = some (am 1, .inl (k0 0, 8, .inl (fun y9 => nI (mv y9)))) := by rw [ew_23]; exact kx_set_ne F104_1 (by omega)
                          have f_26 : w_23[q + 2]? = some (am 2, .inl (k0 0, 8, .inl (fun y9 => nI (mc y9)))) := by rw [ew_23]; exact kx_set_ne F104_2 (by omega)
                          have f_27 : w_23[q + 3]? = some (am 3, .inl (k0 2, 8, .inl (fun y9 => nI (mo y9)))) := by rw [ew_23]; exact kx_set_ne F104_3 (by omega)
                          have f_28 : w_23[q + 4]? = some (am 4, .inl (k0 0, 192, .inl (fun y9 => nI (me y9)))) := by rw [ew_23]; exact kx_set_ne F104_4 (by omega)
                          have f_29 : w_23[q + 5]? = some (am 5, .inl (k0 0, 96, .inl mw)) := by rw [ew_23]; exact kx_set_ne F104_5 (by omega)
                          have f_30 : w_23[q + 6]? = some (am 6, .inl (k0 0, 24, .inl (fun y9 => nI (mm y9)))) := by rw [ew_23]; exact kx_set_ne F104_6 (by omega)
                          have f_31 : w_23[q + 7]? = some (am 7, .inl (k0 0, 32, .inl (fun y9 => nI ((fo_up mn2 v9 ((jn (mA me i) (mB me i) S e9).1 (mA me i e9))) y9)))) := by rw [ew_23]; exact kx_set_self F104_7
                          have f_32 : w_23[q + 8]? = some (am 8, .inl (k0 3, 4096, .inl (fun y9 => nI (fb y9)))) := by rw [ew_23]; exact kx_set_ne F104_8 (by omega)
                          have f_33 : w_23[q + 9]? = some (am 9, .inl (k0 3, 4096, .inl (fun y9 => nI (sb y9)))) := by rw [ew_23]; exact kx_set_ne F104_9 (by omega)
                          have hfr : kx_fr w0 w_23 (fun j => j = q + 7) := kx_fr_tr hfr (by rw [ew_23]; exact kx_fr_set (by omega))
                          refine lv_iinc (v := nI (v9 + 1)) (lv' := [(7, .int (nI (v9 + 1))), (3, .int (nI ((jn (mA me i) (mB me i) S e9).2 + 1))), (6, .int (nI ((jn (mA me i) (mB me i) S e9).1 (mB me i e9)))), (5, .int (nI ((jn (mA me i) (mB me i) S e9).1 (mA me i e9)))), (4, .int (nI e9)), (0, .ref (am 0)), (1, .int (nI i)), (2, .int (nI S))]) hx hb dX3_join_142 hl (k := 0) rfl (nI_1 _) (by decide) rfl (fun ls hl => ?_)
                          refine lv_goto (tgt := 104) hx hb dX3_join_145 (by decide) ?_
                          exact ih104 (v9 + 1) (fo_up mn2 v9 ((jn (mA me i) (mB me i) S e9).1 (mA me i e9))) (by omega) (fun v h => by
                              rcases Nat.lt_or_ge v v9 with h2 | h2
                              · rw [fo_up_lt _ _ h2]; exact hm2 v h2
                              · rw [show v = v9 by omega, fo_up_self, hz9]) (fun v h h2 => by
                              have h3 : ¬ v = v9 := by omega
                              simp only [fo_up, if_neg h3]; exact hm3 v (by omega) h2) (by omega) w_23 f_24 f_25 f_26 f_27 f_28 f_29 f_30 f_31 f_32 f_33 hfr _ _ hP hD hS _ (lv_sub hl [0, 1, 2, 3, 4, 5, 6, 7] rfl)
                  exact loop_104 (33) 0 mn1 (by omega) (fun v h => absurd h (Nat.not_lt_zero v)) (fun v _ h => hmn v h) (by omega) w2 F26_0 F26_1 F26_2 F26_3 F26_4 F26_5 F26_6 F26_7 F26_8 F26_9 hfr _ _ hP hD hS _ (lv_sub hl [0, 1, 2, 3, 4, 5, 6, 7] rfl)
        exact loop_26 (mc i + 1) 0 mn1 (Nat.zero_le _) (fun v hv => hmn v hv) (by omega) w1 F2_0 F2_1 F2_2 F2_3 F2_4 F2_5 F2_6 F2_7 F2_8 F2_9 hfr _ _ hP hD hS _ (lv_sub hl [0, 1, 2, 3, 4] rfl)
      · skip
        have hik : v9 < 32 := by
          rcases Nat.lt_or_ge (v9) (32) with h | h
          · exact h
          · exact absurd ((nI_leI (by omega) (by omega)).mpr h) c_5
        refine lv_aload_n hx hb dX3_join_8 rfl (lv_at hl 1 rfl) ?_
        refine va_get (D := D) (ci := 3) (v := .ref (am 7)) (C := RX3) (T := TX3) (N := 10) hx hb hts inX3 hown hK hP q F2_0 rfl 7 (by decide) (hts _ tw_257) (fun _ h9 => h9) rfl dX3_join_9 ?_
        refine lv_iload_n hx hb dX3_join_12 rfl (lv_at hl 0 rfl) ?_
        refine lv_iload_n hx hb dX3_join_13 rfl (lv_at hl 0 rfl) ?_
        refine kx_nast hx hb hK hP hD hS (q + 7) F2_7 rfl (i := v9) (x := v9) (by omega) (by decide) dX3_join_14 (fun H locs hP hD hS => ?_)
        obtain ⟨w_34, ew_34⟩ : ∃ w, w = w1.set (q + 7) (am 7, .inl (k0 0, 32, .inl (fun y9 => nI ((fo_up mn1 v9 v9) y9)))) := ⟨_, rfl⟩
        have hP : va_P D vwCl w_34 H := by rw [ew_34]; exact hP
        have hD : va_D A w_34 := by rw [ew_34]; exact hD
        have f_35 : w_34[q]? = some (am 0, .inr (3, [.ref (am 1), .ref (am 2), .ref (am 3), .ref (am 4), .ref (am 5), .ref (am 6), .int (nI mk), .ref (am 7), .ref (am 8), .ref (am 9)])) := by rw [ew_34]; exact kx_set_ne F2_0 (by omega)
        have f_36 : w_34[q + 1]? = some (am 1, .inl (k0 0, 8, .inl (fun y9 => nI (mv y9)))) := by rw [ew_34]; exact kx_set_ne F2_1 (by omega)
        have f_37 : w_34[q + 2]? = some (am 2, .inl (k0 0, 8, .inl (fun y9 => nI (mc y9)))) := by rw [ew_34]; exact kx_set_ne F2_2 (by omega)
        have f_38 : w_34[q + 3]? = some (am 3, .inl (k0 2, 8, .inl (fun y9 => nI (mo y9)))) := by rw [ew_34]; exact kx_set_ne F2_3 (by omega)
        have f_39 : w_34[q + 4]? = some (am 4, .inl (k0 0, 192, .inl (fun y9 => nI (me y9)))) := by rw [ew_34]; exact kx_set_ne F2_4 (by omega)
        have f_40 : w_34[q + 5]? = some (am 5, .inl (k0 0, 96, .inl mw)) := by rw [ew_34]; exact kx_set_ne F2_5 (by omega)
        have f_41 : w_34[q + 6]? = some (am 6, .inl (k0 0, 24, .inl (fun y9 => nI (mm y9)))) := by rw [ew_34]; exact kx_set_ne F2_6 (by omega)
        have f_42 : w_34[q + 7]? = some (am 7, .inl (k0 0, 32, .inl (fun y9 => nI ((fo_up mn1 v9 v9) y9)))) := by rw [ew_34]; exact kx_set_self F2_7
        have f_43 : w_34[q + 8]? = some (am 8, .inl (k0 3, 4096, .inl (fun y9 => nI (fb y9)))) := by rw [ew_34]; exact kx_set_ne F2_8 (by omega)
        have f_44 : w_34[q + 9]? = some (am 9, .inl (k0 3, 4096, .inl (fun y9 => nI (sb y9)))) := by rw [ew_34]; exact kx_set_ne F2_9 (by omega)
        have hfr : kx_fr w0 w_34 (fun j => j = q + 7) := kx_fr_tr hfr (by rw [ew_34]; exact kx_fr_set (by omega))
        refine lv_iinc (v := nI (v9 + 1)) (lv' := [(3, .int (nI (v9 + 1))), (0, .ref (am 0)), (1, .int (nI i)), (2, .int (nI S))]) hx hb dX3_join_15 hl (k := 0) rfl (nI_1 _) (by decide) rfl (fun ls hl => ?_)
        refine lv_goto (tgt := 2) hx hb dX3_join_18 (by decide) ?_
        exact ih2 (v9 + 1) (fo_up mn1 v9 v9) (by omega) (fun v h => by
            rcases Nat.lt_or_ge v v9 with h2 | h2
            · rw [fo_up_lt _ _ h2]; exact hmn v h2
            · rw [show v = v9 by omega, fo_up_self]) (by omega) w_34 f_35 f_36 f_37 f_38 f_39 f_40 f_41 f_42 f_43 f_44 hfr _ _ hP hD hS _ (lv_sub hl [0, 1, 2, 3] rfl)
  exact loop_2 (33) 0 mn (by omega) (fun v h => absurd h (Nat.not_lt_zero v)) (by omega) w0 hM0 hM1 hM2 hM3 hM4 hM5 hM6 hM7 hM8 hM9 hfr _ _ hP hD hS _ (lv_sub hl [0, 1, 2, 3] rfl)
