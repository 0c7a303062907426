theorem tw_min : Cond.code Lib.Math.min.name Lib.Math.min.code 2 (some .int) ∈ lw_gd := List.mem_filter.mpr ⟨List.mem_of_getElem? (i := 154) (by decide +kernel), by decide +kernel⟩
theorem tw_obj : Cond.code Lib.objectInit ⟨#[0xb1]⟩ 1 none ∈ lw_gd := List.mem_filter.mpr ⟨List.mem_of_getElem? (i := 32) (by decide +kernel), by decide +kernel⟩

set_option maxHeartbeats 4000000 in
set_option maxRecDepth 100000 in
/-- has(set, e): is the edge in the set -/
theorem c_has (l : Launch) (D : va_G) (k0 : Nat → ClassId)  (w0 : va_W) (sz : Nat) (S e9 : Nat) (hSb : S < 2 ^ 31) (he : e9 < 32) : kx_i l yX2_has wsX2_has ({ frames := 0, cells := 0, slots := 0, locals := 0 } : Room) D (tyL k0) w0 sz [.int (nI S), .int (nI e9)] (fun (r : Int32) (u : va_W) => r = nI (if S.testBit e9 = true then 1 else 0) ∧ u = w0) 0 0 := by
  refine kx_of (Qf := fun A => va_Qi (fun (r : Int32) (u : va_W) => r = nI (if S.testBit e9 = true then 1 else 0) ∧ u = w0) (kx_B D (tyL k0) A) A) (cc := cX2_has) (maxL := 2) (ret := (some .boolean)) (by decide +kernel) (Nat.le_of_ble_eq_true rfl) ?_
  intro p e s m below meth c A ls hx hb hml hown hts hr hlocks hnm hN hK hP hD hS hA hl
  have hown : s.vm.findClass RX2 = some m.cls := hown
  have hl : lv_has ls 2 [(0, .int (nI S)), (1, .int (nI e9))] := hl
  skip
  refine lv_iload_n hx hb dX2_has_0 rfl (lv_at hl 0 rfl) ?_
  refine lv_iload_n hx hb dX2_has_1 rfl (lv_at hl 1 rfl) ?_
  refine lv_ishr hx hb dX2_has_2 ?_
  refine lv_iconst (v := 1) hx hb dX2_has_3 (by decide +kernel) ?_
  refine lv_iand hx hb dX2_has_4 ?_
  refine lv_topi (fun z_1 ez_1 => ?_)
  have ez_1 : z_1 = nI (if S.testBit e9 = true then 1 else 0) := by rw [ez_1]; exact kb_has hSb he
  subst ez_1
  refine lv_if_eq (tgt := 12) hx hb dX2_has_5 (by decide) (fun c_5 => ?_) (fun c_5 => ?_)
  · skip
    have hc : S.testBit e9 = false := (kb_bool _).mp c_5
    refine lv_iconst (v := nI 0) hx hb dX2_has_12 (by decide +kernel) ?_
    exact kx_iret (v := nI 0) hx hb hr rfl hlocks hK hP hD hS dX2_has_13 (⟨by rw [hc]; rfl, rfl⟩)
  · skip
    have hc : S.testBit e9 = true := by
      cases hq : S.testBit e9 with
      | true => rfl
      | false => exact absurd ((kb_bool _).mpr hq) c_5
    refine lv_iconst (v := nI 1) hx hb dX2_has_8 (by decide +kernel) ?_
    refine lv_goto (tgt := 13) hx hb dX2_has_9 (by decide) ?_
    exact kx_iret (v := nI 1) hx hb hr rfl hlocks hK hP hD hS dX2_has_13 (⟨by rw [hc]; rfl, rfl⟩)

set_option maxHeartbeats 4000000 in
set_option maxRecDepth 100000 in
/-- all(count) -/
theorem c_all (l : Launch) (D : va_G) (k0 : Nat → ClassId)  (w0 : va_W) (sz : Nat) (n : Nat) (hn : n ≤ 12) : kx_i l yX2_all wsX2_all ({ frames := 0, cells := 0, slots := 0, locals := 0 } : Room) D (tyL k0) w0 sz [.int (nI n)] (fun (r : Int32) (u : va_W) => r = nI (cf_full n) ∧ u = w0) 0 0 := by
  refine kx_of (Qf := fun A => va_Qi (fun (r : Int32) (u : va_W) => r = nI (cf_full n) ∧ u = w0) (kx_B D (tyL k0) A) A) (cc := cX2_all) (maxL := 1) (ret := (some .int)) (by decide +kernel) (Nat.le_of_ble_eq_true rfl) ?_
  intro p e s m below meth c A ls hx hb hml hown hts hr hlocks hnm hN hK hP hD hS hA hl
  have hown : s.vm.findClass RX2 = some m.cls := hown
  have hl : lv_has ls 1 [(0, .int (nI n))] := hl
  skip
  refine lv_iconst (v := 1) hx hb dX2_all_0 (by decide +kernel) ?_
  refine lv_iload_n hx hb dX2_all_1 rfl (lv_at hl 0 rfl) ?_
  refine lv_ishl hx hb dX2_all_2 ?_
  refine lv_iconst (v := 1) hx hb dX2_all_3 (by decide +kernel) ?_
  refine lv_isub hx hb dX2_all_4 ?_
  refine lv_topi (fun z_1 ez_1 => ?_)
  have ez_1 : z_1 = nI (cf_full n) := by rw [ez_1]; exact kb_all (by omega)
  subst ez_1
  exact kx_iret (v := nI (cf_full n)) hx hb hr rfl hlocks hK hP hD hS dX2_all_5 (⟨rfl, rfl⟩)

set_option maxHeartbeats 4000000 in
set_option maxRecDepth 100000 in
/-- isGraph(g) -/
theorem c_isGraph (l : Launch) (D : va_G) (k0 : Nat → ClassId)  (w0 : va_W) (sz : Nat) (x : Int32) : kx_i l yX2_isGraph wsX2_isGraph ({ frames := 0, cells := 0, slots := 0, locals := 0 } : Room) D (tyL k0) w0 sz [.int x] (fun (r : Int32) (u : va_W) => ((r = 1 ∧ ∃ i, i < 8 ∧ x = nI i) ∨ (r = 0 ∧ ¬ ∃ i, i < 8 ∧ x = nI i)) ∧ u = w0) 0 0 := by
  refine kx_of (Qf := fun A => va_Qi (fun (r : Int32) (u : va_W) => ((r = 1 ∧ ∃ i, i < 8 ∧ x = nI i) ∨ (r = 0 ∧ ¬ ∃ i, i < 8 ∧ x = nI i)) ∧ u = w0) (kx_B D (tyL k0) A) A) (cc := cX2_isGraph) (maxL := 1) (ret := (some .boolean)) (by decide +kernel) (Nat.le_of_ble_eq_true rfl) ?_
  intro p e s m below meth c A ls hx hb hml hown hts hr hlocks hnm hN hK hP hD hS hA hl
  have hown : s.vm.findClass RX2 = some m.cls := hown
  have hl : lv_has ls 1 [(0, .int x)] := hl
  skip
  refine lv_iload_n hx hb dX2_isGraph_0 rfl (lv_at hl 0 rfl) ?_
  refine lv_if_lt (tgt := 14) hx hb dX2_isGraph_1 (by decide) (fun c_1 => ?_) (fun c_1 => ?_)
  · skip
    have hno : ¬ ∃ i, i < 8 ∧ x = nI i := fun ⟨i, h1, h2⟩ => nI_pos (n := i) (by omega) (by rw [← h2]; exact c_1)
    refine lv_iconst (v := 0) hx hb dX2_isGraph_14 (by decide +kernel) ?_
    exact kx_iret (v := 0) hx hb hr rfl hlocks hK hP hD hS dX2_isGraph_15 (⟨by first | exact Or.inl ⟨rfl, hyes⟩ | exact Or.inr ⟨rfl, hno⟩, rfl⟩)
  · skip
    refine lv_iload_n hx hb dX2_isGraph_4 rfl (lv_at hl 0 rfl) ?_
    refine lv_bipush (v := nI 8) hx hb dX2_isGraph_5 (by decide +kernel) ?_
    refine lv_icmp_ge (tgt := 14) hx hb dX2_isGraph_7 (by decide) (fun c_7 => ?_) (fun c_7 => ?_)
    · skip
      have hno : ¬ ∃ i, i < 8 ∧ x = nI i := fun ⟨i, h1, h2⟩ => nI_ge (a := i) (b := 8) (by omega) (by decide) (by rw [← h2]; exact c_7)
      refine lv_iconst (v := 0) hx hb dX2_isGraph_14 (by decide +kernel) ?_
      exact kx_iret (v := 0) hx hb hr rfl hlocks hK hP hD hS dX2_isGraph_15 (⟨by first | exact Or.inl ⟨rfl, hyes⟩ | exact Or.inr ⟨rfl, hno⟩, rfl⟩)
    · skip
      have hyes : ∃ i, i < 8 ∧ x = nI i := by
        rcases pk_ix x (n := 8) (by decide) with h | h | h
        · exact absurd h c_1
        · exact absurd h c_7
        · exact h
      refine lv_iconst (v := 1) hx hb dX2_isGraph_10 (by decide +kernel) ?_
      refine lv_goto (tgt := 15) hx hb dX2_isGraph_11 (by decide) ?_
      exact kx_iret (v := 1) hx hb hr rfl hlocks hK hP hD hS dX2_isGraph_15 (⟨by first | exact Or.inl ⟨rfl, hyes⟩ | exact Or.inr ⟨rfl, hno⟩, rfl⟩)

set_option maxHeartbeats 4000000 in
set_option maxRecDepth 100000 in
/-- Forest.clear() -/
theorem c_clear (l : Launch) (D : va_G) (k0 : Nat → ClassId)  (w0 : va_W) (sz : Nat) (q f ra pa : Nat) (rows parts : Nat → Nat) (k : Nat) (hF : w0[q]? = some (f, .inr (0, [.ref ra, .ref pa, .int (nI k)]))) (hR : w0[q + 1]? = some (ra, .inl (k0 0, 12, .inl (fun j => nI (rows j))))) (hT : w0[q + 2]? = some (pa, .inl (k0 0, 12, .inl (fun j => nI (parts j))))) : kx_v l yX0_clear wsX0_clear ({ frames := 0, cells := 0, slots := 0, locals := 0 } : Room) D (tyL k0) w0 sz [.ref f] (fun (u : va_W) => atF u q k0 f ra pa rows parts 0 ∧ kx_fr w0 u (fun j => j = q ∨ j = q + 1 ∨ j = q + 2)) 0 0 := by
  refine kx_of (Qf := fun A => va_Qv (fun (u : va_W) => atF u q k0 f ra pa rows parts 0 ∧ kx_fr w0 u (fun j => j = q ∨ j = q + 1 ∨ j = q + 2)) (kx_B D (tyL k0) A) A) (cc := cX0_clear) (maxL := 1) (ret := none) (by decide +kernel) (Nat.le_of_ble_eq_true rfl) ?_
  intro p e s m below meth c A ls hx hb hml hown hts hr hlocks hnm hN hK hP hD hS hA hl
  have hown : s.vm.findClass RX0 = some m.cls := hown
  have hl : lv_has ls 1 [(0, .ref f)] := hl
  have hfr : kx_fr w0 w0 (fun j => j = q ∨ j = q + 1 ∨ j = q + 2) := kx_fr_rf _ _
  refine lv_aload_n hx hb dX0_clear_0 rfl (lv_at hl 0 rfl) ?_
  refine lv_iconst (v := nI 0) hx hb dX0_clear_1 (by decide +kernel) ?_
  refine va_put (D := D) (ci := 0) (v := .int (nI 0)) (ty := .int) (C := RX0) (T := TX0) (N := 3) hx hb hts inX0 tyX0 tyX0_ok nmX0 hown hK hP hD hS q hF rfl 2 (by decide) (hts _ tw_43) (fun _ h9 => h9) rfl (by decide +kernel) rfl rfl (Nat.le_of_ble_eq_true rfl) dX0_clear_2 (fun H locs hP hD hS => ?_)
  obtain ⟨w_1, ew_1⟩ : ∃ w, w = w0.set q (f, .inr (0, [.ref ra, .ref pa, .int (nI 0)])) := ⟨_, rfl⟩
  have hP : va_P D vwCl w_1 H := by rw [ew_1]; exact hP
  have hD : va_D A w_1 := by rw [ew_1]; exact hD
  have f_2 : w_1[q]? = some (f, .inr (0, [.ref ra, .ref pa, .int (nI 0)])) := by rw [ew_1]; exact kx_set_self hF
  have f_3 : w_1[q + 1]? = some (ra, .inl (k0 0, 12, .inl (fun y9 => nI (rows y9)))) := by rw [ew_1]; exact kx_set_ne hR (by omega)
  have f_4 : w_1[q + 2]? = some (pa, .inl (k0 0, 12, .inl (fun y9 => nI (parts y9)))) := by rw [ew_1]; exact kx_set_ne hT (by omega)
  have hfr : kx_fr w0 w_1 (fun j => j = q ∨ j = q + 1 ∨ j = q + 2) := kx_fr_tr hfr (by rw [ew_1]; exact kx_fr_set (by omega))
  exact kx_vret hx hb hr hlocks hK hP hD hS dX0_clear_5 (⟨⟨f_2, f_3, f_4⟩, hfr⟩)

set_option maxHeartbeats 4000000 in
set_option maxRecDepth 100000 in
/-- Forest.rest(line) -/
theorem c_rest (l : Launch) (D : va_G) (k0 : Nat → ClassId)  (w0 : va_W) (sz : Nat) (q f ra pa : Nat) (rows parts : Nat → Nat) (k : Nat) (hF : w0[q]? = some (f, .inr (0, [.ref ra, .ref pa, .int (nI k)]))) (hR : w0[q + 1]? = some (ra, .inl (k0 0, 12, .inl (fun j => nI (rows j))))) (hT : w0[q + 2]? = some (pa, .inl (k0 0, 12, .inl (fun j => nI (parts j))))) (hk : k ≤ 12) (hrow : ∀ j, j < k → rows j < 2 ^ 24) (v : Nat) (hv : v < 2 ^ 24) : kx_i l yX0_rest wsX0_rest ({ frames := 1, cells := 0, slots := 0, locals := 16 } : Room) D (tyL k0) w0 sz [.ref f, .int (nI v)] (fun (r : Int32) (u : va_W) => r = nI (fo_rest rows v k) ∧ u = w0) 0 0 := by
  refine kx_of (Qf := fun A => va_Qi (fun (r : Int32) (u : va_W) => r = nI (fo_rest rows v k) ∧ u = w0) (kx_B D (tyL k0) A) A) (cc := cX0_rest) (maxL := 4) (ret := (some .int)) (by decide +kernel) (Nat.le_of_ble_eq_true rfl) ?_
  intro p e s m below meth c A ls hx hb hml hown hts hr hlocks hnm hN hK hP hD hS hA hl
  have hown : s.vm.findClass RX0 = some m.cls := hown
  have hl : lv_has ls 4 [(0, .ref f), (1, .int (nI v))] := hl
  skip
  refine lv_iload_n hx hb dX0_rest_0 rfl (lv_at hl 1 rfl) ?_
  refine lv_istore_n (lv' := [(2, .int (nI v)), (0, .ref f), (1, .int (nI v))]) hx hb dX0_rest_1 rfl hl (by decide) rfl (fun ls hl => ?_)
  refine lv_iconst (v := nI 0) hx hb dX0_rest_2 (by decide +kernel) ?_
  refine lv_istore_n (lv' := [(3, .int (nI 0)), (2, .int (nI v)), (0, .ref f), (1, .int (nI v))]) hx hb dX0_rest_3 rfl hl (by decide) rfl (fun ls hl => ?_)
  have loop_4 : ∀ (n4 : Nat) (i : Nat), (i ≤ k) → (k + 1 ≤ i + n4) → ∀ (H : Heap) (locs : List Loc), va_P D vwCl w0 H → va_D A w0 → va_S A s.heap H locs → ∀ (ls : Array Slot), lv_has ls 4 [(3, .int (nI i)), (2, .int (nI (fo_rest rows v i))), (0, .ref f), (1, .int (nI v))] → W p l e ({ frames := 1, cells := 0, slots := 0, locals := 16 } : Room) s m ([.ref f, .int (nI v)] : List Value).toArray below meth c H locs 0 0 (MQ below (va_Qi (fun (r : Int32) (u : va_W) => r = nI (fo_rest rows v k) ∧ u = w0) (kx_B D (tyL k0) A) A) ([.ref f, .int (nI v)] : List Value).toArray s 0 0 A) (F0 m 4 ls []) := by
    intro n4
    induction n4 with
    | zero =>
      intro i hi hme
      exact absurd hme (by omega)
    | succ n4 ih4 =>
      intro i hi hme  H locs hP hD hS ls hl
      refine lv_iload_n hx hb dX0_rest_4 rfl (lv_at hl 0 rfl) ?_
      refine lv_aload_n hx hb dX0_rest_5 rfl (lv_at hl 2 rfl) ?_
      refine va_get (D := D) (ci := 0) (v := .int (nI k)) (C := RX0) (T := TX0) (N := 3) hx hb hts inX0 hown hK hP q hF rfl 2 (by decide) (hts _ tw_43) (fun _ h9 => h9) rfl dX0_rest_6 ?_
      refine lv_icmp_ge (tgt := 31) hx hb dX0_rest_9 (by decide) (fun c_9 => ?_) (fun c_9 => ?_)
      · skip
        have hik : i = k := by
          have := (nI_leI (by omega) (by omega)).mp c_9
          omega
        subst hik
        refine lv_iload_n hx hb dX0_rest_31 rfl (lv_at hl 1 rfl) ?_
        exact kx_iret (v := nI (fo_rest rows v i)) hx hb hr rfl hlocks hK hP hD hS dX0_rest_32 (⟨rfl, rfl⟩)
      · skip
        have hik : i < k := by
          rcases Nat.lt_or_ge i k with h | h
          · exact h
          · exact absurd ((nI_leI (by omega) (by omega)).mpr h) c_9
        have hb1 := fo_rest_lt hv hrow i hi
        have hb2 : fo_rest rows v i ^^^ rows i < 2 ^ 24 := Nat.xor_lt_two_pow hb1 (hrow i hik)
        refine lv_iload_n hx hb dX0_rest_12 rfl (lv_at hl 1 rfl) ?_
        refine lv_iload_n hx hb dX0_rest_13 rfl (lv_at hl 1 rfl) ?_
        refine lv_aload_n hx hb dX0_rest_14 rfl (lv_at hl 2 rfl) ?_
        refine va_get (D := D) (ci := 0) (v := .ref ra) (C := RX0) (T := TX0) (N := 3) hx hb hts inX0 hown hK hP q hF rfl 0 (by decide) (hts _ tw_41) (fun _ h9 => h9) rfl dX0_rest_15 ?_
        refine lv_iload_n hx hb dX0_rest_18 rfl (lv_at hl 0 rfl) ?_
        refine kx_nald hx hb hK hP (q + 1) hR rfl (i := i) (by omega) (by decide) dX0_rest_19 ?_
        refine lv_ixor hx hb dX0_rest_20 ?_
        refine lv_topi (fun z_1 ez_1 => ?_)
        have ez_1 : z_1 = nI (fo_rest rows v i ^^^ rows i) := by rw [ez_1]; exact kb_xor _ _
        subst ez_1
        refine va_mmin hx hb (by rw [hml]; exact hl.1.symm) hown (hts _ tw_152) (hts _ tw_153) (hts _ tw_23) (hts _ tw_min) (Nat.le_of_ble_eq_true rfl) (Nat.le_of_ble_eq_true rfl) (Nat.le_of_ble_eq_true rfl) (Nat.le_of_ble_eq_true rfl) dX0_rest_21 ?_
        refine lv_topi (fun z_2 ez_2 => ?_)
        have ez_2 : z_2 = nI (fo_rest rows v (i + 1)) := by rw [ez_2]; rw [kb_min (by omega) (by omega)]; rfl
        subst ez_2
        refine lv_istore_n (lv' := [(2, .int (nI (fo_rest rows v (i + 1)))), (3, .int (nI i)), (0, .ref f), (1, .int (nI v))]) hx hb dX0_rest_24 rfl hl (by decide) rfl (fun ls hl => ?_)
        refine lv_iinc (v := nI (i + 1)) (lv' := [(3, .int (nI (i + 1))), (2, .int (nI (fo_rest rows v (i + 1)))), (0, .ref f), (1, .int (nI v))]) hx hb dX0_rest_25 hl (k := 1) rfl (nI_1 _) (by decide) rfl (fun ls hl => ?_)
        refine lv_goto (tgt := 4) hx hb dX0_rest_28 (by decide) ?_
        exact ih4 (i + 1) (by omega) (by omega) _ _ hP hD hS _ (lv_sub hl [0, 1, 2, 3] rfl)
  exact loop_4 (k + 1) 0 (Nat.zero_le k) (by omega) _ _ hP hD hS _ (lv_sub hl [0, 1, 2, 3] rfl)

set_option maxHeartbeats 4000000 in
set_option maxRecDepth 100000 in
/-- Forest.way(line) -/
theorem c_way (l : Launch) (D : va_G) (k0 : Nat → ClassId)  (w0 : va_W) (sz : Nat) (q f ra pa : Nat) (rows parts : Nat → Nat) (k : Nat) (hF : w0[q]? = some (f, .inr (0, [.ref ra, .ref pa, .int (nI k)]))) (hR : w0[q + 1]? = some (ra, .inl (k0 0, 12, .inl (fun j => nI (rows j))))) (hT : w0[q + 2]? = some (pa, .inl (k0 0, 12, .inl (fun j => nI (parts j))))) (hk : k ≤ 12) (hrow : ∀ j, j < k → rows j < 2 ^ 24) (v : Nat) (hv : v < 2 ^ 24) : kx_i l yX0_way wsX0_way ({ frames := 0, cells := 0, slots := 0, locals := 0 } : Room) D (tyL k0) w0 sz [.ref f, .int (nI v)] (fun (r : Int32) (u : va_W) => r = nI (fo_way rows parts v k) ∧ u = w0) 0 0 := by
  refine kx_of (Qf := fun A => va_Qi (fun (r : Int32) (u : va_W) => r = nI (fo_way rows parts v k) ∧ u = w0) (kx_B D (tyL k0) A) A) (cc := cX0_way) (maxL := 5) (ret := (some .int)) (by decide +kernel) (Nat.le_of_ble_eq_true rfl) ?_
  intro p e s m below meth c A ls hx hb hml hown hts hr hlocks hnm hN hK hP hD hS hA hl
  have hown : s.vm.findClass RX0 = some m.cls := hown
  have hl : lv_has ls 5 [(0, .ref f), (1, .int (nI v))] := hl
  skip
  refine lv_iload_n hx hb dX0_way_0 rfl (lv_at hl 1 rfl) ?_
  refine lv_istore_n (lv' := [(2, .int (nI v)), (0, .ref f), (1, .int (nI v))]) hx hb dX0_way_1 rfl hl (by decide) rfl (fun ls hl => ?_)
  refine lv_iconst (v := nI 0) hx hb dX0_way_2 (by decide +kernel) ?_
  refine lv_istore_n (lv' := [(3, .int (nI 0)), (2, .int (nI v)), (0, .ref f), (1, .int (nI v))]) hx hb dX0_way_3 rfl hl (by decide) rfl (fun ls hl => ?_)
  refine lv_iconst (v := nI 0) hx hb dX0_way_4 (by decide +kernel) ?_
  refine lv_istore (lv' := [(4, .int (nI 0)), (3, .int (nI 0)), (2, .int (nI v)), (0, .ref f), (1, .int (nI v))]) hx hb dX0_way_5 hl (by decide) rfl (fun ls hl => ?_)
  have loop_7 : ∀ (n7 : Nat) (i : Nat), (i ≤ k) → (k + 1 ≤ i + n7) → ∀ (H : Heap) (locs : List Loc), va_P D vwCl w0 H → va_D A w0 → va_S A s.heap H locs → ∀ (ls : Array Slot), lv_has ls 5 [(4, .int (nI i)), (3, .int (nI (fo_way rows parts v i))), (2, .int (nI (fo_rest rows v i))), (0, .ref f), (1, .int (nI v))] → W p l e ({ frames := 0, cells := 0, slots := 0, locals := 0 } : Room) s m ([.ref f, .int (nI v)] : List Value).toArray below meth c H locs 0 0 (MQ below (va_Qi (fun (r : Int32) (u : va_W) => r = nI (fo_way rows parts v k) ∧ u = w0) (kx_B D (tyL k0) A) A) ([.ref f, .int (nI v)] : List Value).toArray s 0 0 A) (F0 m 7 ls []) := by
    intro n7
    induction n7 with
    | zero =>
      intro i hi hme
      exact absurd hme (by omega)
    | succ n7 ih7 =>
      intro i hi hme  H locs hP hD hS ls hl
      refine lv_iload hx hb dX0_way_7 (lv_at hl 0 rfl) ?_
      refine lv_aload_n hx hb dX0_way_9 rfl (lv_at hl 3 rfl) ?_
      refine va_get (D := D) (ci := 0) (v := .int (nI k)) (C := RX0) (T := TX0) (N := 3) hx hb hts inX0 hown hK hP q hF rfl 2 (by decide) (hts _ tw_43) (fun _ h9 => h9) rfl dX0_way_10 ?_
      refine lv_icmp_ge (tgt := 55) hx hb dX0_way_13 (by decide) (fun c_13 => ?_) (fun c_13 => ?_)
      · skip
        have hik : i = k := by
          have := (nI_leI (by omega) (by omega)).mp c_13
          omega
        subst hik
        refine lv_iload_n hx hb dX0_way_55 rfl (lv_at hl 1 rfl) ?_
        exact kx_iret (v := nI (fo_way rows parts v i)) hx hb hr rfl hlocks hK hP hD hS dX0_way_56 (⟨rfl, rfl⟩)
      · skip
        have hik : i < k := by
          rcases Nat.lt_or_ge (i) (k) with h | h
          · exact h
          · exact absurd ((nI_leI (by omega) (by omega)).mpr h) c_13
        have hb1 := fo_rest_lt hv hrow i hi
        have hb2 : fo_rest rows v i ^^^ rows i < 2 ^ 24 := Nat.xor_lt_two_pow hb1 (hrow i hik)
        refine lv_iload_n hx hb dX0_way_16 rfl (lv_at hl 2 rfl) ?_
        refine lv_aload_n hx hb dX0_way_17 rfl (lv_at hl 3 rfl) ?_
        refine va_get (D := D) (ci := 0) (v := .ref ra) (C := RX0) (T := TX0) (N := 3) hx hb hts inX0 hown hK hP q hF rfl 0 (by decide) (hts _ tw_41) (fun _ h9 => h9) rfl dX0_way_18 ?_
        refine lv_iload hx hb dX0_way_21 (lv_at hl 0 rfl) ?_
        refine kx_nald hx hb hK hP (q + 1) hR rfl (i := i) (by omega) (by decide) dX0_way_23 ?_
        refine lv_ixor hx hb dX0_way_24 ?_
        refine lv_topi (fun z_1 ez_1 => ?_)
        have ez_1 : z_1 = nI (fo_rest rows v i ^^^ rows i) := by rw [ez_1]; exact kb_xor _ _
        subst ez_1
        refine lv_iload_n hx hb dX0_way_25 rfl (lv_at hl 2 rfl) ?_
        refine lv_icmp_ge (tgt := 49) hx hb dX0_way_26 (by decide) (fun c_26 => ?_) (fun c_26 => ?_)
        · skip
          have hlt : ¬ fo_rest rows v i ^^^ rows i < fo_rest rows v i := by
            have := (nI_leI (by omega) (by omega)).mp c_26
            omega
          have er : fo_rest rows v i = fo_rest rows v (i + 1) := by show _ = fo_step _ _; unfold fo_step; rw [if_neg hlt]
          have ew : fo_way rows parts v i = fo_way rows parts v (i + 1) := by show _ = ite _ _ _; rw [if_neg hlt]
          rw [er, ew] at hl
          refine lv_iinc (v := nI (i + 1)) (lv' := [(4, .int (nI (i + 1))), (3, .int (nI (fo_way rows parts v (i + 1)))), (2, .int (nI (fo_rest rows v (i + 1)))), (0, .ref f), (1, .int (nI v))]) hx hb dX0_way_49 hl (k := 0) rfl (nI_1 _) (by decide) rfl (fun ls hl => ?_)
          refine lv_goto (tgt := 7) hx hb dX0_way_52 (by decide) ?_
          exact ih7 (i + 1) (by omega) (by omega) _ _ hP hD hS _ (lv_sub hl [0, 1, 2, 3, 4] rfl)
        · skip
          have hlt : fo_rest rows v i ^^^ rows i < fo_rest rows v i := by
            rcases Nat.lt_or_ge (fo_rest rows v i ^^^ rows i) (fo_rest rows v i) with h | h
            · exact h
            · exact absurd ((nI_leI (by omega) (by omega)).mpr h) c_26
          refine lv_iload_n hx hb dX0_way_29 rfl (lv_at hl 2 rfl) ?_
          refine lv_aload_n hx hb dX0_way_30 rfl (lv_at hl 3 rfl) ?_
          refine va_get (D := D) (ci := 0) (v := .ref ra) (C := RX0) (T := TX0) (N := 3) hx hb hts inX0 hown hK hP q hF rfl 0 (by decide) (hts _ tw_41) (fun _ h9 => h9) rfl dX0_way_31 ?_
          refine lv_iload hx hb dX0_way_34 (lv_at hl 0 rfl) ?_
          refine kx_nald hx hb hK hP (q + 1) hR rfl (i := i) (by omega) (by decide) dX0_way_36 ?_
          refine lv_ixor hx hb dX0_way_37 ?_
          refine lv_topi (fun z_2 ez_2 => ?_)
          have ez_2 : z_2 = nI (fo_rest rows v (i + 1)) := by rw [ez_2]; rw [kb_xor]; show _ = nI (fo_step _ _); unfold fo_step; rw [if_pos hlt]
          subst ez_2
          refine lv_istore_n (lv' := [(2, .int (nI (fo_rest rows v (i + 1)))), (4, .int (nI i)), (3, .int (nI (fo_way rows parts v i))), (0, .ref f), (1, .int (nI v))]) hx hb dX0_way_38 rfl hl (by decide) rfl (fun ls hl => ?_)
          refine lv_iload_n hx hb dX0_way_39 rfl (lv_at hl 2 rfl) ?_
          refine lv_aload_n hx hb dX0_way_40 rfl (lv_at hl 3 rfl) ?_
          refine va_get (D := D) (ci := 0) (v := .ref pa) (C := RX0) (T := TX0) (N := 3) hx hb hts inX0 hown hK hP q hF rfl 1 (by decide) (hts _ tw_42) (fun _ h9 => h9) rfl dX0_way_41 ?_
          refine lv_iload hx hb dX0_way_44 (lv_at hl 1 rfl) ?_
          refine kx_nald hx hb hK hP (q + 2) hT rfl (i := i) (by omega) (by decide) dX0_way_46 ?_
          refine lv_ixor hx hb dX0_way_47 ?_
          refine lv_topi (fun z_3 ez_3 => ?_)
          have ez_3 : z_3 = nI (fo_way rows parts v (i + 1)) := by rw [ez_3]; rw [kb_xor]; show _ = nI (ite _ _ _); rw [if_pos hlt]
          subst ez_3
          refine lv_istore_n (lv' := [(3, .int (nI (fo_way rows parts v (i + 1)))), (2, .int (nI (fo_rest rows v (i + 1)))), (4, .int (nI i)), (0, .ref f), (1, .int (nI v))]) hx hb dX0_way_48 rfl hl (by decide) rfl (fun ls hl => ?_)
          refine lv_iinc (v := nI (i + 1)) (lv' := [(4, .int (nI (i + 1))), (3, .int (nI (fo_way rows parts v (i + 1)))), (2, .int (nI (fo_rest rows v (i + 1)))), (0, .ref f), (1, .int (nI v))]) hx hb dX0_way_49 hl (k := 2) rfl (nI_1 _) (by decide) rfl (fun ls hl => ?_)
          refine lv_goto (tgt := 7) hx hb dX0_way_52 (by decide) ?_
          exact ih7 (i + 1) (by omega) (by omega) _ _ hP hD hS _ (lv_sub hl [0, 1, 2, 3, 4] rfl)
  exact loop_7 (k + 1) 0 (Nat.zero_le k) (by omega) _ _ hP hD hS _ (lv_sub hl [0, 1, 2, 3, 4] rfl)

set_option maxHeartbeats 4000000 in
set_option maxRecDepth 100000 in
/-- Forest.drop() -/
theorem c_drop (l : Launch) (D : va_G) (k0 : Nat → ClassId)  (w0 : va_W) (sz : Nat) (q f ra pa : Nat) (rows parts : Nat → Nat) (k : Nat) (hF : w0[q]? = some (f, .inr (0, [.ref ra, .ref pa, .int (nI k)]))) (hR : w0[q + 1]? = some (ra, .inl (k0 0, 12, .inl (fun j => nI (rows j))))) (hT : w0[q + 2]? = some (pa, .inl (k0 0, 12, .inl (fun j => nI (parts j))))) (hk : 0 < k) (hk2 : k ≤ 12) : kx_v l yX0_drop wsX0_drop ({ frames := 0, cells := 0, slots := 0, locals := 0 } : Room) D (tyL k0) w0 sz [.ref f] (fun (u : va_W) => atF u q k0 f ra pa rows parts (k - 1) ∧ kx_fr w0 u (fun j => j = q ∨ j = q + 1 ∨ j = q + 2)) 0 0 := by
  refine kx_of (Qf := fun A => va_Qv (fun (u : va_W) => atF u q k0 f ra pa rows parts (k - 1) ∧ kx_fr w0 u (fun j => j = q ∨ j = q + 1 ∨ j = q + 2)) (kx_B D (tyL k0) A) A) (cc := cX0_drop) (maxL := 1) (ret := none) (by decide +kernel) (Nat.le_of_ble_eq_true rfl) ?_
  intro p e s m below meth c A ls hx hb hml hown hts hr hlocks hnm hN hK hP hD hS hA hl
  have hown : s.vm.findClass RX0 = some m.cls := hown
  have hl : lv_has ls 1 [(0, .ref f)] := hl
  have hfr : kx_fr w0 w0 (fun j => j = q ∨ j = q + 1 ∨ j = q + 2) := kx_fr_rf _ _
  refine lv_aload_n hx hb dX0_drop_0 rfl (lv_at hl 0 rfl) ?_
  refine va_get (D := D) (ci := 0) (v := .int (nI k)) (C := RX0) (T := TX0) (N := 3) hx hb hts inX0 hown hK hP q hF rfl 2 (by decide) (hts _ tw_43) (fun _ h9 => h9) rfl dX0_drop_1 ?_
  refine lv_if_le (tgt := 17) hx hb dX0_drop_4 (by decide) (fun c_4 => ?_) (fun c_4 => ?_)
  · skip
    exact absurd c_4 (nI_nle hk (by omega))
  · skip
    refine lv_aload_n hx hb dX0_drop_7 rfl (lv_at hl 0 rfl) ?_
    refine lv_dup hx hb dX0_drop_8 rfl ?_
    refine va_get (D := D) (ci := 0) (v := .int (nI k)) (C := RX0) (T := TX0) (N := 3) hx hb hts inX0 hown hK hP q hF rfl 2 (by decide) (hts _ tw_43) (fun _ h9 => h9) rfl dX0_drop_9 ?_
    refine lv_iconst (v := 1) hx hb dX0_drop_12 (by decide +kernel) ?_
    refine lv_isub hx hb dX0_drop_13 ?_
    refine lv_topi (fun z_1 ez_1 => ?_)
    have ez_1 : z_1 = nI (k - 1) := by rw [ez_1]; exact pk_sub (a := k) (b := 1) hk
    subst ez_1
    refine va_put (D := D) (ci := 0) (v := .int (nI (k - 1))) (ty := .int) (C := RX0) (T := TX0) (N := 3) hx hb hts inX0 tyX0 tyX0_ok nmX0 hown hK hP hD hS q hF rfl 2 (by decide) (hts _ tw_43) (fun _ h9 => h9) rfl (by decide +kernel) rfl rfl (Nat.le_of_ble_eq_true rfl) dX0_drop_14 (fun H locs hP hD hS => ?_)
    obtain ⟨w_2, ew_2⟩ : ∃ w, w = w0.set q (f, .inr (0, [.ref ra, .ref pa, .int (nI (k - 1))])) := ⟨_, rfl⟩
    have hP : va_P D vwCl w_2 H := by rw [ew_2]; exact hP
    have hD : va_D A w_2 := by rw [ew_2]; exact hD
    have f_3 : w_2[q]? = some (f, .inr (0, [.ref ra, .ref pa, .int (nI (k - 1))])) := by rw [ew_2]; exact kx_set_self hF
    have f_4 : w_2[q + 1]? = some (ra, .inl (k0 0, 12, .inl (fun y9 => nI (rows y9)))) := by rw [ew_2]; exact kx_set_ne hR (by omega)
    have f_5 : w_2[q + 2]? = some (pa, .inl (k0 0, 12, .inl (fun y9 => nI (parts y9)))) := by rw [ew_2]; exact kx_set_ne hT (by omega)
    have hfr : kx_fr w0 w_2 (fun j => j = q ∨ j = q + 1 ∨ j = q + 2) := kx_fr_tr hfr (by rw [ew_2]; exact kx_fr_set (by omega))
    exact kx_vret hx hb hr hlocks hK hP hD hS dX0_drop_17 (⟨⟨f_3, f_4, f_5⟩, hfr⟩)

set_option maxHeartbeats 4000000 in
set_option maxRecDepth 100000 in
/-- Forest.takes(e, line) -/
theorem c_takes (l : Launch) (D : va_G) (k0 : Nat → ClassId)  (w0 : va_W) (sz : Nat) (q f ra pa : Nat) (rows parts : Nat → Nat) (k : Nat) (hF : w0[q]? = some (f, .inr (0, [.ref ra, .ref pa, .int (nI k)]))) (hR : w0[q + 1]? = some (ra, .inl (k0 0, 12, .inl (fun j => nI (rows j))))) (hT : w0[q + 2]? = some (pa, .inl (k0 0, 12, .inl (fun j => nI (parts j))))) (hk : k ≤ 12) (hrow : ∀ j, j < k → rows j < 2 ^ 24) (e9 v : Nat) (he : e9 < 31) (hv : v < 2 ^ 24) (hroom : fo_rest rows v k ≠ 0 → k < 12) : kx_i l yX0_takes wsX0_takes ({ frames := 2, cells := 0, slots := 0, locals := 48 } : Room) D (tyL k0) w0 sz [.ref f, .int (nI e9), .int (nI v)] (fun (r : Int32) (u : va_W) => (fo_rest rows v k = 0 ∧ r = 0 ∧ u = w0) ∨ (fo_rest rows v k ≠ 0 ∧ r = 1 ∧ atF u q k0 f ra pa (fo_up rows k (fo_rest rows v k)) (fo_up parts k (fo_way rows parts v k ^^^ 2 ^ e9)) (k + 1) ∧ kx_fr w0 u (fun j => j = q ∨ j = q + 1 ∨ j = q + 2))) 0 0 := by
  refine kx_of (Qf := fun A => va_Qi (fun (r : Int32) (u : va_W) => (fo_rest rows v k = 0 ∧ r = 0 ∧ u = w0) ∨ (fo_rest rows v k ≠ 0 ∧ r = 1 ∧ atF u q k0 f ra pa (fo_up rows k (fo_rest rows v k)) (fo_up parts k (fo_way rows parts v k ^^^ 2 ^ e9)) (k + 1) ∧ kx_fr w0 u (fun j => j = q ∨ j = q + 1 ∨ j = q + 2))) (kx_B D (tyL k0) A) A) (cc := cX0_takes) (maxL := 4) (ret := (some .boolean)) (by decide +kernel) (Nat.le_of_ble_eq_true rfl) ?_
  intro p e s m below meth c A ls hx hb hml hown hts hr hlocks hnm hN hK hP hD hS hA hl
  have hown : s.vm.findClass RX0 = some m.cls := hown
  have hl : lv_has ls 4 [(0, .ref f), (1, .int (nI e9)), (2, .int (nI v))] := hl
  have hfr : kx_fr w0 w0 (fun j => j = q ∨ j = q + 1 ∨ j = q + 2) := kx_fr_rf _ _
  refine lv_aload_n hx hb dX0_takes_0 rfl (lv_at hl 0 rfl) ?_
  refine lv_iload_n hx hb dX0_takes_1 rfl (lv_at hl 2 rfl) ?_
  refine kx_goi (va_runV (As := [.int (nI v)]) (rest := []) ⟨hx, hb, hml, hown, hts⟩ (c_rest l D k0 w0 _ q f ra pa rows parts k hF hR hT hk hrow v hv) ⟨(kg_B (k := 1) hts tw_151 tw_148 tw_20 (by decide +kernel) rfl rfl ⟨Nat.le_of_ble_eq_true rfl, Nat.le_of_ble_eq_true rfl⟩), hts _ tw_149, hts _ tw_150⟩ (kx_preV hN hK hP hD rfl hF) rfl rfl hl.1 rfl (lv_room (Nat.le_of_ble_eq_true rfl)) dX0_takes_2 ⟨Nat.le_of_ble_eq_true rfl, Nat.le_of_ble_eq_true rfl⟩) hD hS hA (fun r_2 u_3 H locs hp_1 hP hD hS => ?_)
  obtain ⟨er_2, eu_3⟩ := hp_1
  rw [eu_3] at hP hD; subst er_2
  refine lv_istore_n (lv' := [(3, .int (nI (fo_rest rows v k))), (0, .ref f), (1, .int (nI e9)), (2, .int (nI v))]) hx hb dX0_takes_5 rfl hl (by decide) rfl (fun ls hl => ?_)
  refine lv_iload_n hx hb dX0_takes_6 rfl (lv_at hl 0 rfl) ?_
  refine lv_if_eq (tgt := 19) hx hb dX0_takes_7 (by decide) (fun c_7 => ?_) (fun c_7 => ?_)
  · skip
    have h0 : fo_rest rows v k = 0 := (kb_eq0 (Nat.lt_trans (fo_rest_lt hv hrow k (Nat.le_refl k)) (by decide))).mp c_7
    refine lv_iconst (v := 0) hx hb dX0_takes_19 (by decide +kernel) ?_
    exact kx_iret (v := 0) hx hb hr rfl hlocks hK hP hD hS dX0_takes_20 (Or.inl ⟨h0, rfl, rfl⟩)
  · skip
    have h0 : fo_rest rows v k ≠ 0 := fun h => c_7 ((kb_eq0 (Nat.lt_trans (fo_rest_lt hv hrow k (Nat.le_refl k)) (by decide))).mpr h)
    have hk12 := hroom h0
    refine lv_aload_n hx hb dX0_takes_10 rfl (lv_at hl 1 rfl) ?_
    refine va_get (D := D) (ci := 0) (v := .int (nI k)) (C := RX0) (T := TX0) (N := 3) hx hb hts inX0 hown hK hP q hF rfl 2 (by decide) (hts _ tw_43) (fun _ h9 => h9) rfl dX0_takes_11 ?_
    refine lv_bipush (v := nI 12) hx hb dX0_takes_14 (by decide +kernel) ?_
    refine lv_icmp_lt (tgt := 21) hx hb dX0_takes_16 (by decide) (fun c_16 => ?_) (fun c_16 => ?_)
    · skip
      refine lv_aload_n hx hb dX0_takes_21 rfl (lv_at hl 1 rfl) ?_
      refine va_get (D := D) (ci := 0) (v := .ref pa) (C := RX0) (T := TX0) (N := 3) hx hb hts inX0 hown hK hP q hF rfl 1 (by decide) (hts _ tw_42) (fun _ h9 => h9) rfl dX0_takes_22 ?_
      refine lv_aload_n hx hb dX0_takes_25 rfl (lv_at hl 1 rfl) ?_
      refine va_get (D := D) (ci := 0) (v := .int (nI k)) (C := RX0) (T := TX0) (N := 3) hx hb hts inX0 hown hK hP q hF rfl 2 (by decide) (hts _ tw_43) (fun _ h9 => h9) rfl dX0_takes_26 ?_
      refine lv_aload_n hx hb dX0_takes_29 rfl (lv_at hl 1 rfl) ?_
      refine lv_iload_n hx hb dX0_takes_30 rfl (lv_at hl 3 rfl) ?_
      refine kx_goi (va_runV (As := [.int (nI v)]) (rest := [.int (nI k), .ref pa]) ⟨hx, hb, hml, hown, hts⟩ (c_way l D k0 w0 _ q f ra pa rows parts k hF hR hT hk hrow v hv) ⟨(kg_B (k := 1) hts tw_158 tw_155 tw_20 (by decide +kernel) rfl rfl ⟨Nat.le_of_ble_eq_true rfl, Nat.le_of_ble_eq_true rfl⟩), hts _ tw_156, hts _ tw_157⟩ (kx_preV hN hK hP hD rfl hF) rfl rfl hl.1 rfl (lv_room (Nat.le_of_ble_eq_true rfl)) dX0_takes_31 ⟨Nat.le_of_ble_eq_true rfl, Nat.le_of_ble_eq_true rfl⟩) hD hS hA (fun r_5 u_6 H locs hp_4 hP hD hS => ?_)
      obtain ⟨er_5, eu_6⟩ := hp_4
      rw [eu_6] at hP hD; subst er_5
      refine lv_iconst (v := 1) hx hb dX0_takes_34 (by decide +kernel) ?_
      refine lv_iload_n hx hb dX0_takes_35 rfl (lv_at hl 2 rfl) ?_
      refine lv_ishl hx hb dX0_takes_36 ?_
      refine lv_topi (fun z_7 ez_7 => ?_)
      have ez_7 : z_7 = nI (2 ^ e9) := by rw [ez_7]; exact kb_one he
      subst ez_7
      refine lv_ixor hx hb dX0_takes_37 ?_
      refine lv_topi (fun z_8 ez_8 => ?_)
      have ez_8 : z_8 = nI (fo_way rows parts v k ^^^ 2 ^ e9) := by rw [ez_8]; exact kb_xor _ _
      subst ez_8
      refine kx_nast hx hb hK hP hD hS (q + 2) hT rfl (i := k) (x := (fo_way rows parts v k ^^^ 2 ^ e9)) (by omega) (by decide) dX0_takes_38 (fun H locs hP hD hS => ?_)
      obtain ⟨w_9, ew_9⟩ : ∃ w, w = w0.set (q + 2) (pa, .inl (k0 0, 12, .inl (fun y9 => nI ((fo_up parts k (fo_way rows parts v k ^^^ 2 ^ e9)) y9)))) := ⟨_, rfl⟩
      have hP : va_P D vwCl w_9 H := by rw [ew_9]; exact hP
      have hD : va_D A w_9 := by rw [ew_9]; exact hD
      have f_10 : w_9[q]? = some (f, .inr (0, [.ref ra, .ref pa, .int (nI k)])) := by rw [ew_9]; exact kx_set_ne hF (by omega)
      have f_11 : w_9[q + 1]? = some (ra, .inl (k0 0, 12, .inl (fun y9 => nI (rows y9)))) := by rw [ew_9]; exact kx_set_ne hR (by omega)
      have f_12 : w_9[q + 2]? = some (pa, .inl (k0 0, 12, .inl (fun y9 => nI ((fo_up parts k (fo_way rows parts v k ^^^ 2 ^ e9)) y9)))) := by rw [ew_9]; exact kx_set_self hT
      have hfr : kx_fr w0 w_9 (fun j => j = q ∨ j = q + 1 ∨ j = q + 2) := kx_fr_tr hfr (by rw [ew_9]; exact kx_fr_set (by omega))
      refine lv_aload_n hx hb dX0_takes_39 rfl (lv_at hl 1 rfl) ?_
      refine va_get (D := D) (ci := 0) (v := .ref ra) (C := RX0) (T := TX0) (N := 3) hx hb hts inX0 hown hK hP q f_10 rfl 0 (by decide) (hts _ tw_41) (fun _ h9 => h9) rfl dX0_takes_40 ?_
      refine lv_aload_n hx hb dX0_takes_43 rfl (lv_at hl 1 rfl) ?_
      refine va_get (D := D) (ci := 0) (v := .int (nI k)) (C := RX0) (T := TX0) (N := 3) hx hb hts inX0 hown hK hP q f_10 rfl 2 (by decide) (hts _ tw_43) (fun _ h9 => h9) rfl dX0_takes_44 ?_
      refine lv_iload_n hx hb dX0_takes_47 rfl (lv_at hl 0 rfl) ?_
      refine kx_nast hx hb hK hP hD hS (q + 1) f_11 rfl (i := k) (x := (fo_rest rows v k)) (by omega) (by decide) dX0_takes_48 (fun H locs hP hD hS => ?_)
      obtain ⟨w_13, ew_13⟩ : ∃ w, w = w_9.set (q + 1) (ra, .inl (k0 0, 12, .inl (fun y9 => nI ((fo_up rows k (fo_rest rows v k)) y9)))) := ⟨_, rfl⟩
      have hP : va_P D vwCl w_13 H := by rw [ew_13]; exact hP
      have hD : va_D A w_13 := by rw [ew_13]; exact hD
      have f_14 : w_13[q]? = some (f, .inr (0, [.ref ra, .ref pa, .int (nI k)])) := by rw [ew_13]; exact kx_set_ne f_10 (by omega)
      have f_15 : w_13[q + 1]? = some (ra, .inl (k0 0, 12, .inl (fun y9 => nI ((fo_up rows k (fo_rest rows v k)) y9)))) := by rw [ew_13]; exact kx_set_self f_11
      have f_16 : w_13[q + 2]? = some (pa, .inl (k0 0, 12, .inl (fun y9 => nI ((fo_up parts k (fo_way rows parts v k ^^^ 2 ^ e9)) y9)))) := by rw [ew_13]; exact kx_set_ne f_12 (by omega)
      have hfr : kx_fr w0 w_13 (fun j => j = q ∨ j = q + 1 ∨ j = q + 2) := kx_fr_tr hfr (by rw [ew_13]; exact kx_fr_set (by omega))
      refine lv_aload_n hx hb dX0_takes_49 rfl (lv_at hl 1 rfl) ?_
      refine lv_dup hx hb dX0_takes_50 rfl ?_
      refine va_get (D := D) (ci := 0) (v := .int (nI k)) (C := RX0) (T := TX0) (N := 3) hx hb hts inX0 hown hK hP q f_14 rfl 2 (by decide) (hts _ tw_43) (fun _ h9 => h9) rfl dX0_takes_51 ?_
      refine lv_iconst (v := nI 1) hx hb dX0_takes_54 (by decide +kernel) ?_
      refine lv_iadd hx hb dX0_takes_55 ?_
      refine lv_topi (fun z_17 ez_17 => ?_)
      have ez_17 : z_17 = nI (k + 1) := by rw [ez_17]; exact nI_1 _
      subst ez_17
      refine va_put (D := D) (ci := 0) (v := .int (nI (k + 1))) (ty := .int) (C := RX0) (T := TX0) (N := 3) hx hb hts inX0 tyX0 tyX0_ok nmX0 hown hK hP hD hS q f_14 rfl 2 (by decide) (hts _ tw_43) (fun _ h9 => h9) rfl (by decide +kernel) rfl rfl (Nat.le_of_ble_eq_true rfl) dX0_takes_56 (fun H locs hP hD hS => ?_)
      obtain ⟨w_18, ew_18⟩ : ∃ w, w = w_13.set q (f, .inr (0, [.ref ra, .ref pa, .int (nI (k + 1))])) := ⟨_, rfl⟩
      have hP : va_P D vwCl w_18 H := by rw [ew_18]; exact hP
      have hD : va_D A w_18 := by rw [ew_18]; exact hD
      have f_19 : w_18[q]? = some (f, .inr (0, [.ref ra, .ref pa, .int (nI (k + 1))])) := by rw [ew_18]; exact kx_set_self f_14
      have f_20 : w_18[q + 1]? = some (ra, .inl (k0 0, 12, .inl (fun y9 => nI ((fo_up rows k (fo_rest rows v k)) y9)))) := by rw [ew_18]; exact kx_set_ne f_15 (by omega)
      have f_21 : w_18[q + 2]? = some (pa, .inl (k0 0, 12, .inl (fun y9 => nI ((fo_up parts k (fo_way rows parts v k ^^^ 2 ^ e9)) y9)))) := by rw [ew_18]; exact kx_set_ne f_16 (by omega)
      have hfr : kx_fr w0 w_18 (fun j => j = q ∨ j = q + 1 ∨ j = q + 2) := kx_fr_tr hfr (by rw [ew_18]; exact kx_fr_set (by omega))
      refine lv_iconst (v := 1) hx hb dX0_takes_59 (by decide +kernel) ?_
      exact kx_iret (v := 1) hx hb hr rfl hlocks hK hP hD hS dX0_takes_60 (Or.inr ⟨h0, rfl, ⟨f_19, f_20, f_21⟩, hfr⟩)
    · skip
      exact absurd ((nI_ltI (by omega) (by omega)).mpr hk12) c_16
