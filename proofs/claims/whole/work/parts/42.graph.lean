def me_of (L : Nat → Nat) : Nat → Nat
  | 0 => 0
  | e + 1 => me_of L e ||| L e

set_option maxHeartbeats 4000000 in
set_option maxRecDepth 100000 in
/-- Graph.restart(vertices) -/
theorem c_restart (l : Launch) (D : va_G) (k0 : Nat → ClassId)  (w0 : va_W) (sz : Nat) (qg g ga gb : Nat) (L : Nat → Nat) (wt : Nat → Int32) (n : Nat) (vv oo : Int32) (hG : w0[qg]? = some (g, .inr (1, [.ref ga, .ref gb, .int (nI n), .int vv, .int oo]))) (hL : w0[qg + 1]? = some (ga, .inl (k0 0, 12, .inl (fun j => nI (L j))))) (hW : w0[qg + 2]? = some (gb, .inl (k0 0, 12, .inl wt))) (x : Int32) : kx_v l yX1_restart wsX1_restart ({ frames := 0, cells := 0, slots := 0, locals := 0 } : Room) D (tyL k0) w0 sz [.ref g, .int x] (fun (u : va_W) => atG u qg k0 g ga gb L wt 0 x 1 ∧ kx_fr w0 u (fun j => j = qg ∨ j = qg + 1 ∨ j = qg + 2)) 0 0 := by
  refine kx_of (Qf := fun A => va_Qv (fun (u : va_W) => atG u qg k0 g ga gb L wt 0 x 1 ∧ kx_fr w0 u (fun j => j = qg ∨ j = qg + 1 ∨ j = qg + 2)) (kx_B D (tyL k0) A) A) (cc := cX1_restart) (maxL := 2) (ret := none) (by decide +kernel) (Nat.le_of_ble_eq_true rfl) ?_
  intro p e s m below meth c A ls hx hb hml hown hts hr hlocks hnm hN hK hP hD hS hA hl
  have hown : s.vm.findClass RX1 = some m.cls := hown
  have hl : lv_has ls 2 [(0, .ref g), (1, .int x)] := hl
  have hfr : kx_fr w0 w0 (fun j => j = qg ∨ j = qg + 1 ∨ j = qg + 2) := kx_fr_rf _ _
  refine lv_aload_n hx hb dX1_restart_0 rfl (lv_at hl 0 rfl) ?_
  refine lv_iconst (v := 1) hx hb dX1_restart_1 (by decide +kernel) ?_
  refine va_put (D := D) (ci := 1) (v := .int 1) (ty := .boolean) (C := RX1) (T := TX1) (N := 5) hx hb hts inX1 tyX1 tyX1_ok nmX1 hown hK hP hD hS qg hG rfl 4 (by decide) (hts _ tw_66) (fun _ h9 => h9) rfl (by decide +kernel) rfl rfl (Nat.le_of_ble_eq_true rfl) dX1_restart_2 (fun H locs hP hD hS => ?_)
  obtain ⟨w_1, ew_1⟩ : ∃ w, w = w0.set qg (g, .inr (1, [.ref ga, .ref gb, .int (nI n), .int vv, .int 1])) := ⟨_, rfl⟩
  have hP : va_P D vwCl w_1 H := by rw [ew_1]; exact hP
  have hD : va_D A w_1 := by rw [ew_1]; exact hD
  have f_2 : w_1[qg]? = some (g, .inr (1, [.ref ga, .ref gb, .int (nI n), .int vv, .int 1])) := by rw [ew_1]; exact kx_set_self hG
  have f_3 : w_1[qg + 1]? = some (ga, .inl (k0 0, 12, .inl (fun y9 => nI (L y9)))) := by rw [ew_1]; exact kx_set_ne hL (by omega)
  have f_4 : w_1[qg + 2]? = some (gb, .inl (k0 0, 12, .inl wt)) := by rw [ew_1]; exact kx_set_ne hW (by omega)
  have hfr : kx_fr w0 w_1 (fun j => j = qg ∨ j = qg + 1 ∨ j = qg + 2) := kx_fr_tr hfr (by rw [ew_1]; exact kx_fr_set (by omega))
  refine lv_aload_n hx hb dX1_restart_5 rfl (lv_at hl 0 rfl) ?_
  refine lv_iload_n hx hb dX1_restart_6 rfl (lv_at hl 1 rfl) ?_
  refine va_put (D := D) (ci := 1) (v := .int x) (ty := .int) (C := RX1) (T := TX1) (N := 5) hx hb hts inX1 tyX1 tyX1_ok nmX1 hown hK hP hD hS qg f_2 rfl 3 (by decide) (hts _ tw_65) (fun _ h9 => h9) rfl (by decide +kernel) rfl rfl (Nat.le_of_ble_eq_true rfl) dX1_restart_7 (fun H locs hP hD hS => ?_)
  obtain ⟨w_5, ew_5⟩ : ∃ w, w = w_1.set qg (g, .inr (1, [.ref ga, .ref gb, .int (nI n), .int x, .int 1])) := ⟨_, rfl⟩
  have hP : va_P D vwCl w_5 H := by rw [ew_5]; exact hP
  have hD : va_D A w_5 := by rw [ew_5]; exact hD
  have f_6 : w_5[qg]? = some (g, .inr (1, [.ref ga, .ref gb, .int (nI n), .int x, .int 1])) := by rw [ew_5]; exact kx_set_self f_2
  have f_7 : w_5[qg + 1]? = some (ga, .inl (k0 0, 12, .inl (fun y9 => nI (L y9)))) := by rw [ew_5]; exact kx_set_ne f_3 (by omega)
  have f_8 : w_5[qg + 2]? = some (gb, .inl (k0 0, 12, .inl wt)) := by rw [ew_5]; exact kx_set_ne f_4 (by omega)
  have hfr : kx_fr w0 w_5 (fun j => j = qg ∨ j = qg + 1 ∨ j = qg + 2) := kx_fr_tr hfr (by rw [ew_5]; exact kx_fr_set (by omega))
  refine lv_aload_n hx hb dX1_restart_10 rfl (lv_at hl 0 rfl) ?_
  refine lv_iconst (v := nI 0) hx hb dX1_restart_11 (by decide +kernel) ?_
  refine va_put (D := D) (ci := 1) (v := .int (nI 0)) (ty := .int) (C := RX1) (T := TX1) (N := 5) hx hb hts inX1 tyX1 tyX1_ok nmX1 hown hK hP hD hS qg f_6 rfl 2 (by decide) (hts _ tw_62) (fun _ h9 => h9) rfl (by decide +kernel) rfl rfl (Nat.le_of_ble_eq_true rfl) dX1_restart_12 (fun H locs hP hD hS => ?_)
  obtain ⟨w_9, ew_9⟩ : ∃ w, w = w_5.set qg (g, .inr (1, [.ref ga, .ref gb, .int (nI 0), .int x, .int 1])) := ⟨_, rfl⟩
  have hP : va_P D vwCl w_9 H := by rw [ew_9]; exact hP
  have hD : va_D A w_9 := by rw [ew_9]; exact hD
  have f_10 : w_9[qg]? = some (g, .inr (1, [.ref ga, .ref gb, .int (nI 0), .int x, .int 1])) := by rw [ew_9]; exact kx_set_self f_6
  have f_11 : w_9[qg + 1]? = some (ga, .inl (k0 0, 12, .inl (fun y9 => nI (L y9)))) := by rw [ew_9]; exact kx_set_ne f_7 (by omega)
  have f_12 : w_9[qg + 2]? = some (gb, .inl (k0 0, 12, .inl wt)) := by rw [ew_9]; exact kx_set_ne f_8 (by omega)
  have hfr : kx_fr w0 w_9 (fun j => j = qg ∨ j = qg + 1 ∨ j = qg + 2) := kx_fr_tr hfr (by rw [ew_9]; exact kx_fr_set (by omega))
  exact kx_vret hx hb hr hlocks hK hP hD hS dX1_restart_15 (⟨⟨f_10, f_11, f_12⟩, hfr⟩)

set_option maxHeartbeats 4000000 in
set_option maxRecDepth 100000 in
/-- Graph.canMeet(vertex) -/
theorem c_canMeet (l : Launch) (D : va_G) (k0 : Nat → ClassId)  (w0 : va_W) (sz : Nat) (qg g ga gb : Nat) (L : Nat → Nat) (wt : Nat → Int32) (n : Nat) (V : Nat) (oo : Int32) (hG : w0[qg]? = some (g, .inr (1, [.ref ga, .ref gb, .int (nI n), .int (nI V), .int oo]))) (hL : w0[qg + 1]? = some (ga, .inl (k0 0, 12, .inl (fun j => nI (L j))))) (hW : w0[qg + 2]? = some (gb, .inl (k0 0, 12, .inl wt))) (hV : V < 2 ^ 31) (x : Int32) : kx_i l yX1_canMeet wsX1_canMeet ({ frames := 0, cells := 0, slots := 0, locals := 0 } : Room) D (tyL k0) w0 sz [.ref g, .int x] (fun (r : Int32) (u : va_W) => ((r = 1 ∧ oo ≠ 0 ∧ ∃ i, i < V ∧ x = nI i) ∨ (r = 0 ∧ ¬ (oo ≠ 0 ∧ ∃ i, i < V ∧ x = nI i))) ∧ u = w0) 0 0 := by
  refine kx_of (Qf := fun A => va_Qi (fun (r : Int32) (u : va_W) => ((r = 1 ∧ oo ≠ 0 ∧ ∃ i, i < V ∧ x = nI i) ∨ (r = 0 ∧ ¬ (oo ≠ 0 ∧ ∃ i, i < V ∧ x = nI i))) ∧ u = w0) (kx_B D (tyL k0) A) A) (cc := cX1_canMeet) (maxL := 2) (ret := (some .boolean)) (by decide +kernel) (Nat.le_of_ble_eq_true rfl) ?_
  intro p e s m below meth c A ls hx hb hml hown hts hr hlocks hnm hN hK hP hD hS hA hl
  have hown : s.vm.findClass RX1 = some m.cls := hown
  have hl : lv_has ls 2 [(0, .ref g), (1, .int x)] := hl
  skip
  refine lv_aload_n hx hb dX1_canMeet_0 rfl (lv_at hl 0 rfl) ?_
  refine va_get (D := D) (ci := 1) (v := .int oo) (C := RX1) (T := TX1) (N := 5) hx hb hts inX1 hown hK hP qg hG rfl 4 (by decide) (hts _ tw_66) (fun _ h9 => h9) rfl dX1_canMeet_1 ?_
  refine lv_if_eq (tgt := 23) hx hb dX1_canMeet_4 (by decide) (fun c_4 => ?_) (fun c_4 => ?_)
  · skip
    have hno : ¬ (oo ≠ 0 ∧ ∃ i, i < V ∧ x = nI i) := fun h => h.1 c_4
    refine lv_iconst (v := 0) hx hb dX1_canMeet_23 (by decide +kernel) ?_
    exact kx_iret (v := 0) hx hb hr rfl hlocks hK hP hD hS dX1_canMeet_24 (⟨by first | exact Or.inl ⟨rfl, c_4, hyes⟩ | exact Or.inr ⟨rfl, hno⟩, rfl⟩)
  · skip
    refine lv_iload_n hx hb dX1_canMeet_7 rfl (lv_at hl 1 rfl) ?_
    refine lv_if_lt (tgt := 23) hx hb dX1_canMeet_8 (by decide) (fun c_8 => ?_) (fun c_8 => ?_)
    · skip
      have hno : ¬ (oo ≠ 0 ∧ ∃ i, i < V ∧ x = nI i) := fun ⟨_, i, h1, h2⟩ => nI_pos (n := i) (by omega) (by rw [← h2]; exact c_8)
      refine lv_iconst (v := 0) hx hb dX1_canMeet_23 (by decide +kernel) ?_
      exact kx_iret (v := 0) hx hb hr rfl hlocks hK hP hD hS dX1_canMeet_24 (⟨by first | exact Or.inl ⟨rfl, c_4, hyes⟩ | exact Or.inr ⟨rfl, hno⟩, rfl⟩)
    · skip
      refine lv_iload_n hx hb dX1_canMeet_11 rfl (lv_at hl 1 rfl) ?_
      refine lv_aload_n hx hb dX1_canMeet_12 rfl (lv_at hl 0 rfl) ?_
      refine va_get (D := D) (ci := 1) (v := .int (nI V)) (C := RX1) (T := TX1) (N := 5) hx hb hts inX1 hown hK hP qg hG rfl 3 (by decide) (hts _ tw_65) (fun _ h9 => h9) rfl dX1_canMeet_13 ?_
      refine lv_icmp_ge (tgt := 23) hx hb dX1_canMeet_16 (by decide) (fun c_16 => ?_) (fun c_16 => ?_)
      · skip
        have hno : ¬ (oo ≠ 0 ∧ ∃ i, i < V ∧ x = nI i) := fun ⟨_, i, h1, h2⟩ => nI_ge (a := i) (b := V) h1 hV (by rw [← h2]; exact c_16)
        refine lv_iconst (v := 0) hx hb dX1_canMeet_23 (by decide +kernel) ?_
        exact kx_iret (v := 0) hx hb hr rfl hlocks hK hP hD hS dX1_canMeet_24 (⟨by first | exact Or.inl ⟨rfl, c_4, hyes⟩ | exact Or.inr ⟨rfl, hno⟩, rfl⟩)
      · skip
        have hyes : ∃ i, i < V ∧ x = nI i := by
          rcases pk_ix x hV with h | h | h
          · exact absurd h c_8
          · exact absurd h c_16
          · exact h
        refine lv_iconst (v := 1) hx hb dX1_canMeet_19 (by decide +kernel) ?_
        refine lv_goto (tgt := 24) hx hb dX1_canMeet_20 (by decide) ?_
        exact kx_iret (v := 1) hx hb hr rfl hlocks hK hP hD hS dX1_canMeet_24 (⟨by first | exact Or.inl ⟨rfl, c_4, hyes⟩ | exact Or.inr ⟨rfl, hno⟩, rfl⟩)

set_option maxHeartbeats 4000000 in
set_option maxRecDepth 100000 in
/-- Graph.append(line) -/
theorem c_append (l : Launch) (D : va_G) (k0 : Nat → ClassId)  (w0 : va_W) (sz : Nat) (qg g ga gb : Nat) (L : Nat → Nat) (wt : Nat → Int32) (n : Nat) (vv oo : Int32) (hG : w0[qg]? = some (g, .inr (1, [.ref ga, .ref gb, .int (nI n), .int vv, .int oo]))) (hL : w0[qg + 1]? = some (ga, .inl (k0 0, 12, .inl (fun j => nI (L j))))) (hW : w0[qg + 2]? = some (gb, .inl (k0 0, 12, .inl wt))) (hn : n ≤ 12) (x : Nat) : kx_i l yX1_append wsX1_append ({ frames := 0, cells := 0, slots := 0, locals := 0 } : Room) D (tyL k0) w0 sz [.ref g, .int (nI x)] (fun (r : Int32) (u : va_W) => (12 ≤ n ∧ r = -1 ∧ u = w0) ∨ (n < 12 ∧ r = nI n ∧ atG u qg k0 g ga gb (fo_up L n x) (upd wt n 0) (n + 1) vv oo ∧ kx_fr w0 u (fun j => j = qg ∨ j = qg + 1 ∨ j = qg + 2))) 0 0 := by
  refine kx_of (Qf := fun A => va_Qi (fun (r : Int32) (u : va_W) => (12 ≤ n ∧ r = -1 ∧ u = w0) ∨ (n < 12 ∧ r = nI n ∧ atG u qg k0 g ga gb (fo_up L n x) (upd wt n 0) (n + 1) vv oo ∧ kx_fr w0 u (fun j => j = qg ∨ j = qg + 1 ∨ j = qg + 2))) (kx_B D (tyL k0) A) A) (cc := cX1_append) (maxL := 2) (ret := (some .int)) (by decide +kernel) (Nat.le_of_ble_eq_true rfl) ?_
  intro p e s m below meth c A ls hx hb hml hown hts hr hlocks hnm hN hK hP hD hS hA hl
  have hown : s.vm.findClass RX1 = some m.cls := hown
  have hl : lv_has ls 2 [(0, .ref g), (1, .int (nI x))] := hl
  have hfr : kx_fr w0 w0 (fun j => j = qg ∨ j = qg + 1 ∨ j = qg + 2) := kx_fr_rf _ _
  refine lv_aload_n hx hb dX1_append_0 rfl (lv_at hl 0 rfl) ?_
  refine va_get (D := D) (ci := 1) (v := .int (nI n)) (C := RX1) (T := TX1) (N := 5) hx hb hts inX1 hown hK hP qg hG rfl 2 (by decide) (hts _ tw_62) (fun _ h9 => h9) rfl dX1_append_1 ?_
  refine lv_bipush (v := nI 12) hx hb dX1_append_4 (by decide +kernel) ?_
  refine lv_icmp_lt (tgt := 11) hx hb dX1_append_6 (by decide) (fun c_6 => ?_) (fun c_6 => ?_)
  · skip
    have h12 : n < 12 := (nI_ltI (by omega) (by omega)).mp c_6
    refine lv_aload_n hx hb dX1_append_11 rfl (lv_at hl 0 rfl) ?_
    refine va_get (D := D) (ci := 1) (v := .ref ga) (C := RX1) (T := TX1) (N := 5) hx hb hts inX1 hown hK hP qg hG rfl 0 (by decide) (hts _ tw_57) (fun _ h9 => h9) rfl dX1_append_12 ?_
    refine lv_aload_n hx hb dX1_append_15 rfl (lv_at hl 0 rfl) ?_
    refine va_get (D := D) (ci := 1) (v := .int (nI n)) (C := RX1) (T := TX1) (N := 5) hx hb hts inX1 hown hK hP qg hG rfl 2 (by decide) (hts _ tw_62) (fun _ h9 => h9) rfl dX1_append_16 ?_
    refine lv_iload_n hx hb dX1_append_19 rfl (lv_at hl 1 rfl) ?_
    refine kx_nast hx hb hK hP hD hS (qg + 1) hL rfl (i := n) (x := x) (by omega) (by decide) dX1_append_20 (fun H locs hP hD hS => ?_)
    obtain ⟨w_1, ew_1⟩ : ∃ w, w = w0.set (qg + 1) (ga, .inl (k0 0, 12, .inl (fun y9 => nI ((fo_up L n x) y9)))) := ⟨_, rfl⟩
    have hP : va_P D vwCl w_1 H := by rw [ew_1]; exact hP
    have hD : va_D A w_1 := by rw [ew_1]; exact hD
    have f_2 : w_1[qg]? = some (g, .inr (1, [.ref ga, .ref gb, .int (nI n), .int vv, .int oo])) := by rw [ew_1]; exact kx_set_ne hG (by omega)
    have f_3 : w_1[qg + 1]? = some (ga, .inl (k0 0, 12, .inl (fun y9 => nI ((fo_up L n x) y9)))) := by rw [ew_1]; exact kx_set_self hL
    have f_4 : w_1[qg + 2]? = some (gb, .inl (k0 0, 12, .inl wt)) := by rw [ew_1]; exact kx_set_ne hW (by omega)
    have hfr : kx_fr w0 w_1 (fun j => j = qg ∨ j = qg + 1 ∨ j = qg + 2) := kx_fr_tr hfr (by rw [ew_1]; exact kx_fr_set (by omega))
    refine lv_aload_n hx hb dX1_append_21 rfl (lv_at hl 0 rfl) ?_
    refine va_get (D := D) (ci := 1) (v := .ref gb) (C := RX1) (T := TX1) (N := 5) hx hb hts inX1 hown hK hP qg f_2 rfl 1 (by decide) (hts _ tw_60) (fun _ h9 => h9) rfl dX1_append_22 ?_
    refine lv_aload_n hx hb dX1_append_25 rfl (lv_at hl 0 rfl) ?_
    refine va_get (D := D) (ci := 1) (v := .int (nI n)) (C := RX1) (T := TX1) (N := 5) hx hb hts inX1 hown hK hP qg f_2 rfl 2 (by decide) (hts _ tw_62) (fun _ h9 => h9) rfl dX1_append_26 ?_
    refine lv_iconst (v := 0) hx hb dX1_append_29 (by decide +kernel) ?_
    refine kx_iast hx hb hK hP hD hS (qg + 2) f_4 rfl (i := n) (x := 0) (by omega) (by decide) dX1_append_30 (fun H locs hP hD hS => ?_)
    obtain ⟨w_5, ew_5⟩ : ∃ w, w = w_1.set (qg + 2) (gb, .inl (k0 0, 12, .inl (upd wt n 0))) := ⟨_, rfl⟩
    have hP : va_P D vwCl w_5 H := by rw [ew_5]; exact hP
    have hD : va_D A w_5 := by rw [ew_5]; exact hD
    have f_6 : w_5[qg]? = some (g, .inr (1, [.ref ga, .ref gb, .int (nI n), .int vv, .int oo])) := by rw [ew_5]; exact kx_set_ne f_2 (by omega)
    have f_7 : w_5[qg + 1]? = some (ga, .inl (k0 0, 12, .inl (fun y9 => nI ((fo_up L n x) y9)))) := by rw [ew_5]; exact kx_set_ne f_3 (by omega)
    have f_8 : w_5[qg + 2]? = some (gb, .inl (k0 0, 12, .inl (upd wt n 0))) := by rw [ew_5]; exact kx_set_self f_4
    have hfr : kx_fr w0 w_5 (fun j => j = qg ∨ j = qg + 1 ∨ j = qg + 2) := kx_fr_tr hfr (by rw [ew_5]; exact kx_fr_set (by omega))
    refine lv_aload_n hx hb dX1_append_31 rfl (lv_at hl 0 rfl) ?_
    refine lv_dup hx hb dX1_append_32 rfl ?_
    refine va_get (D := D) (ci := 1) (v := .int (nI n)) (C := RX1) (T := TX1) (N := 5) hx hb hts inX1 hown hK hP qg f_6 rfl 2 (by decide) (hts _ tw_62) (fun _ h9 => h9) rfl dX1_append_33 ?_
    refine lv_iconst (v := 1) hx hb dX1_append_36 (by decide +kernel) ?_
    refine lv_iadd hx hb dX1_append_37 ?_
    refine lv_topi (fun z_9 ez_9 => ?_)
    have ez_9 : z_9 = nI (n + 1) := by rw [ez_9]; exact nI_1 _
    subst ez_9
    refine va_put (D := D) (ci := 1) (v := .int (nI (n + 1))) (ty := .int) (C := RX1) (T := TX1) (N := 5) hx hb hts inX1 tyX1 tyX1_ok nmX1 hown hK hP hD hS qg f_6 rfl 2 (by decide) (hts _ tw_62) (fun _ h9 => h9) rfl (by decide +kernel) rfl rfl (Nat.le_of_ble_eq_true rfl) dX1_append_38 (fun H locs hP hD hS => ?_)
    obtain ⟨w_10, ew_10⟩ : ∃ w, w = w_5.set qg (g, .inr (1, [.ref ga, .ref gb, .int (nI (n + 1)), .int vv, .int oo])) := ⟨_, rfl⟩
    have hP : va_P D vwCl w_10 H := by rw [ew_10]; exact hP
    have hD : va_D A w_10 := by rw [ew_10]; exact hD
    have f_11 : w_10[qg]? = some (g, .inr (1, [.ref ga, .ref gb, .int (nI (n + 1)), .int vv, .int oo])) := by rw [ew_10]; exact kx_set_self f_6
    have f_12 : w_10[qg + 1]? = some (ga, .inl (k0 0, 12, .inl (fun y9 => nI ((fo_up L n x) y9)))) := by rw [ew_10]; exact kx_set_ne f_7 (by omega)
    have f_13 : w_10[qg + 2]? = some (gb, .inl (k0 0, 12, .inl (upd wt n 0))) := by rw [ew_10]; exact kx_set_ne f_8 (by omega)
    have hfr : kx_fr w0 w_10 (fun j => j = qg ∨ j = qg + 1 ∨ j = qg + 2) := kx_fr_tr hfr (by rw [ew_10]; exact kx_fr_set (by omega))
    refine lv_aload_n hx hb dX1_append_41 rfl (lv_at hl 0 rfl) ?_
    refine va_get (D := D) (ci := 1) (v := .int (nI (n + 1))) (C := RX1) (T := TX1) (N := 5) hx hb hts inX1 hown hK hP qg f_11 rfl 2 (by decide) (hts _ tw_62) (fun _ h9 => h9) rfl dX1_append_42 ?_
    refine lv_iconst (v := 1) hx hb dX1_append_45 (by decide +kernel) ?_
    refine lv_isub hx hb dX1_append_46 ?_
    refine lv_topi (fun z_14 ez_14 => ?_)
    have ez_14 : z_14 = nI n := by rw [ez_14]; exact nI_pred _
    subst ez_14
    exact kx_iret (v := nI n) hx hb hr rfl hlocks hK hP hD hS dX1_append_47 (Or.inr ⟨h12, rfl, ⟨f_11, f_12, f_13⟩, hfr⟩)
  · skip
    have h12 : 12 ≤ n := by
      rcases Nat.lt_or_ge n 12 with h | h
      · exact absurd ((nI_ltI (by omega) (by omega)).mpr h) c_6
      · exact h
    refine lv_iconst (v := -1) hx hb dX1_append_9 (by decide +kernel) ?_
    exact kx_iret (v := -1) hx hb hr rfl hlocks hK hP hD hS dX1_append_10 (Or.inl ⟨h12, rfl, rfl⟩)

set_option maxHeartbeats 4000000 in
set_option maxRecDepth 100000 in
/-- Graph.become(lines, count) -/
theorem c_become (l : Launch) (D : va_G) (k0 : Nat → ClassId)  (w0 : va_W) (sz : Nat) (qg g ga gb : Nat) (L : Nat → Nat) (wt : Nat → Int32) (n : Nat) (vv oo : Int32) (hG : w0[qg]? = some (g, .inr (1, [.ref ga, .ref gb, .int (nI n), .int vv, .int oo]))) (hL : w0[qg + 1]? = some (ga, .inl (k0 0, 12, .inl (fun j => nI (L j))))) (hW : w0[qg + 2]? = some (gb, .inl (k0 0, 12, .inl wt))) (qd da : Nat) (d : Nat → Nat) (hd : w0[qd]? = some (da, .inl (k0 0, 12, .inl (fun j => nI (d j))))) (hap : qd < qg ∨ qg + 3 ≤ qd) (m9 : Nat) (hm : m9 ≤ 12) : kx_v l yX1_become wsX1_become ({ frames := 1, cells := 0, slots := 0, locals := 24 } : Room) D (tyL k0) w0 sz [.ref g, .ref da, .int (nI m9)] (fun (u : va_W) => ∃ (L9 : Nat → Nat) (wt9 : Nat → Int32), atG u qg k0 g ga gb L9 wt9 m9 vv 0 ∧ (∀ j, j < m9 → L9 j = d j) ∧ (∀ j, j < m9 → wt9 j = 0) ∧ kx_fr w0 u (fun j => j = qg ∨ j = qg + 1 ∨ j = qg + 2)) 0 0 := by
  refine kx_of (Qf := fun A => va_Qv (fun (u : va_W) => ∃ (L9 : Nat → Nat) (wt9 : Nat → Int32), atG u qg k0 g ga gb L9 wt9 m9 vv 0 ∧ (∀ j, j < m9 → L9 j = d j) ∧ (∀ j, j < m9 → wt9 j = 0) ∧ kx_fr w0 u (fun j => j = qg ∨ j = qg + 1 ∨ j = qg + 2)) (kx_B D (tyL k0) A) A) (cc := cX1_become) (maxL := 4) (ret := none) (by decide +kernel) (Nat.le_of_ble_eq_true rfl) ?_
  intro p e s m below meth c A ls hx hb hml hown hts hr hlocks hnm hN hK hP hD hS hA hl
  have hown : s.vm.findClass RX1 = some m.cls := hown
  have hl : lv_has ls 4 [(0, .ref g), (1, .ref da), (2, .int (nI m9))] := hl
  have hfr : kx_fr w0 w0 (fun j => j = qg ∨ j = qg + 1 ∨ j = qg + 2) := kx_fr_rf _ _
  refine lv_aload_n hx hb dX1_become_0 rfl (lv_at hl 0 rfl) ?_
  refine lv_iconst (v := 0) hx hb dX1_become_1 (by decide +kernel) ?_
  refine va_put (D := D) (ci := 1) (v := .int 0) (ty := .boolean) (C := RX1) (T := TX1) (N := 5) hx hb hts inX1 tyX1 tyX1_ok nmX1 hown hK hP hD hS qg hG rfl 4 (by decide) (hts _ tw_66) (fun _ h9 => h9) rfl (by decide +kernel) rfl rfl (Nat.le_of_ble_eq_true rfl) dX1_become_2 (fun H locs hP hD hS => ?_)
  obtain ⟨w_1, ew_1⟩ : ∃ w, w = w0.set qg (g, .inr (1, [.ref ga, .ref gb, .int (nI n), .int vv, .int 0])) := ⟨_, rfl⟩
  have hP : va_P D vwCl w_1 H := by rw [ew_1]; exact hP
  have hD : va_D A w_1 := by rw [ew_1]; exact hD
  have f_2 : w_1[qg]? = some (g, .inr (1, [.ref ga, .ref gb, .int (nI n), .int vv, .int 0])) := by rw [ew_1]; exact kx_set_self hG
  have f_3 : w_1[qg + 1]? = some (ga, .inl (k0 0, 12, .inl (fun y9 => nI (L y9)))) := by rw [ew_1]; exact kx_set_ne hL (by omega)
  have f_4 : w_1[qg + 2]? = some (gb, .inl (k0 0, 12, .inl wt)) := by rw [ew_1]; exact kx_set_ne hW (by omega)
  have f_5 : w_1[qd]? = some (da, .inl (k0 0, 12, .inl (fun y9 => nI (d y9)))) := by rw [ew_1]; exact kx_set_ne hd (by omega)
  have hfr : kx_fr w0 w_1 (fun j => j = qg ∨ j = qg + 1 ∨ j = qg + 2) := kx_fr_tr hfr (by rw [ew_1]; exact kx_fr_set (by omega))
  refine lv_aload_n hx hb dX1_become_5 rfl (lv_at hl 0 rfl) ?_
  refine lv_iconst (v := nI 0) hx hb dX1_become_6 (by decide +kernel) ?_
  refine va_put (D := D) (ci := 1) (v := .int (nI 0)) (ty := .int) (C := RX1) (T := TX1) (N := 5) hx hb hts inX1 tyX1 tyX1_ok nmX1 hown hK hP hD hS qg f_2 rfl 2 (by decide) (hts _ tw_62) (fun _ h9 => h9) rfl (by decide +kernel) rfl rfl (Nat.le_of_ble_eq_true rfl) dX1_become_7 (fun H locs hP hD hS => ?_)
  obtain ⟨w_6, ew_6⟩ : ∃ w, w = w_1.set qg (g, .inr (1, [.ref ga, .ref gb, .int (nI 0), .int vv, .int 0])) := ⟨_, rfl⟩
  have hP : va_P D vwCl w_6 H := by rw [ew_6]; exact hP
  have hD : va_D A w_6 := by rw [ew_6]; exact hD
  have f_7 : w_6[qg]? = some (g, .inr (1, [.ref ga, .ref gb, .int (nI 0), .int vv, .int 0])) := by rw [ew_6]; exact kx_set_self f_2
  have f_8 : w_6[qg + 1]? = some (ga, .inl (k0 0, 12, .inl (fun y9 => nI (L y9)))) := by rw [ew_6]; exact kx_set_ne f_3 (by omega)
  have f_9 : w_6[qg + 2]? = some (gb, .inl (k0 0, 12, .inl wt)) := by rw [ew_6]; exact kx_set_ne f_4 (by omega)
  have f_10 : w_6[qd]? = some (da, .inl (k0 0, 12, .inl (fun y9 => nI (d y9)))) := by rw [ew_6]; exact kx_set_ne f_5 (by omega)
  have hfr : kx_fr w0 w_6 (fun j => j = qg ∨ j = qg + 1 ∨ j = qg + 2) := kx_fr_tr hfr (by rw [ew_6]; exact kx_fr_set (by omega))
  refine lv_iconst (v := nI 0) hx hb dX1_become_10 (by decide +kernel) ?_
  refine lv_istore_n (lv' := [(3, .int (nI 0)), (0, .ref g), (1, .ref da), (2, .int (nI m9))]) hx hb dX1_become_11 rfl hl (by decide) rfl (fun ls hl => ?_)
  have loop_12 : ∀ (n12 : Nat) (e9 : Nat) (L1 : Nat → Nat) (wt1 : Nat → Int32), (e9 ≤ m9) → (∀ j, j < e9 → L1 j = d j) → (∀ j, j < e9 → wt1 j = 0) → (m9 + 1 ≤ e9 + n12) → ∀ (w1 : va_W), w1[qg]? = some (g, .inr (1, [.ref ga, .ref gb, .int (nI e9), .int vv, .int 0])) → w1[qg + 1]? = some (ga, .inl (k0 0, 12, .inl (fun y9 => nI (L1 y9)))) → w1[qg + 2]? = some (gb, .inl (k0 0, 12, .inl wt1)) → w1[qd]? = some (da, .inl (k0 0, 12, .inl (fun y9 => nI (d y9)))) → kx_fr w0 w1 (fun j => j = qg ∨ j = qg + 1 ∨ j = qg + 2) → ∀ (H : Heap) (locs : List Loc), va_P D vwCl w1 H → va_D A w1 → va_S A s.heap H locs → ∀ (ls : Array Slot), lv_has ls 4 [(3, .int (nI e9)), (0, .ref g), (1, .ref da), (2, .int (nI m9))] → W p l e ({ frames := 1, cells := 0, slots := 0, locals := 24 } : Room) s m ([.ref g, .ref da, .int (nI m9)] : List Value).toArray below meth c H locs 0 0 (MQ below (va_Qv (fun (u : va_W) => ∃ (L9 : Nat → Nat) (wt9 : Nat → Int32), atG u qg k0 g ga gb L9 wt9 m9 vv 0 ∧ (∀ j, j < m9 → L9 j = d j) ∧ (∀ j, j < m9 → wt9 j = 0) ∧ kx_fr w0 u (fun j => j = qg ∨ j = qg + 1 ∨ j = qg + 2)) (kx_B D (tyL k0) A) A) ([.ref g, .ref da, .int (nI m9)] : List Value).toArray s 0 0 A) (F0 m 12 ls []) := by
    intro n12
    induction n12 with
    | zero =>
      intro e9 L1 wt1 he hl1 hw1 hme
      exact absurd hme (by omega)
    | succ n12 ih12 =>
      intro e9 L1 wt1 he hl1 hw1 hme w1 F12_0 F12_1 F12_2 F12_3 hfr H locs hP hD hS ls hl
      refine lv_iload_n hx hb dX1_become_12 rfl (lv_at hl 0 rfl) ?_
      refine lv_iload_n hx hb dX1_become_13 rfl (lv_at hl 3 rfl) ?_
      refine lv_icmp_ge (tgt := 37) hx hb dX1_become_14 (by decide) (fun c_14 => ?_) (fun c_14 => ?_)
      · skip
        have hik : e9 = m9 := by
          have := (nI_leI (by omega) (by omega)).mp c_14
          omega
        subst hik
        exact kx_vret hx hb hr hlocks hK hP hD hS dX1_become_37 (⟨L1, wt1, ⟨F12_0, F12_1, F12_2⟩, hl1, hw1, hfr⟩)
      · skip
        have hik : e9 < m9 := by
          rcases Nat.lt_or_ge (e9) (m9) with h | h
          · exact h
          · exact absurd ((nI_leI (by omega) (by omega)).mpr h) c_14
        refine lv_iload_n hx hb dX1_become_17 rfl (lv_at hl 0 rfl) ?_
        refine lv_aload_n hx hb dX1_become_18 rfl (lv_at hl 2 rfl) ?_
        refine va_alen hx hb hK hP qd 0 F12_3 rfl (v := nI 12) rfl dX1_become_19 ?_
        refine lv_icmp_ge (tgt := 37) hx hb dX1_become_20 (by decide) (fun c_20 => ?_) (fun c_20 => ?_)
        · skip
          exact absurd c_20 (nI_ge (by omega) (by omega))
        · skip
          refine lv_aload_n hx hb dX1_become_23 rfl (lv_at hl 1 rfl) ?_
          refine lv_aload_n hx hb dX1_become_24 rfl (lv_at hl 2 rfl) ?_
          refine lv_iload_n hx hb dX1_become_25 rfl (lv_at hl 0 rfl) ?_
          refine kx_nald hx hb hK hP qd F12_3 rfl (i := e9) (by omega) (by decide) dX1_become_26 ?_
          refine kx_goi (va_runV (As := [.int (nI (d e9))]) (rest := []) ⟨hx, hb, hml, hown, hts⟩ (c_append l D k0 w1 _ qg g ga gb L1 wt1 e9 vv 0 F12_0 F12_1 F12_2 (by omega) (d e9)) ⟨(kg_B (k := 1) hts tw_113 tw_165 tw_21 (by decide +kernel) rfl rfl ⟨Nat.le_of_ble_eq_true rfl, Nat.le_of_ble_eq_true rfl⟩), hts _ tw_111, hts _ tw_112⟩ (kx_preV hN hK hP hD rfl F12_0) rfl rfl hl.1 rfl (lv_room (Nat.le_of_ble_eq_true rfl)) dX1_become_27 ⟨Nat.le_of_ble_eq_true rfl, Nat.le_of_ble_eq_true rfl⟩) hD hS hA (fun r_12 u_13 H locs hp_11 hP hD hS => ?_)
          obtain ⟨_, _, ⟨hG1, hL1, hW1⟩, hq⟩ : e9 < 12 ∧ r_12 = nI e9 ∧ atG u_13 qg k0 g ga gb (fo_up L1 e9 (d e9)) (upd wt1 e9 0) (e9 + 1) vv 0 ∧ kx_fr w1 u_13 (fun j => j = qg ∨ j = qg + 1 ∨ j = qg + 2) := by
            rcases hp_11 with ⟨h0, _, _⟩ | h0
            · omega
            · exact h0
          have hz : True := trivial
          obtain hz9 := hz
          have f_14 : u_13[qg]? = some (g, .inr (1, [.ref ga, .ref gb, .int (nI (e9 + 1)), .int vv, .int 0])) := hG1
          have f_15 : u_13[qg + 1]? = some (ga, .inl (k0 0, 12, .inl (fun y9 => nI ((fo_up L1 e9 (d e9)) y9)))) := hL1
          have f_16 : u_13[qg + 2]? = some (gb, .inl (k0 0, 12, .inl (upd wt1 e9 0))) := hW1
          have f_17 : u_13[qd]? = some (da, .inl (k0 0, 12, .inl (fun y9 => nI (d y9)))) := by rw [hq _ (by omega)]; exact F12_3
          have hfr : kx_fr w0 u_13 (fun j => j = qg ∨ j = qg + 1 ∨ j = qg + 2) := kx_fr_tr hfr (kx_fr_mono hq (fun j h => h))
          refine lv_pop hx hb dX1_become_30 rfl ?_
          refine lv_iinc (v := nI (e9 + 1)) (lv' := [(3, .int (nI (e9 + 1))), (0, .ref g), (1, .ref da), (2, .int (nI m9))]) hx hb dX1_become_31 hl (k := 0) rfl (nI_1 _) (by decide) rfl (fun ls hl => ?_)
          refine lv_goto (tgt := 12) hx hb dX1_become_34 (by decide) ?_
          exact ih12 (e9 + 1) (fo_up L1 e9 (d e9)) (upd wt1 e9 0) (by omega) (fun j h => by
              rcases Nat.lt_or_ge j e9 with h2 | h2
              · rw [fo_up_lt _ _ h2]; exact hl1 j h2
              · rw [show j = e9 by omega, fo_up_self]) (fun j h => by
              by_cases h2 : j = e9
              · simp [upd, h2]
              · simp only [upd, if_neg h2]; exact hw1 j (by omega)) (by omega) u_13 f_14 f_15 f_16 f_17 hfr _ _ hP hD hS _ (lv_sub hl [0, 1, 2, 3] rfl)
  exact loop_12 (m9 + 1) 0 L wt (Nat.zero_le m9) (fun j h => absurd h (Nat.not_lt_zero j)) (fun j h => absurd h (Nat.not_lt_zero j)) (by omega) w_6 f_7 f_8 f_9 f_10 hfr _ _ hP hD hS _ (lv_sub hl [0, 1, 2, 3] rfl)

set_option maxHeartbeats 4000000 in
set_option maxRecDepth 100000 in
/-- Graph.met() -/
theorem c_met (l : Launch) (D : va_G) (k0 : Nat → ClassId)  (w0 : va_W) (sz : Nat) (qg g ga gb : Nat) (L : Nat → Nat) (wt : Nat → Int32) (n : Nat) (vv oo : Int32) (hG : w0[qg]? = some (g, .inr (1, [.ref ga, .ref gb, .int (nI n), .int vv, .int oo]))) (hL : w0[qg + 1]? = some (ga, .inl (k0 0, 12, .inl (fun j => nI (L j))))) (hW : w0[qg + 2]? = some (gb, .inl (k0 0, 12, .inl wt))) (hn : n ≤ 12) : kx_i l yX1_met wsX1_met ({ frames := 0, cells := 0, slots := 0, locals := 0 } : Room) D (tyL k0) w0 sz [.ref g] (fun (r : Int32) (u : va_W) => r = nI (me_of L n) ∧ u = w0) 0 0 := by
  refine kx_of (Qf := fun A => va_Qi (fun (r : Int32) (u : va_W) => r = nI (me_of L n) ∧ u = w0) (kx_B D (tyL k0) A) A) (cc := cX1_met) (maxL := 3) (ret := (some .int)) (by decide +kernel) (Nat.le_of_ble_eq_true rfl) ?_
  intro p e s m below meth c A ls hx hb hml hown hts hr hlocks hnm hN hK hP hD hS hA hl
  have hown : s.vm.findClass RX1 = some m.cls := hown
  have hl : lv_has ls 3 [(0, .ref g)] := hl
  skip
  refine lv_iconst (v := nI 0) hx hb dX1_met_0 (by decide +kernel) ?_
  refine lv_istore_n (lv' := [(1, .int (nI 0)), (0, .ref g)]) hx hb dX1_met_1 rfl hl (by decide) rfl (fun ls hl => ?_)
  refine lv_iconst (v := nI 0) hx hb dX1_met_2 (by decide +kernel) ?_
  refine lv_istore_n (lv' := [(2, .int (nI 0)), (1, .int (nI 0)), (0, .ref g)]) hx hb dX1_met_3 rfl hl (by decide) rfl (fun ls hl => ?_)
  have loop_4 : ∀ (n4 : Nat) (e9 : Nat), (e9 ≤ n) → (n + 1 ≤ e9 + n4) → ∀ (H : Heap) (locs : List Loc), va_P D vwCl w0 H → va_D A w0 → va_S A s.heap H locs → ∀ (ls : Array Slot), lv_has ls 3 [(2, .int (nI e9)), (1, .int (nI (me_of L e9))), (0, .ref g)] → W p l e ({ frames := 0, cells := 0, slots := 0, locals := 0 } : Room) s m ([.ref g] : List Value).toArray below meth c H locs 0 0 (MQ below (va_Qi (fun (r : Int32) (u : va_W) => r = nI (me_of L n) ∧ u = w0) (kx_B D (tyL k0) A) A) ([.ref g] : List Value).toArray s 0 0 A) (F0 m 4 ls []) := by
    intro n4
    induction n4 with
    | zero =>
      intro e9 he hme
      exact absurd hme (by omega)
    | succ n4 ih4 =>
      intro e9 he hme  H locs hP hD hS ls hl
      refine lv_iload_n hx hb dX1_met_4 rfl (lv_at hl 0 rfl) ?_
      refine lv_aload_n hx hb dX1_met_5 rfl (lv_at hl 2 rfl) ?_
      refine va_get (D := D) (ci := 1) (v := .int (nI n)) (C := RX1) (T := TX1) (N := 5) hx hb hts inX1 hown hK hP qg hG rfl 2 (by decide) (hts _ tw_62) (fun _ h9 => h9) rfl dX1_met_6 ?_
      refine lv_icmp_ge (tgt := 27) hx hb dX1_met_9 (by decide) (fun c_9 => ?_) (fun c_9 => ?_)
      · skip
        have hik : e9 = n := by
          have := (nI_leI (by omega) (by omega)).mp c_9
          omega
        subst hik
        refine lv_iload_n hx hb dX1_met_27 rfl (lv_at hl 1 rfl) ?_
        exact kx_iret (v := nI (me_of L e9)) hx hb hr rfl hlocks hK hP hD hS dX1_met_28 (⟨rfl, rfl⟩)
      · skip
        have hik : e9 < n := by
          rcases Nat.lt_or_ge (e9) (n) with h | h
          · exact h
          · exact absurd ((nI_leI (by omega) (by omega)).mpr h) c_9
        refine lv_iload_n hx hb dX1_met_12 rfl (lv_at hl 1 rfl) ?_
        refine lv_aload_n hx hb dX1_met_13 rfl (lv_at hl 2 rfl) ?_
        refine va_get (D := D) (ci := 1) (v := .ref ga) (C := RX1) (T := TX1) (N := 5) hx hb hts inX1 hown hK hP qg hG rfl 0 (by decide) (hts _ tw_57) (fun _ h9 => h9) rfl dX1_met_14 ?_
        refine lv_iload_n hx hb dX1_met_17 rfl (lv_at hl 0 rfl) ?_
        refine kx_nald hx hb hK hP (qg + 1) hL rfl (i := e9) (by omega) (by decide) dX1_met_18 ?_
        refine lv_ior hx hb dX1_met_19 ?_
        refine lv_topi (fun z_1 ez_1 => ?_)
        have ez_1 : z_1 = nI (me_of L (e9 + 1)) := by rw [ez_1]; exact kb_or _ _
        subst ez_1
        refine lv_istore_n (lv' := [(1, .int (nI (me_of L (e9 + 1)))), (2, .int (nI e9)), (0, .ref g)]) hx hb dX1_met_20 rfl hl (by decide) rfl (fun ls hl => ?_)
        refine lv_iinc (v := nI (e9 + 1)) (lv' := [(2, .int (nI (e9 + 1))), (1, .int (nI (me_of L (e9 + 1)))), (0, .ref g)]) hx hb dX1_met_21 hl (k := 1) rfl (nI_1 _) (by decide) rfl (fun ls hl => ?_)
        refine lv_goto (tgt := 4) hx hb dX1_met_24 (by decide) ?_
        exact ih4 (e9 + 1) (by omega) (by omega) _ _ hP hD hS _ (lv_sub hl [0, 1, 2] rfl)
  exact loop_4 (n + 1) 0 (Nat.zero_le n) (by omega) _ _ hP hD hS _ (lv_sub hl [0, 1, 2] rfl)

set_option maxHeartbeats 4000000 in
set_option maxRecDepth 100000 in
/-- Graph.heaviest(set) -/
theorem c_heaviest (l : Launch) (D : va_G) (k0 : Nat → ClassId)  (w0 : va_W) (sz : Nat) (qg g ga gb : Nat) (L : Nat → Nat) (wt : Nat → Int32) (n : Nat) (vv oo : Int32) (hG : w0[qg]? = some (g, .inr (1, [.ref ga, .ref gb, .int (nI n), .int vv, .int oo]))) (hL : w0[qg + 1]? = some (ga, .inl (k0 0, 12, .inl (fun j => nI (L j))))) (hW : w0[qg + 2]? = some (gb, .inl (k0 0, 12, .inl wt))) (hn : n ≤ 12) (S : Nat) (hSb : S < 2 ^ 31) : kx_i l yX1_heaviest wsX1_heaviest ({ frames := 1, cells := 0, slots := 0, locals := 24 } : Room) D (tyL k0) w0 sz [.ref g, .int (nI S)] (fun (r : Int32) (u : va_W) => r = nI (gy_hv wt S n).2 ∧ u = w0) 0 0 := by
  refine kx_of (Qf := fun A => va_Qi (fun (r : Int32) (u : va_W) => r = nI (gy_hv wt S n).2 ∧ u = w0) (kx_B D (tyL k0) A) A) (cc := cX1_heaviest) (maxL := 5) (ret := (some .int)) (by decide +kernel) (Nat.le_of_ble_eq_true rfl) ?_
  intro p e s m below meth c A ls hx hb hml hown hts hr hlocks hnm hN hK hP hD hS hA hl
  have hown : s.vm.findClass RX1 = some m.cls := hown
  have hl : lv_has ls 5 [(0, .ref g), (1, .int (nI S))] := hl
  skip
  refine lv_sipush (v := -1000) hx hb dX1_heaviest_0 (by decide +kernel) ?_
  refine lv_istore_n (lv' := [(2, .int (-1000)), (0, .ref g), (1, .int (nI S))]) hx hb dX1_heaviest_3 rfl hl (by decide) rfl (fun ls hl => ?_)
  refine lv_iconst (v := nI 0) hx hb dX1_heaviest_4 (by decide +kernel) ?_
  refine lv_istore_n (lv' := [(3, .int (nI 0)), (2, .int (-1000)), (0, .ref g), (1, .int (nI S))]) hx hb dX1_heaviest_5 rfl hl (by decide) rfl (fun ls hl => ?_)
  refine lv_iconst (v := nI 0) hx hb dX1_heaviest_6 (by decide +kernel) ?_
  refine lv_istore (lv' := [(4, .int (nI 0)), (3, .int (nI 0)), (2, .int (-1000)), (0, .ref g), (1, .int (nI S))]) hx hb dX1_heaviest_7 hl (by decide) rfl (fun ls hl => ?_)
  have loop_9 : ∀ (n9 : Nat) (e9 : Nat), (e9 ≤ n) → (n + 1 ≤ e9 + n9) → ∀ (H : Heap) (locs : List Loc), va_P D vwCl w0 H → va_D A w0 → va_S A s.heap H locs → ∀ (ls : Array Slot), lv_has ls 5 [(4, .int (nI e9)), (3, .int (nI (gy_hv wt S e9).2)), (2, .int ((gy_hv wt S e9).1)), (0, .ref g), (1, .int (nI S))] → W p l e ({ frames := 1, cells := 0, slots := 0, locals := 24 } : Room) s m ([.ref g, .int (nI S)] : List Value).toArray below meth c H locs 0 0 (MQ below (va_Qi (fun (r : Int32) (u : va_W) => r = nI (gy_hv wt S n).2 ∧ u = w0) (kx_B D (tyL k0) A) A) ([.ref g, .int (nI S)] : List Value).toArray s 0 0 A) (F0 m 9 ls []) := by
    intro n9
    induction n9 with
    | zero =>
      intro e9 he hme
      exact absurd hme (by omega)
    | succ n9 ih9 =>
      intro e9 he hme  H locs hP hD hS ls hl
      refine lv_iload hx hb dX1_heaviest_9 (lv_at hl 0 rfl) ?_
      refine lv_aload_n hx hb dX1_heaviest_11 rfl (lv_at hl 3 rfl) ?_
      refine va_get (D := D) (ci := 1) (v := .int (nI n)) (C := RX1) (T := TX1) (N := 5) hx hb hts inX1 hown hK hP qg hG rfl 2 (by decide) (hts _ tw_62) (fun _ h9 => h9) rfl dX1_heaviest_12 ?_
      refine lv_icmp_ge (tgt := 55) hx hb dX1_heaviest_15 (by decide) (fun c_15 => ?_) (fun c_15 => ?_)
      · skip
        have hik : e9 = n := by
          have := (nI_leI (by omega) (by omega)).mp c_15
          omega
        subst hik
        refine lv_iload_n hx hb dX1_heaviest_55 rfl (lv_at hl 1 rfl) ?_
        exact kx_iret (v := nI (gy_hv wt S e9).2) hx hb hr rfl hlocks hK hP hD hS dX1_heaviest_56 (⟨rfl, rfl⟩)
      · skip
        have hik : e9 < n := by
          rcases Nat.lt_or_ge (e9) (n) with h | h
          · exact h
          · exact absurd ((nI_leI (by omega) (by omega)).mpr h) c_15
        refine lv_iload_n hx hb dX1_heaviest_18 rfl (lv_at hl 4 rfl) ?_
        refine lv_iload hx hb dX1_heaviest_19 (lv_at hl 0 rfl) ?_
        refine kx_goi (va_runSN (As := [.int (nI S), .int (nI e9)]) (rest := []) ⟨hx, hb, hml, hown, hts⟩ (c_has l D k0 w0 _ S e9 hSb (by omega)) ⟨(kg_N (k := 2) hts tw_143 hN.2.2.2.1 tw_19 (by decide +kernel) rfl rfl ⟨Nat.le_of_ble_eq_true rfl, Nat.le_of_ble_eq_true rfl⟩), hts _ tw_142, trivial⟩ (kx_preS hN hK hP hD) rfl rfl hl.1 rfl (lv_room (Nat.le_of_ble_eq_true rfl)) dX1_heaviest_21 ⟨Nat.le_of_ble_eq_true rfl, Nat.le_of_ble_eq_true rfl⟩) hD hS hA (fun r_2 u_3 H locs hp_1 hP hD hS => ?_)
        obtain ⟨er_2, eu_3⟩ := hp_1
        rw [eu_3] at hP hD; subst er_2
        refine lv_if_eq (tgt := 49) hx hb dX1_heaviest_24 (by decide) (fun c_24 => ?_) (fun c_24 => ?_)
        · skip
          have ehv : gy_hv wt S (e9 + 1) = gy_hv wt S e9 := by
            show ite _ _ _ = _
            rw [if_neg (fun hq => absurd hq.1 (by rw [(kb_bool _).mp c_24]; exact Bool.false_ne_true))]
          rw [← ehv] at hl
          refine lv_iinc (v := nI (e9 + 1)) (lv' := [(4, .int (nI (e9 + 1))), (3, .int (nI (gy_hv wt S (e9 + 1)).2)), (2, .int ((gy_hv wt S (e9 + 1)).1)), (0, .ref g), (1, .int (nI S))]) hx hb dX1_heaviest_49 hl (k := 0) rfl (nI_1 _) (by decide) rfl (fun ls hl => ?_)
          refine lv_goto (tgt := 9) hx hb dX1_heaviest_52 (by decide) ?_
          exact ih9 (e9 + 1) (by omega) (by omega) _ _ hP hD hS _ (lv_sub hl [0, 1, 2, 3, 4] rfl)
        · skip
          have hS1 : S.testBit e9 = true := by
            cases hq9 : S.testBit e9 with
            | true => rfl
            | false => exact absurd ((kb_bool _).mpr hq9) c_24
          refine lv_aload_n hx hb dX1_heaviest_27 rfl (lv_at hl 3 rfl) ?_
          refine va_get (D := D) (ci := 1) (v := .ref gb) (C := RX1) (T := TX1) (N := 5) hx hb hts inX1 hown hK hP qg hG rfl 1 (by decide) (hts _ tw_60) (fun _ h9 => h9) rfl dX1_heaviest_28 ?_
          refine lv_iload hx hb dX1_heaviest_31 (lv_at hl 0 rfl) ?_
          refine kx_iald hx hb hK hP (qg + 2) hW rfl (i := e9) (by omega) (by decide) dX1_heaviest_33 ?_
          refine lv_iload_n hx hb dX1_heaviest_34 rfl (lv_at hl 2 rfl) ?_
          refine lv_icmp_le (tgt := 49) hx hb dX1_heaviest_35 (by decide) (fun c_35 => ?_) (fun c_35 => ?_)
          · skip
            have ehv : gy_hv wt S (e9 + 1) = gy_hv wt S e9 := by
              show ite _ _ _ = _
              rw [if_neg (fun hq => absurd hq.2 (Int32.not_lt.mpr c_35))]
            rw [← ehv] at hl
            refine lv_iinc (v := nI (e9 + 1)) (lv' := [(4, .int (nI (e9 + 1))), (3, .int (nI (gy_hv wt S (e9 + 1)).2)), (2, .int ((gy_hv wt S (e9 + 1)).1)), (0, .ref g), (1, .int (nI S))]) hx hb dX1_heaviest_49 hl (k := 0) rfl (nI_1 _) (by decide) rfl (fun ls hl => ?_)
            refine lv_goto (tgt := 9) hx hb dX1_heaviest_52 (by decide) ?_
            exact ih9 (e9 + 1) (by omega) (by omega) _ _ hP hD hS _ (lv_sub hl [0, 1, 2, 3, 4] rfl)
          · skip
            have ehv : gy_hv wt S (e9 + 1) = (wt e9, e9) := by
              show ite _ _ _ = _
              rw [if_pos ⟨hS1, Int32.not_le.mp c_35⟩]
            refine lv_aload_n hx hb dX1_heaviest_38 rfl (lv_at hl 3 rfl) ?_
            refine va_get (D := D) (ci := 1) (v := .ref gb) (C := RX1) (T := TX1) (N := 5) hx hb hts inX1 hown hK hP qg hG rfl 1 (by decide) (hts _ tw_60) (fun _ h9 => h9) rfl dX1_heaviest_39 ?_
            refine lv_iload hx hb dX1_heaviest_42 (lv_at hl 0 rfl) ?_
            refine kx_iald hx hb hK hP (qg + 2) hW rfl (i := e9) (by omega) (by decide) dX1_heaviest_44 ?_
            refine lv_topi (fun z_4 ez_4 => ?_)
            have ez_4 : z_4 = (gy_hv wt S (e9 + 1)).1 := by rw [ez_4]; rw [ehv]
            subst ez_4
            refine lv_istore_n (lv' := [(2, .int ((gy_hv wt S (e9 + 1)).1)), (4, .int (nI e9)), (3, .int (nI (gy_hv wt S e9).2)), (0, .ref g), (1, .int (nI S))]) hx hb dX1_heaviest_45 rfl hl (by decide) rfl (fun ls hl => ?_)
            refine lv_iload hx hb dX1_heaviest_46 (lv_at hl 1 rfl) ?_
            refine lv_topi (fun z_5 ez_5 => ?_)
            have ez_5 : z_5 = nI (gy_hv wt S (e9 + 1)).2 := by rw [ez_5]; rw [ehv]
            subst ez_5
            refine lv_istore_n (lv' := [(3, .int (nI (gy_hv wt S (e9 + 1)).2)), (2, .int ((gy_hv wt S (e9 + 1)).1)), (4, .int (nI e9)), (0, .ref g), (1, .int (nI S))]) hx hb dX1_heaviest_48 rfl hl (by decide) rfl (fun ls hl => ?_)
            refine lv_iinc (v := nI (e9 + 1)) (lv' := [(4, .int (nI (e9 + 1))), (3, .int (nI (gy_hv wt S (e9 + 1)).2)), (2, .int ((gy_hv wt S (e9 + 1)).1)), (0, .ref g), (1, .int (nI S))]) hx hb dX1_heaviest_49 hl (k := 2) rfl (nI_1 _) (by decide) rfl (fun ls hl => ?_)
            refine lv_goto (tgt := 9) hx hb dX1_heaviest_52 (by decide) ?_
            exact ih9 (e9 + 1) (by omega) (by omega) _ _ hP hD hS _ (lv_sub hl [0, 1, 2, 3, 4] rfl)
  exact loop_9 (n + 1) 0 (Nat.zero_le n) (by omega) _ _ hP hD hS _ (lv_sub hl [0, 1, 2, 3, 4] rfl)
