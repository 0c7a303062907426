set_option maxHeartbeats 8000000 in
set_option maxRecDepth 100000 in
theorem whole_start {p : Program} {e : Env} {s : State} {m : MethodId} {below : List Frame} {meth : Method} {c : Code} (l : Launch) {b L : Nat} {xs : Nat → Int32} (hL : L ≤ 2560) (C0 : lw_At p s m meth c b L xs) : W p l e room_1 s m #[Value.ref b] below meth c s.heap [] 0 0 (lw_Z below #[Value.ref b] s) (entryFrame m ([Value.ref b] : List Value).toArray 4) := by
  obtain ⟨hx, hb, hr, hml, hown, hts0, hX, hbl, hlocks, hgv⟩ := id C0
  have hown : s.vm.findClass RL = some m.cls := hown
  have hts : ∀ w ∈ lw_gd, w.before #[Value.ref b] s = true := fun w h => hts0 w (List.mem_filter.mp h).1
  have hA : ∀ q : Nat, s.heap.size ≤ q → (fun q : Nat => s.heap.size ≤ q) q := fun _ h => h
  have hN : kx_nest s := ⟨va_Nw.of rfl (hts0 _ tw_37), va_Nw.of rfl (hts0 _ tw_53), va_Nw.of rfl (hts0 _ tw_141), va_Nw.of rfl (hts0 _ tw_208), va_AO.of (hts0 _ tw_34)⟩
  obtain ⟨D, k0, hK⟩ := law_K hts hN.2.2.2.2
  obtain ⟨A, eA⟩ : ∃ A : Nat → Prop, A = fun q : Nat => s.heap.size ≤ q := ⟨_, rfl⟩
  have hA : ∀ q : Nat, s.heap.size ≤ q → A q := fun q h => by rw [eA]; exact h
  have hS : va_S A s.heap s.heap [] := va_S.rf
  obtain ⟨w0, ew0⟩ : ∃ w : va_W, w = [] := ⟨_, rfl⟩
  have hP : va_P D vwCl w0 s.heap := by rw [ew0]; intro k q h; simp at h
  have hD : va_D A w0 := by rw [ew0]; exact ⟨fun i j p q h => by simp at h, fun k q h => by simp at h⟩
  have hlen : w0.length = 0 := by rw [ew0]; rfl
  have hl := lv_entry ([.ref b]) (n := 4) (Nat.le_of_ble_eq_true rfl)
  rw [lg_entry_eq]
  generalize (lg_sl ([.ref b]) ++ List.replicate (4 - (lg_sl ([.ref b])).length) Slot.unset).toArray = ls at hl ⊢
  have hl : lv_has ls 4 [(0, .ref b)] := hl
  refine va_new (ci := 2) (fs := [.null, .null, .null, .null]) (C := RX2) (T := TX2) (N := 4) hx hb hts inX2 tyX2 tyX2_ok hown (hts _ tw_25) (hts _ tw_26) (hts _ tw_19) hK hP hD hS hA rfl (fun j hj => by rcases (show j = 0 ∨ j = 1 ∨ j = 2 ∨ j = 3 by omega) with rfl | rfl | rfl | rfl <;> rfl) (by show 0 + 1 ≤ (600000 : Nat); omega) (by show 0 + 4 ≤ (7302250 : Nat); omega) dL_law_0 (fun qa_1 H hP hD hS => ?_)
  obtain ⟨w_2, ew_2⟩ : ∃ w, w = w0 ++ [(qa_1, .inr (2, [.null, .null, .null, .null]))] := ⟨_, rfl⟩
  have hP : va_P D vwCl w_2 H := by rw [ew_2]; exact hP
  have hD : va_D A w_2 := by rw [ew_2]; exact hD
  have f_3 : w_2[0]? = some (qa_1, .inr (2, [.null, .null, .null, .null])) := by rw [ew_2]; exact kx_push_new hlen
  have hlen : w_2.length = 0 + 1 := by rw [ew_2]; exact kx_push_len hlen
  refine lv_dup hx hb dL_law_3 rfl ?_
  refine kx_gov (va_runI (As := []) (rest := [.ref qa_1]) ⟨hx, hb, hml, hown, hts⟩ (c_Cinit l D k0 w_2 _ 0 qa_1 f_3 hlen) ⟨(kg_B (k := 0) hts tw_29 tw_27 tw_19 (by decide +kernel) rfl rfl ⟨Nat.le_of_ble_eq_true rfl, Nat.le_of_ble_eq_true rfl⟩), rfl, hts _ tw_28⟩ (kx_preS hN hK hP hD) rfl rfl hl.1 rfl (lv_room (Nat.le_of_ble_eq_true rfl)) dL_law_4 ⟨Nat.le_of_ble_eq_true rfl, Nat.le_of_ble_eq_true rfl⟩) hD hS hA (fun u_6 H locs hp_4 hP hD hS => ?_)
  obtain ⟨ad, hado, hC, hlen, hq⟩ := hp_4
  have hlen : u_6.length = 33 := hlen
  have hl33 := hlen
  refine lv_astore_n (lv' := [(1, .ref qa_1), (0, .ref b)]) hx hb dL_law_7 rfl hl (by decide) rfl (fun ls hl => ?_)
  refine va_new (ci := 3) (fs := [.null, .null, .null, .null, .null, .null, .int 0, .null, .null, .null]) (C := RX3) (T := TX3) (N := 10) hx hb hts inX3 tyX3 tyX3_ok hown (hts _ tw_244) (hts _ tw_245) (hts _ tw_22) hK hP hD hS hA rfl (fun j hj => by rcases (show j = 0 ∨ j = 1 ∨ j = 2 ∨ j = 3 ∨ j = 4 ∨ j = 5 ∨ j = 6 ∨ j = 7 ∨ j = 8 ∨ j = 9 by omega) with rfl | rfl | rfl | rfl | rfl | rfl | rfl | rfl | rfl | rfl <;> rfl) (by show ((0 + 1) + 32) + 1 ≤ (600000 : Nat); omega) (by show ((0 + 4) + 306) + 10 ≤ (7302250 : Nat); omega) dL_law_8 (fun qa_7 H hP hD hS => ?_)
  obtain ⟨w_8, ew_8⟩ : ∃ w, w = u_6 ++ [(qa_7, .inr (3, [.null, .null, .null, .null, .null, .null, .int 0, .null, .null, .null]))] := ⟨_, rfl⟩
  have hP : va_P D vwCl w_8 H := by rw [ew_8]; exact hP
  have hD : va_D A w_8 := by rw [ew_8]; exact hD
  have f_9 : w_8[33]? = some (qa_7, .inr (3, [.null, .null, .null, .null, .null, .null, .int 0, .null, .null, .null])) := by rw [ew_8]; exact kx_push_new hlen
  have hlen : w_8.length = 33 + 1 := by rw [ew_8]; exact kx_push_len hlen
  have hC2 := atC_fr hC (show kx_fr _ w_8 (fun j => 33 ≤ j) by rw [ew_8]; exact kx_fr_push (by rw [hl33]; omega)) (fun j h1 h2 h3 => by omega)
  refine lv_dup hx hb dL_law_11 rfl ?_
  refine kx_gov (va_runI (As := []) (rest := [.ref qa_7]) ⟨hx, hb, hml, hown, hts⟩ (m_init l D k0 w_8 _ 33 qa_7 f_9 hlen) ⟨(kg_B (k := 0) hts tw_248 tw_246 tw_22 (by decide +kernel) rfl rfl ⟨Nat.le_of_ble_eq_true rfl, Nat.le_of_ble_eq_true rfl⟩), rfl, hts _ tw_247⟩ (kx_preS hN hK hP hD) rfl rfl hl.1 rfl (lv_room (Nat.le_of_ble_eq_true rfl)) dL_law_12 ⟨Nat.le_of_ble_eq_true rfl, Nat.le_of_ble_eq_true rfl⟩) hD hS hA (fun u_12 H locs hp_10 hP hD hS => ?_)
  obtain ⟨am, mv9, mo9, hamo, hM, hvo, hlen, hq⟩ := hp_10
  refine lv_astore_n (lv' := [(2, .ref qa_7), (1, .ref qa_1), (0, .ref b)]) hx hb dL_law_15 rfl hl (by decide) rfl (fun ls hl => ?_)
  refine lv_iconst (v := nI 0) hx hb dL_law_16 (by decide +kernel) ?_
  refine lv_istore_n (lv' := [(3, .int (nI 0)), (2, .ref qa_7), (1, .ref qa_1), (0, .ref b)]) hx hb dL_law_17 rfl hl (by decide) rfl (fun ls hl => ?_)
  have hst : St k0 qa_1 qa_7 u_12 := ⟨ad, _, _, _, _, _, am, mv9, _, mo9, _, _, _, _, _, _, _, hado, hamo, atC_fr hC2 hq (fun j h1 h2 h3 => by omega), hM, fun i hi => by
      obtain ⟨v1, v2⟩ := hvo i hi
      rw [v1, v2]
      exact rl_begin (show 1 ≤ 13 by decide)⟩
  rw [eA] at hD hS
  refine W.widen (k := 43) (n := 8880) (by decide) (by decide) ?_
  exact law_loop hL C0 hN hK (L + 5 + 1) 0 (by omega) (by omega) _ _ _ hst _ _ hP hD hS _ (lv_sub hl [3, 2, 1, 0] rfl)
