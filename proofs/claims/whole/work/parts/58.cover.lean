theorem fo_parts_lt {L : Nat → Nat} {n B : Nat} {rows parts : Nat → Nat} {k : Nat} (hn : n ≤ 12) (h : fo_ok L n B rows parts k) : ∀ j, j < k → parts j < 2 ^ 12 := fun j hj => by
  have := kb_le_full (cf_sub_tr (h.2.2.2.1 j hj).2.2 h.1)
  have := kb_full_lt hn
  omega
theorem fo_k_le {L : Nat → Nat} {n B : Nat} {rows parts : Nat → Nat} {k : Nat} (hn : n ≤ 12) (h : fo_ok L n B rows parts k) : k ≤ 12 := by
  have := cf_card_le n B
  rw [h.2.2.1] at this; omega
theorem cv_first_lt {M rows : Nat → Nat} {k n : Nat} (hn : n ≤ 12) : ∀ m, m ≤ n → cv_first M rows k m < 2 ^ 12 := by
  intro m
  induction m with
  | zero => intro _; exact Nat.two_pow_pos 12
  | succ m ih =>
    intro hm
    simp only [cv_first]
    split
    · exact ih (by omega)
    · exact Nat.or_lt_two_pow (ih (by omega)) (Nat.pow_lt_pow_right (by omega) (by omega))
theorem cv_rounds_lt {I C n : Nat} {w1 w2 : Nat → Nat} (hn : n ≤ 12) (hC : C < 2 ^ 12) (h1 : ∀ e, e < n → w1 e < 2 ^ 12) (r : Nat) : cv_rounds I w1 w2 n C r < 2 ^ 12 := by
  induction r with
  | zero => exact hC
  | succ r ih => exact cv_grown_lt hn ih h1 n (Nat.le_refl n)
/-- the least cover, as it is told -/
def co_spec (L M : Nat → Nat) (n C : Nat) : Prop := cf_sub C (cf_full n) ∧ ∃ I, cm_spec L M n I ∧ cf_cov L M n I C ∧ ∀ A, cf_sub A (cf_full n) → cf_cov L M n I A → cf_sub C A

set_option maxHeartbeats 4000000 in
set_option maxRecDepth 100000 in
/-- leastCover(g, h) -/
theorem c_leastCover (l : Launch) (D : va_G) (k0 : Nat → ClassId)  (w0 : va_W) (sz : Nat) (b o a1 a8 : Nat) (f ra pa : Nat) (rows parts : Nat → Nat) (k : Nat) (hF : w0[b + 2]? = some (f, .inr (0, [.ref ra, .ref pa, .int (nI k)]))) (hR : w0[b + 2 + 1]? = some (ra, .inl (k0 0, 12, .inl (fun j => nI (rows j))))) (hT : w0[b + 2 + 2]? = some (pa, .inl (k0 0, 12, .inl (fun j => nI (parts j))))) (f2 rb pb : Nat) (rows2 parts2 : Nat → Nat) (kk : Nat) (hF2 : w0[b + 5]? = some (f2, .inr (0, [.ref rb, .ref pb, .int (nI kk)]))) (hR2 : w0[b + 5 + 1]? = some (rb, .inl (k0 0, 12, .inl (fun j => nI (rows2 j))))) (hT2 : w0[b + 5 + 2]? = some (pb, .inl (k0 0, 12, .inl (fun j => nI (parts2 j))))) (hO : w0[b]? = some (o, .inr (2, [.ref a1, .ref f, .ref f2, .ref a8]))) (qg g ga gb : Nat) (L : Nat → Nat) (wt : Nat → Int32) (n : Nat) (vv oo : Int32) (hG : w0[qg]? = some (g, .inr (1, [.ref ga, .ref gb, .int (nI n), .int vv, .int oo]))) (hL : w0[qg + 1]? = some (ga, .inl (k0 0, 12, .inl (fun j => nI (L j))))) (hW : w0[qg + 2]? = some (gb, .inl (k0 0, 12, .inl wt))) (qh g2 ma mb : Nat) (M : Nat → Nat) (wt2 : Nat → Int32) (vv2 oo2 : Int32) (hG2 : w0[qh]? = some (g2, .inr (1, [.ref ma, .ref mb, .int (nI n), .int vv2, .int oo2]))) (hL2 : w0[qh + 1]? = some (ma, .inl (k0 0, 12, .inl (fun j => nI (M j))))) (hW2 : w0[qh + 2]? = some (mb, .inl (k0 0, 12, .inl wt2))) (hag : b + 9 ≤ qg) (hah : b + 9 ≤ qh) (hn : n ≤ 12) (hLb : ∀ j, j < n → L j < 2 ^ 24) (hMb : ∀ j, j < n → M j < 2 ^ 24) : kx_i l yX2_leastCover wsX2_leastCover ({ frames := 18, cells := 0, slots := 0, locals := 490 } : Room) D (tyL k0) w0 sz [.ref o, .ref g, .ref g2] (fun (r : Int32) (u : va_W) => ∃ C, r = nI C ∧ co_spec L M n C ∧ ∃ (ro1 pt1 ro2 pt2 : Nat → Nat) (q1 q2 : Nat), atF u (b + 2) k0 f ra pa ro1 pt1 q1 ∧ atF u (b + 5) k0 f2 rb pb ro2 pt2 q2 ∧ kx_fr w0 u (fun j => b + 2 ≤ j ∧ j < b + 8)) 0 0 := by
  refine kx_of (Qf := fun A => va_Qi (fun (r : Int32) (u : va_W) => ∃ C, r = nI C ∧ co_spec L M n C ∧ ∃ (ro1 pt1 ro2 pt2 : Nat → Nat) (q1 q2 : Nat), atF u (b + 2) k0 f ra pa ro1 pt1 q1 ∧ atF u (b + 5) k0 f2 rb pb ro2 pt2 q2 ∧ kx_fr w0 u (fun j => b + 2 ≤ j ∧ j < b + 8)) (kx_B D (tyL k0) A) A) (cc := cX2_leastCover) (maxL := 6) (ret := (some .int)) (by decide +kernel) (Nat.le_of_ble_eq_true rfl) ?_
  intro p e s m below meth c A ls hx hb hml hown hts hr hlocks hnm hN hK hP hD hS hA hl
  have hown : s.vm.findClass RX2 = some m.cls := hown
  have hl : lv_has ls 6 [(0, .ref o), (1, .ref g), (2, .ref g2)] := hl
  have hfr : kx_fr w0 w0 (fun j => b + 2 ≤ j ∧ j < b + 8) := kx_fr_rf _ _
  have hfl := kb_full_lt hn
  refine lv_aload_n hx hb dX2_leastCover_0 rfl (lv_at hl 0 rfl) ?_
  refine lv_aload_n hx hb dX2_leastCover_1 rfl (lv_at hl 1 rfl) ?_
  refine lv_aload_n hx hb dX2_leastCover_2 rfl (lv_at hl 2 rfl) ?_
  refine kx_goi (va_runV (As := [.ref g, .ref g2]) (rest := []) ⟨hx, hb, hml, hown, hts⟩ (c_largest l D k0 w0 _ b o a1 a8 f ra pa rows parts k hF hR hT f2 rb pb rows2 parts2 kk hF2 hR2 hT2 hO qg g ga gb L wt n vv oo hG hL hW qh g2 ma mb M wt2 vv2 oo2 hG2 hL2 hW2 hag hah hn hLb hMb) ⟨(kg_B (k := 2) hts tw_221 tw_218 tw_19 (by decide +kernel) rfl rfl ⟨Nat.le_of_ble_eq_true rfl, Nat.le_of_ble_eq_true rfl⟩), hts _ tw_220, hts _ tw_4⟩ (kx_preV hN hK hP hD rfl hO) rfl rfl hl.1 rfl (lv_room (Nat.le_of_ble_eq_true rfl)) dX2_leastCover_3 ⟨Nat.le_of_ble_eq_true rfl, Nat.le_of_ble_eq_true rfl⟩) hD hS hA (fun r_2 u_3 H locs hp_1 hP hD hS => ?_)
  obtain ⟨I9, er, hcm, ro1, pt1, ro2, pt2, ⟨hF9, hR9, hT9⟩, ⟨hF8, hR8, hT8⟩, hq⟩ := hp_1
  subst er
  have hIs := hcm.1.1
  have hIb := kb_le_full hIs
  have hq5 : True := trivial
  obtain hq6 := hq5
  have f_4 : u_3[b]? = some (o, .inr (2, [.ref a1, .ref f, .ref f2, .ref a8])) := by rw [hq _ (by omega)]; exact hO
  have f_5 : u_3[b + 2]? = some (f, .inr (0, [.ref ra, .ref pa, .int (nI 0)])) := hF9
  have f_6 : u_3[b + 2 + 1]? = some (ra, .inl (k0 0, 12, .inl (fun y9 => nI (ro1 y9)))) := hR9
  have f_7 : u_3[b + 2 + 2]? = some (pa, .inl (k0 0, 12, .inl (fun y9 => nI (pt1 y9)))) := hT9
  have f_8 : u_3[b + 5]? = some (f2, .inr (0, [.ref rb, .ref pb, .int (nI 0)])) := hF8
  have f_9 : u_3[b + 5 + 1]? = some (rb, .inl (k0 0, 12, .inl (fun y9 => nI (ro2 y9)))) := hR8
  have f_10 : u_3[b + 5 + 2]? = some (pb, .inl (k0 0, 12, .inl (fun y9 => nI (pt2 y9)))) := hT8
  have f_11 : u_3[qg]? = some (g, .inr (1, [.ref ga, .ref gb, .int (nI n), .int vv, .int oo])) := by rw [hq _ (by omega)]; exact hG
  have f_12 : u_3[qg + 1]? = some (ga, .inl (k0 0, 12, .inl (fun y9 => nI (L y9)))) := by rw [hq _ (by omega)]; exact hL
  have f_13 : u_3[qg + 2]? = some (gb, .inl (k0 0, 12, .inl wt)) := by rw [hq _ (by omega)]; exact hW
  have f_14 : u_3[qh]? = some (g2, .inr (1, [.ref ma, .ref mb, .int (nI n), .int vv2, .int oo2])) := by rw [hq _ (by omega)]; exact hG2
  have f_15 : u_3[qh + 1]? = some (ma, .inl (k0 0, 12, .inl (fun y9 => nI (M y9)))) := by rw [hq _ (by omega)]; exact hL2
  have f_16 : u_3[qh + 2]? = some (mb, .inl (k0 0, 12, .inl wt2)) := by rw [hq _ (by omega)]; exact hW2
  have hfr : kx_fr w0 u_3 (fun j => b + 2 ≤ j ∧ j < b + 8) := kx_fr_tr hfr (kx_fr_mono hq (fun j h => h))
  refine lv_istore_n (lv' := [(3, .int (nI I9)), (0, .ref o), (1, .ref g), (2, .ref g2)]) hx hb dX2_leastCover_6 rfl hl (by decide) rfl (fun ls hl => ?_)
  refine lv_aload_n hx hb dX2_leastCover_7 rfl (lv_at hl 1 rfl) ?_
  refine va_get (D := D) (ci := 2) (v := .ref f) (C := RX2) (T := TX2) (N := 4) hx hb hts inX2 hown hK hP b f_4 rfl 1 (by decide) (hts _ tw_79) (fun _ h9 => h9) rfl dX2_leastCover_8 ?_
  refine lv_aload_n hx hb dX2_leastCover_11 rfl (lv_at hl 2 rfl) ?_
  refine lv_iload_n hx hb dX2_leastCover_12 rfl (lv_at hl 0 rfl) ?_
  refine kx_goi (va_runV (As := [.ref g, .int (nI I9)]) (rest := []) ⟨hx, hb, hml, hown, hts⟩ (c_fill l D k0 u_3 _ (b + 2) f ra pa ro1 pt1 0 f_5 f_6 f_7 qg g ga gb L wt n vv oo f_11 f_12 f_13 (by omega) hn hLb (I9) (by omega)) ⟨(kg_B (k := 2) hts tw_136 tw_133 tw_20 (by decide +kernel) rfl rfl ⟨Nat.le_of_ble_eq_true rfl, Nat.le_of_ble_eq_true rfl⟩), hts _ tw_134, hts _ tw_135⟩ (kx_preV hN hK hP hD rfl f_5) rfl rfl hl.1 rfl (lv_room (Nat.le_of_ble_eq_true rfl)) dX2_leastCover_13 ⟨Nat.le_of_ble_eq_true rfl, Nat.le_of_ble_eq_true rfl⟩) hD hS hA (fun r_18 u_19 H locs hp_17 hP hD hS => ?_)
  obtain ⟨FA, eFA⟩ : ∃ F : fo_St, F = fo_fill L (I9) ro1 pt1 n := ⟨_, rfl⟩
  rw [← eFA] at hp_17
  obtain ⟨erFA, ⟨hF9, hR9, hT9⟩, hq⟩ := hp_17
  have f_20 : u_19[b]? = some (o, .inr (2, [.ref a1, .ref f, .ref f2, .ref a8])) := by rw [hq _ (by omega)]; exact f_4
  have f_21 : u_19[b + 2]? = some (f, .inr (0, [.ref ra, .ref pa, .int (nI FA.2.2)])) := hF9
  have f_22 : u_19[b + 2 + 1]? = some (ra, .inl (k0 0, 12, .inl (fun y9 => nI (FA.1 y9)))) := hR9
  have f_23 : u_19[b + 2 + 2]? = some (pa, .inl (k0 0, 12, .inl (fun y9 => nI (FA.2.1 y9)))) := hT9
  have f_24 : u_19[b + 5]? = some (f2, .inr (0, [.ref rb, .ref pb, .int (nI 0)])) := by rw [hq _ (by omega)]; exact f_8
  have f_25 : u_19[b + 5 + 1]? = some (rb, .inl (k0 0, 12, .inl (fun y9 => nI (ro2 y9)))) := by rw [hq _ (by omega)]; exact f_9
  have f_26 : u_19[b + 5 + 2]? = some (pb, .inl (k0 0, 12, .inl (fun y9 => nI (pt2 y9)))) := by rw [hq _ (by omega)]; exact f_10
  have f_27 : u_19[qg]? = some (g, .inr (1, [.ref ga, .ref gb, .int (nI n), .int vv, .int oo])) := by rw [hq _ (by omega)]; exact f_11
  have f_28 : u_19[qg + 1]? = some (ga, .inl (k0 0, 12, .inl (fun y9 => nI (L y9)))) := by rw [hq _ (by omega)]; exact f_12
  have f_29 : u_19[qg + 2]? = some (gb, .inl (k0 0, 12, .inl wt)) := by rw [hq _ (by omega)]; exact f_13
  have f_30 : u_19[qh]? = some (g2, .inr (1, [.ref ma, .ref mb, .int (nI n), .int vv2, .int oo2])) := by rw [hq _ (by omega)]; exact f_14
  have f_31 : u_19[qh + 1]? = some (ma, .inl (k0 0, 12, .inl (fun y9 => nI (M y9)))) := by rw [hq _ (by omega)]; exact f_15
  have f_32 : u_19[qh + 2]? = some (mb, .inl (k0 0, 12, .inl wt2)) := by rw [hq _ (by omega)]; exact f_16
  have hfr : kx_fr w0 u_19 (fun j => b + 2 ≤ j ∧ j < b + 8) := kx_fr_tr hfr (kx_fr_mono hq (fun j h => by omega))
  subst erFA
  refine lv_pop hx hb dX2_leastCover_16 rfl ?_
  refine lv_aload_n hx hb dX2_leastCover_17 rfl (lv_at hl 1 rfl) ?_
  refine va_get (D := D) (ci := 2) (v := .ref f2) (C := RX2) (T := TX2) (N := 4) hx hb hts inX2 hown hK hP b f_20 rfl 2 (by decide) (hts _ tw_80) (fun _ h9 => h9) rfl dX2_leastCover_18 ?_
  refine lv_aload_n hx hb dX2_leastCover_21 rfl (lv_at hl 3 rfl) ?_
  refine lv_iload_n hx hb dX2_leastCover_22 rfl (lv_at hl 0 rfl) ?_
  refine kx_goi (va_runV (As := [.ref g2, .int (nI I9)]) (rest := []) ⟨hx, hb, hml, hown, hts⟩ (c_fill l D k0 u_19 _ (b + 5) f2 rb pb ro2 pt2 0 f_24 f_25 f_26 qh g2 ma mb M wt2 n vv2 oo2 f_30 f_31 f_32 (by omega) hn hMb (I9) (by omega)) ⟨(kg_B (k := 2) hts tw_136 tw_133 tw_20 (by decide +kernel) rfl rfl ⟨Nat.le_of_ble_eq_true rfl, Nat.le_of_ble_eq_true rfl⟩), hts _ tw_134, hts _ tw_135⟩ (kx_preV hN hK hP hD rfl f_24) rfl rfl hl.1 rfl (lv_room (Nat.le_of_ble_eq_true rfl)) dX2_leastCover_23 ⟨Nat.le_of_ble_eq_true rfl, Nat.le_of_ble_eq_true rfl⟩) hD hS hA (fun r_34 u_35 H locs hp_33 hP hD hS => ?_)
  obtain ⟨FB, eFB⟩ : ∃ F : fo_St, F = fo_fill M (I9) ro2 pt2 n := ⟨_, rfl⟩
  rw [← eFB] at hp_33
  obtain ⟨erFB, ⟨hF9, hR9, hT9⟩, hq⟩ := hp_33
  have f_36 : u_35[b]? = some (o, .inr (2, [.ref a1, .ref f, .ref f2, .ref a8])) := by rw [hq _ (by omega)]; exact f_20
  have f_37 : u_35[b + 2]? = some (f, .inr (0, [.ref ra, .ref pa, .int (nI FA.2.2)])) := by rw [hq _ (by omega)]; exact f_21
  have f_38 : u_35[b + 2 + 1]? = some (ra, .inl (k0 0, 12, .inl (fun y9 => nI (FA.1 y9)))) := by rw [hq _ (by omega)]; exact f_22
  have f_39 : u_35[b + 2 + 2]? = some (pa, .inl (k0 0, 12, .inl (fun y9 => nI (FA.2.1 y9)))) := by rw [hq _ (by omega)]; exact f_23
  have f_40 : u_35[b + 5]? = some (f2, .inr (0, [.ref rb, .ref pb, .int (nI FB.2.2)])) := hF9
  have f_41 : u_35[b + 5 + 1]? = some (rb, .inl (k0 0, 12, .inl (fun y9 => nI (FB.1 y9)))) := hR9
  have f_42 : u_35[b + 5 + 2]? = some (pb, .inl (k0 0, 12, .inl (fun y9 => nI (FB.2.1 y9)))) := hT9
  have f_43 : u_35[qg]? = some (g, .inr (1, [.ref ga, .ref gb, .int (nI n), .int vv, .int oo])) := by rw [hq _ (by omega)]; exact f_27
  have f_44 : u_35[qg + 1]? = some (ga, .inl (k0 0, 12, .inl (fun y9 => nI (L y9)))) := by rw [hq _ (by omega)]; exact f_28
  have f_45 : u_35[qg + 2]? = some (gb, .inl (k0 0, 12, .inl wt)) := by rw [hq _ (by omega)]; exact f_29
  have f_46 : u_35[qh]? = some (g2, .inr (1, [.ref ma, .ref mb, .int (nI n), .int vv2, .int oo2])) := by rw [hq _ (by omega)]; exact f_30
  have f_47 : u_35[qh + 1]? = some (ma, .inl (k0 0, 12, .inl (fun y9 => nI (M y9)))) := by rw [hq _ (by omega)]; exact f_31
  have f_48 : u_35[qh + 2]? = some (mb, .inl (k0 0, 12, .inl wt2)) := by rw [hq _ (by omega)]; exact f_32
  have hfr : kx_fr w0 u_35 (fun j => b + 2 ≤ j ∧ j < b + 8) := kx_fr_tr hfr (kx_fr_mono hq (fun j h => by omega))
  subst erFB
  have hoA := fo_fill_ind (rows := ro1) (parts := pt1) hIs hcm.1.2.1
  have hoB := fo_fill_ind (rows := ro2) (parts := pt2) hIs hcm.1.2.2.1
  have hrA := fo_fill_row (S := I9) (rows := ro1) (parts := pt1) hLb n (Nat.le_refl n)
  have hrB := fo_fill_row (S := I9) (rows := ro2) (parts := pt2) hMb n (Nat.le_refl n)
  rw [← eFA] at hoA hrA
  rw [← eFB] at hoB hrB
  have hkA := fo_k_le hn hoA
  have hkB := fo_k_le hn hoB
  have hpA := fo_parts_lt hn hoA
  have hpB := fo_parts_lt hn hoB
  refine lv_pop hx hb dX2_leastCover_26 rfl ?_
  refine lv_iconst (v := nI 0) hx hb dX2_leastCover_27 (by decide +kernel) ?_
  refine lv_istore (lv' := [(4, .int (nI 0)), (3, .int (nI I9)), (0, .ref o), (1, .ref g), (2, .ref g2)]) hx hb dX2_leastCover_28 hl (by decide) rfl (fun ls hl => ?_)
  refine lv_iconst (v := nI 0) hx hb dX2_leastCover_30 (by decide +kernel) ?_
  refine lv_istore (lv' := [(5, .int (nI 0)), (4, .int (nI 0)), (3, .int (nI I9)), (0, .ref o), (1, .ref g), (2, .ref g2)]) hx hb dX2_leastCover_31 hl (by decide) rfl (fun ls hl => ?_)
  have loop_33 : ∀ (n33 : Nat) (e9 : Nat), (e9 ≤ n) → (n + 1 ≤ e9 + n33) → ∀ (H : Heap) (locs : List Loc), va_P D vwCl u_35 H → va_D A u_35 → va_S A s.heap H locs → ∀ (ls : Array Slot), lv_has ls 6 [(5, .int (nI e9)), (4, .int (nI (cv_first M FB.1 FB.2.2 e9))), (3, .int (nI I9)), (0, .ref o), (1, .ref g), (2, .ref g2)] → W p l e ({ frames := 18, cells := 0, slots := 0, locals := 490 } : Room) s m ([.ref o, .ref g, .ref g2] : List Value).toArray below meth c H locs 0 0 (MQ below (va_Qi (fun (r : Int32) (u : va_W) => ∃ C, r = nI C ∧ co_spec L M n C ∧ ∃ (ro1 pt1 ro2 pt2 : Nat → Nat) (q1 q2 : Nat), atF u (b + 2) k0 f ra pa ro1 pt1 q1 ∧ atF u (b + 5) k0 f2 rb pb ro2 pt2 q2 ∧ kx_fr w0 u (fun j => b + 2 ≤ j ∧ j < b + 8)) (kx_B D (tyL k0) A) A) ([.ref o, .ref g, .ref g2] : List Value).toArray s 0 0 A) (F0 m 33 ls []) := by
    intro n33
    induction n33 with
    | zero =>
      intro e9 he hme
      exact absurd hme (by omega)
    | succ n33 ih33 =>
      intro e9 he hme  H locs hP hD hS ls hl
      refine lv_iload hx hb dX2_leastCover_33 (lv_at hl 0 rfl) ?_
      refine lv_aload_n hx hb dX2_leastCover_35 rfl (lv_at hl 5 rfl) ?_
      refine va_get (D := D) (ci := 1) (v := .int (nI n)) (C := RX1) (T := TX1) (N := 5) hx hb hts inX1 hown hK hP qh f_46 rfl 2 (by decide) (hts _ tw_64) (fun _ h9 => h9) rfl dX2_leastCover_36 ?_
      refine lv_icmp_ge (tgt := 74) hx hb dX2_leastCover_39 (by decide) (fun c_39 => ?_) (fun c_39 => ?_)
      · skip
        have hik : e9 = n := by
          have := (nI_leI (by omega) (by omega)).mp c_39
          omega
        rw [hik] at hl
        refine lv_iconst (v := nI 0) hx hb dX2_leastCover_74 (by decide +kernel) ?_
        refine lv_istore (lv' := [(5, .int (nI 0)), (4, .int (nI (cv_first M FB.1 FB.2.2 n))), (3, .int (nI I9)), (0, .ref o), (1, .ref g), (2, .ref g2)]) hx hb dX2_leastCover_75 hl (by decide) rfl (fun ls hl => ?_)
        have loop_77 : ∀ (n77 : Nat) (r9 : Nat), (r9 ≤ n) → (n + 1 ≤ r9 + n77) → ∀ (H : Heap) (locs : List Loc), va_P D vwCl u_35 H → va_D A u_35 → va_S A s.heap H locs → ∀ (ls : Array Slot), lv_has ls 6 [(5, .int (nI r9)), (4, .int (nI (cv_rounds I9 (fun e => fo_way FA.1 FA.2.1 (L e) FA.2.2) (fun e => fo_way FB.1 FB.2.1 (M e) FB.2.2) n (cv_first M FB.1 FB.2.2 n) r9))), (3, .int (nI I9)), (0, .ref o), (1, .ref g), (2, .ref g2)] → W p l e ({ frames := 18, cells := 0, slots := 0, locals := 490 } : Room) s m ([.ref o, .ref g, .ref g2] : List Value).toArray below meth c H locs 0 0 (MQ below (va_Qi (fun (r : Int32) (u : va_W) => ∃ C, r = nI C ∧ co_spec L M n C ∧ ∃ (ro1 pt1 ro2 pt2 : Nat → Nat) (q1 q2 : Nat), atF u (b + 2) k0 f ra pa ro1 pt1 q1 ∧ atF u (b + 5) k0 f2 rb pb ro2 pt2 q2 ∧ kx_fr w0 u (fun j => b + 2 ≤ j ∧ j < b + 8)) (kx_B D (tyL k0) A) A) ([.ref o, .ref g, .ref g2] : List Value).toArray s 0 0 A) (F0 m 77 ls []) := by
          intro n77
          induction n77 with
          | zero =>
            intro r9 hr9 hme
            exact absurd hme (by omega)
          | succ n77 ih77 =>
            intro r9 hr9 hme  H locs hP hD hS ls hl
            refine lv_iload hx hb dX2_leastCover_77 (lv_at hl 0 rfl) ?_
            refine lv_aload_n hx hb dX2_leastCover_79 rfl (lv_at hl 4 rfl) ?_
            refine va_get (D := D) (ci := 1) (v := .int (nI n)) (C := RX1) (T := TX1) (N := 5) hx hb hts inX1 hown hK hP qg f_43 rfl 2 (by decide) (hts _ tw_64) (fun _ h9 => h9) rfl dX2_leastCover_80 ?_
            refine lv_icmp_ge (tgt := 103) hx hb dX2_leastCover_83 (by decide) (fun c_83 => ?_) (fun c_83 => ?_)
            · skip
              have hik : r9 = n := by
                have := (nI_leI (by omega) (by omega)).mp c_83
                omega
              refine lv_iload hx hb dX2_leastCover_103 (lv_at hl 1 rfl) ?_
              exact kx_iret (v := nI (cv_rounds I9 (fun e => fo_way FA.1 FA.2.1 (L e) FA.2.2) (fun e => fo_way FB.1 FB.2.1 (M e) FB.2.2) n (cv_first M FB.1 FB.2.2 n) r9)) hx hb hr rfl hlocks hK hP hD hS dX2_leastCover_105 (by rw [hik]; exact ⟨_, rfl, ⟨(cv_ok hcm.1 hoA hoB).1, I9, hcm, (cv_ok hcm.1 hoA hoB).2⟩, _, _, _, _, _, _, ⟨f_37, f_38, f_39⟩, ⟨f_40, f_41, f_42⟩, hfr⟩)
            · skip
              have hik : r9 < n := by
                rcases Nat.lt_or_ge (r9) (n) with h | h
                · exact h
                · exact absurd ((nI_leI (by omega) (by omega)).mpr h) c_83
              refine lv_aload_n hx hb dX2_leastCover_86 rfl (lv_at hl 3 rfl) ?_
              refine lv_aload_n hx hb dX2_leastCover_87 rfl (lv_at hl 4 rfl) ?_
              refine lv_aload_n hx hb dX2_leastCover_88 rfl (lv_at hl 5 rfl) ?_
              refine lv_iload_n hx hb dX2_leastCover_89 rfl (lv_at hl 2 rfl) ?_
              refine lv_iload hx hb dX2_leastCover_90 (lv_at hl 1 rfl) ?_
              refine kx_goi (va_runV (As := [.ref g, .ref g2, .int (nI I9), .int (nI (cv_rounds I9 (fun e => fo_way FA.1 FA.2.1 (L e) FA.2.2) (fun e => fo_way FB.1 FB.2.1 (M e) FB.2.2) n (cv_first M FB.1 FB.2.2 n) r9))]) (rest := []) ⟨hx, hb, hml, hown, hts⟩ (c_grown l D k0 u_35 _ b o a1 a8 f ra pa FA.1 FA.2.1 FA.2.2 f_37 f_38 f_39 f2 rb pb FB.1 FB.2.1 FB.2.2 f_40 f_41 f_42 f_36 qg g ga gb L wt n vv oo f_43 f_44 f_45 qh g2 ma mb M wt2 vv2 oo2 f_46 f_47 f_48 hag hah hn hLb hMb hkA hkB hrA hrB hpA hpB I9 (cv_rounds I9 (fun e => fo_way FA.1 FA.2.1 (L e) FA.2.2) (fun e => fo_way FB.1 FB.2.1 (M e) FB.2.2) n (cv_first M FB.1 FB.2.2 n) r9) (by omega) (cv_rounds_lt hn (cv_first_lt hn n (Nat.le_refl n)) (fun e _ => fo_way_lt hpA FA.2.2 (Nat.le_refl _)) r9)) ⟨(kg_B (k := 4) hts tw_242 tw_239 tw_19 (by decide +kernel) rfl rfl ⟨Nat.le_of_ble_eq_true rfl, Nat.le_of_ble_eq_true rfl⟩), hts _ tw_241, hts _ tw_7⟩ (kx_preV hN hK hP hD rfl f_36) rfl rfl hl.1 rfl (lv_room (Nat.le_of_ble_eq_true rfl)) dX2_leastCover_92 ⟨Nat.le_of_ble_eq_true rfl, Nat.le_of_ble_eq_true rfl⟩) hD hS hA (fun r_50 u_51 H locs hp_49 hP hD hS => ?_)
              obtain ⟨er_50, eu_51⟩ := hp_49
              rw [eu_51] at hP hD; subst er_50
              refine lv_istore (lv' := [(4, .int (nI (cv_rounds I9 (fun e => fo_way FA.1 FA.2.1 (L e) FA.2.2) (fun e => fo_way FB.1 FB.2.1 (M e) FB.2.2) n (cv_first M FB.1 FB.2.2 n) (r9 + 1)))), (5, .int (nI r9)), (3, .int (nI I9)), (0, .ref o), (1, .ref g), (2, .ref g2)]) hx hb dX2_leastCover_95 hl (by decide) rfl (fun ls hl => ?_)
              refine lv_iinc (v := nI (r9 + 1)) (lv' := [(5, .int (nI (r9 + 1))), (4, .int (nI (cv_rounds I9 (fun e => fo_way FA.1 FA.2.1 (L e) FA.2.2) (fun e => fo_way FB.1 FB.2.1 (M e) FB.2.2) n (cv_first M FB.1 FB.2.2 n) (r9 + 1)))), (3, .int (nI I9)), (0, .ref o), (1, .ref g), (2, .ref g2)]) hx hb dX2_leastCover_97 hl (k := 1) rfl (nI_1 _) (by decide) rfl (fun ls hl => ?_)
              refine lv_goto (tgt := 77) hx hb dX2_leastCover_100 (by decide) ?_
              exact ih77 (r9 + 1) (by omega) (by omega) _ _ hP hD hS _ (lv_sub hl [0, 1, 2, 3, 4, 5] rfl)
        exact loop_77 (n + 1) 0 (Nat.zero_le n) (by omega) _ _ hP hD hS _ (lv_sub hl [0, 1, 2, 3, 4, 5] rfl)
      · skip
        have hik : e9 < n := by
          rcases Nat.lt_or_ge (e9) (n) with h | h
          · exact h
          · exact absurd ((nI_leI (by omega) (by omega)).mpr h) c_39
        have hrb : fo_rest FB.1 (M e9) FB.2.2 < 2 ^ 24 := fo_rest_lt (hMb e9 hik) hrB FB.2.2 (Nat.le_refl _)
        refine lv_aload_n hx hb dX2_leastCover_42 rfl (lv_at hl 3 rfl) ?_
        refine va_get (D := D) (ci := 2) (v := .ref f2) (C := RX2) (T := TX2) (N := 4) hx hb hts inX2 hown hK hP b f_36 rfl 2 (by decide) (hts _ tw_80) (fun _ h9 => h9) rfl dX2_leastCover_43 ?_
        refine lv_aload_n hx hb dX2_leastCover_46 rfl (lv_at hl 5 rfl) ?_
        refine va_get (D := D) (ci := 1) (v := .ref ma) (C := RX1) (T := TX1) (N := 5) hx hb hts inX1 hown hK hP qh f_46 rfl 0 (by decide) (hts _ tw_59) (fun _ h9 => h9) rfl dX2_leastCover_47 ?_
        refine lv_iload hx hb dX2_leastCover_50 (lv_at hl 0 rfl) ?_
        refine kx_nald hx hb hK hP (qh + 1) f_47 rfl (i := e9) (by omega) (by decide) dX2_leastCover_52 ?_
        refine kx_goi (va_runV (As := [.int (nI (M e9))]) (rest := []) ⟨hx, hb, hml, hown, hts⟩ (c_rest l D k0 u_35 _ (b + 5) f2 rb pb FB.1 FB.2.1 FB.2.2 f_40 f_41 f_42 hkB hrB (M e9) (hMb e9 hik)) ⟨(kg_B (k := 1) hts tw_151 tw_160 tw_20 (by decide +kernel) rfl rfl ⟨Nat.le_of_ble_eq_true rfl, Nat.le_of_ble_eq_true rfl⟩), hts _ tw_149, hts _ tw_150⟩ (kx_preV hN hK hP hD rfl f_40) rfl rfl hl.1 rfl (lv_room (Nat.le_of_ble_eq_true rfl)) dX2_leastCover_53 ⟨Nat.le_of_ble_eq_true rfl, Nat.le_of_ble_eq_true rfl⟩) hD hS hA (fun r_53 u_54 H locs hp_52 hP hD hS => ?_)
        obtain ⟨er_53, eu_54⟩ := hp_52
        rw [eu_54] at hP hD; subst er_53
        refine lv_if_eq (tgt := 68) hx hb dX2_leastCover_56 (by decide) (fun c_56 => ?_) (fun c_56 => ?_)
        · skip
          have h0 : fo_rest FB.1 (M e9) FB.2.2 = 0 := (kb_eq0 (by omega)).mp c_56
          have e0 : cv_first M FB.1 FB.2.2 e9 = cv_first M FB.1 FB.2.2 (e9 + 1) := by
            show _ = ite _ _ _
            rw [if_pos h0]
          rw [e0] at hl
          refine lv_iinc (v := nI (e9 + 1)) (lv' := [(5, .int (nI (e9 + 1))), (4, .int (nI (cv_first M FB.1 FB.2.2 (e9 + 1)))), (3, .int (nI I9)), (0, .ref o), (1, .ref g), (2, .ref g2)]) hx hb dX2_leastCover_68 hl (k := 0) rfl (nI_1 _) (by decide) rfl (fun ls hl => ?_)
          refine lv_goto (tgt := 33) hx hb dX2_leastCover_71 (by decide) ?_
          exact ih33 (e9 + 1) (by omega) (by omega) _ _ hP hD hS _ (lv_sub hl [0, 1, 2, 3, 4, 5] rfl)
        · skip
          have h0 : ¬ fo_rest FB.1 (M e9) FB.2.2 = 0 := fun h => c_56 ((kb_eq0 (by omega)).mpr h)
          refine lv_iload hx hb dX2_leastCover_59 (lv_at hl 1 rfl) ?_
          refine lv_iconst (v := 1) hx hb dX2_leastCover_61 (by decide +kernel) ?_
          refine lv_iload hx hb dX2_leastCover_62 (lv_at hl 0 rfl) ?_
          refine lv_ishl hx hb dX2_leastCover_64 ?_
          refine lv_topi (fun z_55 ez_55 => ?_)
          have ez_55 : z_55 = nI (2 ^ e9) := by rw [ez_55]; exact kb_one (by omega)
          subst ez_55
          refine lv_ior hx hb dX2_leastCover_65 ?_
          refine lv_topi (fun z_56 ez_56 => ?_)
          have ez_56 : z_56 = nI (cv_first M FB.1 FB.2.2 (e9 + 1)) := by rw [ez_56]; rw [kb_or]; show _ = nI (ite _ _ _); rw [if_neg h0]
          subst ez_56
          refine lv_istore (lv' := [(4, .int (nI (cv_first M FB.1 FB.2.2 (e9 + 1)))), (5, .int (nI e9)), (3, .int (nI I9)), (0, .ref o), (1, .ref g), (2, .ref g2)]) hx hb dX2_leastCover_66 hl (by decide) rfl (fun ls hl => ?_)
          refine lv_iinc (v := nI (e9 + 1)) (lv' := [(5, .int (nI (e9 + 1))), (4, .int (nI (cv_first M FB.1 FB.2.2 (e9 + 1)))), (3, .int (nI I9)), (0, .ref o), (1, .ref g), (2, .ref g2)]) hx hb dX2_leastCover_68 hl (k := 1) rfl (nI_1 _) (by decide) rfl (fun ls hl => ?_)
          refine lv_goto (tgt := 33) hx hb dX2_leastCover_71 (by decide) ?_
          exact ih33 (e9 + 1) (by omega) (by omega) _ _ hP hD hS _ (lv_sub hl [0, 1, 2, 3, 4, 5] rfl)
  exact loop_33 (n + 1) 0 (Nat.zero_le n) (by omega) _ _ hP hD hS _ (lv_sub hl [0, 1, 2, 3, 4, 5] rfl)

set_option maxHeartbeats 4000000 in
set_option maxRecDepth 100000 in
/-- common(g, h) -/
theorem c_common (l : Launch) (D : va_G) (k0 : Nat → ClassId)  (w0 : va_W) (sz : Nat) (b : Nat) (ad nE nV : Nat → Nat) (op : Nat → Int32) (LL : Nat → Nat → Nat) (ww : Nat → Nat → Int32) (hC : atC w0 b k0 ad nE nV op LL ww) (hI : cinv nE nV LL ww) (x y : Int32) : kx_i l yX2_common wsX2_common ({ frames := 18, cells := 0, slots := 0, locals := 490 } : Room) D (tyL k0) w0 sz [.ref (ad 0), .int x, .int y] (fun (r : Int32) (u : va_W) => ((∃ i j C, i < 8 ∧ j < 8 ∧ nE i = nE j ∧ x = nI i ∧ y = nI j ∧ r = nI C ∧ cm_spec (LL i) (LL j) (nE i) C) ∨ (¬ (∃ i j, i < 8 ∧ j < 8 ∧ nE i = nE j ∧ x = nI i ∧ y = nI j) ∧ r = -1)) ∧ atC u b k0 ad nE nV op LL ww ∧ kx_fr w0 u (fun j => b ≤ j ∧ j < b + 33)) 0 0 := by
  refine kx_of (Qf := fun A => va_Qi (fun (r : Int32) (u : va_W) => ((∃ i j C, i < 8 ∧ j < 8 ∧ nE i = nE j ∧ x = nI i ∧ y = nI j ∧ r = nI C ∧ cm_spec (LL i) (LL j) (nE i) C) ∨ (¬ (∃ i j, i < 8 ∧ j < 8 ∧ nE i = nE j ∧ x = nI i ∧ y = nI j) ∧ r = -1)) ∧ atC u b k0 ad nE nV op LL ww ∧ kx_fr w0 u (fun j => b ≤ j ∧ j < b + 33)) (kx_B D (tyL k0) A) A) (cc := cX2_common) (maxL := 3) (ret := (some .int)) (by decide +kernel) (Nat.le_of_ble_eq_true rfl) ?_
  intro p e s m below meth c A ls hx hb hml hown hts hr hlocks hnm hN hK hP hD hS hA hl
  have hown : s.vm.findClass RX2 = some m.cls := hown
  have hl : lv_has ls 3 [(0, .ref (ad 0)), (1, .int x), (2, .int y)] := hl
  skip
  obtain ⟨hO, ⟨fq, hQ, hfq⟩, ⟨r1, p1, k1, hF1, hR1, hT1⟩, ⟨r2, p2, k2, hF2, hR2, hT2⟩, ⟨dr, hd⟩, hgs⟩ := id hC
  refine lv_aload_n hx hb dX2_common_0 rfl (lv_at hl 0 rfl) ?_
  refine lv_iload_n hx hb dX2_common_1 rfl (lv_at hl 1 rfl) ?_
  refine lv_iload_n hx hb dX2_common_2 rfl (lv_at hl 2 rfl) ?_
  refine kx_goi (va_runV (As := [.int x, .int y]) (rest := []) ⟨hx, hb, hml, hown, hts⟩ (c_areAlike l D k0 w0 _ b ad nE nV op LL ww hC hI x y) ⟨(kg_B (k := 2) hts tw_217 tw_214 tw_19 (by decide +kernel) rfl rfl ⟨Nat.le_of_ble_eq_true rfl, Nat.le_of_ble_eq_true rfl⟩), hts _ tw_216, hts _ tw_3⟩ (kx_preV hN hK hP hD rfl hO) rfl rfl hl.1 rfl (lv_room (Nat.le_of_ble_eq_true rfl)) dX2_common_3 ⟨Nat.le_of_ble_eq_true rfl, Nat.le_of_ble_eq_true rfl⟩) hD hS hA (fun r_2 u_3 H locs hp_1 hP hD hS => ?_)
  obtain ⟨hy_, eu⟩ := hp_1
  rw [eu] at hP hD
  refine lv_if_eq (tgt := 28) hx hb dX2_common_6 (by decide) (fun c_6 => ?_) (fun c_6 => ?_)
  · skip
    have hno := kg_0 hy_ c_6
    refine lv_iconst (v := -1) hx hb dX2_common_28 (by decide +kernel) ?_
    exact kx_iret (v := -1) hx hb hr rfl hlocks hK hP hD hS dX2_common_29 (by first | exact ⟨Or.inr ⟨hno, rfl⟩, hC, kx_fr_rf _ _⟩ | exact ⟨Or.inl ⟨i, j, C, h8i, h8j, hnn, e_x, e_y, rfl, hsp⟩, atC_rest hC (kx_fr_mono hq (fun j h => by omega)) ⟨_, _, _, hF9⟩ ⟨_, _, _, hF8⟩ ⟨dr, by rw [hq _ (by omega)]; exact hd⟩, kx_fr_mono hq (fun j h => by omega)⟩)
  · skip
    obtain ⟨i, j, h8i, h8j, hnn, e_x, e_y⟩ := kg_1 hy_ c_6
    rw [e_x, e_y] at hl
    obtain ⟨hGi, hLi, hWi⟩ := hgs i h8i
    obtain ⟨hni, hvi, hl2i, hw2i⟩ := hI i h8i
    obtain ⟨hGj, hLj, hWj⟩ := hgs j h8j
    obtain ⟨hnj, hvj, hl2j, hw2j⟩ := hI j h8j
    refine lv_aload_n hx hb dX2_common_9 rfl (lv_at hl 0 rfl) ?_
    refine lv_aload_n hx hb dX2_common_10 rfl (lv_at hl 0 rfl) ?_
    refine va_get (D := D) (ci := 2) (v := .ref (ad 1)) (C := RX2) (T := TX2) (N := 4) hx hb hts inX2 hown hK hP b hO rfl 0 (by decide) (hts _ tw_78) (fun _ h9 => h9) rfl dX2_common_11 ?_
    refine lv_iload_n hx hb dX2_common_14 rfl (lv_at hl 1 rfl) ?_
    refine kx_qald hx hb hK hP (b + 1) 1 hQ rfl (i := i) (r := (ad (9 + 3 * i))) (by omega) (by decide) (hfq _ (by omega)) dX2_common_15 ?_
    refine lv_aload_n hx hb dX2_common_16 rfl (lv_at hl 0 rfl) ?_
    refine va_get (D := D) (ci := 2) (v := .ref (ad 1)) (C := RX2) (T := TX2) (N := 4) hx hb hts inX2 hown hK hP b hO rfl 0 (by decide) (hts _ tw_78) (fun _ h9 => h9) rfl dX2_common_17 ?_
    refine lv_iload_n hx hb dX2_common_20 rfl (lv_at hl 2 rfl) ?_
    refine kx_qald hx hb hK hP (b + 1) 1 hQ rfl (i := j) (r := (ad (9 + 3 * j))) (by omega) (by decide) (hfq _ (by omega)) dX2_common_21 ?_
    refine kx_goi (va_runV (As := [.ref (ad (9 + 3 * i)), .ref (ad (9 + 3 * j))]) (rest := []) ⟨hx, hb, hml, hown, hts⟩ (c_largest l D k0 w0 _ b (ad 0) (ad 1) (ad 8) (ad 2) (ad 3) (ad 4) r1 p1 k1 hF1 hR1 hT1 (ad 5) (ad 6) (ad 7) r2 p2 k2 hF2 hR2 hT2 hO (b + 9 + 3 * i) (ad (9 + 3 * i)) (ad (10 + 3 * i)) (ad (11 + 3 * i)) (LL i) (ww i) (nE i) (nI (nV i)) (op i) hGi hLi hWi (b + 9 + 3 * j) (ad (9 + 3 * j)) (ad (10 + 3 * j)) (ad (11 + 3 * j)) (LL j) (ww j) (nI (nV j)) (op j) (by rw [hnn]; exact hGj) hLj hWj (by omega) (by omega) hni (fun q h => gl_lt (hl2i q h)) (fun q h => gl_lt (hl2j q (by omega)))) ⟨(kg_B (k := 2) hts tw_221 tw_218 tw_19 (by decide +kernel) rfl rfl ⟨Nat.le_of_ble_eq_true rfl, Nat.le_of_ble_eq_true rfl⟩), hts _ tw_220, hts _ tw_4⟩ (kx_preV hN hK hP hD rfl hO) rfl rfl hl.1 rfl (lv_room (Nat.le_of_ble_eq_true rfl)) dX2_common_22 ⟨Nat.le_of_ble_eq_true rfl, Nat.le_of_ble_eq_true rfl⟩) hD hS hA (fun r_5 u_6 H locs hp_4 hP hD hS => ?_)
    obtain ⟨C, er, hsp, so1, st1, so2, st2, hF9, hF8, hq⟩ := hp_4
    subst er
    refine lv_goto (tgt := 29) hx hb dX2_common_25 (by decide) ?_
    exact kx_iret (v := nI C) hx hb hr rfl hlocks hK hP hD hS dX2_common_29 (by first | exact ⟨Or.inr ⟨hno, rfl⟩, hC, kx_fr_rf _ _⟩ | exact ⟨Or.inl ⟨i, j, C, h8i, h8j, hnn, e_x, e_y, rfl, hsp⟩, atC_rest hC (kx_fr_mono hq (fun j h => by omega)) ⟨_, _, _, hF9⟩ ⟨_, _, _, hF8⟩ ⟨dr, by rw [hq _ (by omega)]; exact hd⟩, kx_fr_mono hq (fun j h => by omega)⟩)

set_option maxHeartbeats 4000000 in
set_option maxRecDepth 100000 in
/-- cover(g, h) -/
theorem c_cover (l : Launch) (D : va_G) (k0 : Nat → ClassId)  (w0 : va_W) (sz : Nat) (b : Nat) (ad nE nV : Nat → Nat) (op : Nat → Int32) (LL : Nat → Nat → Nat) (ww : Nat → Nat → Int32) (hC : atC w0 b k0 ad nE nV op LL ww) (hI : cinv nE nV LL ww) (x y : Int32) : kx_i l yX2_cover wsX2_cover ({ frames := 19, cells := 0, slots := 0, locals := 520 } : Room) D (tyL k0) w0 sz [.ref (ad 0), .int x, .int y] (fun (r : Int32) (u : va_W) => ((∃ i j C, i < 8 ∧ j < 8 ∧ nE i = nE j ∧ x = nI i ∧ y = nI j ∧ r = nI C ∧ co_spec (LL i) (LL j) (nE i) C) ∨ (¬ (∃ i j, i < 8 ∧ j < 8 ∧ nE i = nE j ∧ x = nI i ∧ y = nI j) ∧ r = -1)) ∧ atC u b k0 ad nE nV op LL ww ∧ kx_fr w0 u (fun j => b ≤ j ∧ j < b + 33)) 0 0 := by
  refine kx_of (Qf := fun A => va_Qi (fun (r : Int32) (u : va_W) => ((∃ i j C, i < 8 ∧ j < 8 ∧ nE i = nE j ∧ x = nI i ∧ y = nI j ∧ r = nI C ∧ co_spec (LL i) (LL j) (nE i) C) ∨ (¬ (∃ i j, i < 8 ∧ j < 8 ∧ nE i = nE j ∧ x = nI i ∧ y = nI j) ∧ r = -1)) ∧ atC u b k0 ad nE nV op LL ww ∧ kx_fr w0 u (fun j => b ≤ j ∧ j < b + 33)) (kx_B D (tyL k0) A) A) (cc := cX2_cover) (maxL := 3) (ret := (some .int)) (by decide +kernel) (Nat.le_of_ble_eq_true rfl) ?_
  intro p e s m below meth c A ls hx hb hml hown hts hr hlocks hnm hN hK hP hD hS hA hl
  have hown : s.vm.findClass RX2 = some m.cls := hown
  have hl : lv_has ls 3 [(0, .ref (ad 0)), (1, .int x), (2, .int y)] := hl
  skip
  obtain ⟨hO, ⟨fq, hQ, hfq⟩, ⟨r1, p1, k1, hF1, hR1, hT1⟩, ⟨r2, p2, k2, hF2, hR2, hT2⟩, ⟨dr, hd⟩, hgs⟩ := id hC
  refine lv_aload_n hx hb dX2_cover_0 rfl (lv_at hl 0 rfl) ?_
  refine lv_iload_n hx hb dX2_cover_1 rfl (lv_at hl 1 rfl) ?_
  refine lv_iload_n hx hb dX2_cover_2 rfl (lv_at hl 2 rfl) ?_
  refine kx_goi (va_runV (As := [.int x, .int y]) (rest := []) ⟨hx, hb, hml, hown, hts⟩ (c_areAlike l D k0 w0 _ b ad nE nV op LL ww hC hI x y) ⟨(kg_B (k := 2) hts tw_217 tw_214 tw_19 (by decide +kernel) rfl rfl ⟨Nat.le_of_ble_eq_true rfl, Nat.le_of_ble_eq_true rfl⟩), hts _ tw_216, hts _ tw_3⟩ (kx_preV hN hK hP hD rfl hO) rfl rfl hl.1 rfl (lv_room (Nat.le_of_ble_eq_true rfl)) dX2_cover_3 ⟨Nat.le_of_ble_eq_true rfl, Nat.le_of_ble_eq_true rfl⟩) hD hS hA (fun r_2 u_3 H locs hp_1 hP hD hS => ?_)
  obtain ⟨hy_, eu⟩ := hp_1
  rw [eu] at hP hD
  refine lv_if_eq (tgt := 28) hx hb dX2_cover_6 (by decide) (fun c_6 => ?_) (fun c_6 => ?_)
  · skip
    have hno := kg_0 hy_ c_6
    refine lv_iconst (v := -1) hx hb dX2_cover_28 (by decide +kernel) ?_
    exact kx_iret (v := -1) hx hb hr rfl hlocks hK hP hD hS dX2_cover_29 (by first | exact ⟨Or.inr ⟨hno, rfl⟩, hC, kx_fr_rf _ _⟩ | exact ⟨Or.inl ⟨i, j, C, h8i, h8j, hnn, e_x, e_y, rfl, hsp⟩, atC_rest hC (kx_fr_mono hq (fun j h => by omega)) ⟨_, _, _, hF9⟩ ⟨_, _, _, hF8⟩ ⟨dr, by rw [hq _ (by omega)]; exact hd⟩, kx_fr_mono hq (fun j h => by omega)⟩)
  · skip
    obtain ⟨i, j, h8i, h8j, hnn, e_x, e_y⟩ := kg_1 hy_ c_6
    rw [e_x, e_y] at hl
    obtain ⟨hGi, hLi, hWi⟩ := hgs i h8i
    obtain ⟨hni, hvi, hl2i, hw2i⟩ := hI i h8i
    obtain ⟨hGj, hLj, hWj⟩ := hgs j h8j
    obtain ⟨hnj, hvj, hl2j, hw2j⟩ := hI j h8j
    refine lv_aload_n hx hb dX2_cover_9 rfl (lv_at hl 0 rfl) ?_
    refine lv_aload_n hx hb dX2_cover_10 rfl (lv_at hl 0 rfl) ?_
    refine va_get (D := D) (ci := 2) (v := .ref (ad 1)) (C := RX2) (T := TX2) (N := 4) hx hb hts inX2 hown hK hP b hO rfl 0 (by decide) (hts _ tw_78) (fun _ h9 => h9) rfl dX2_cover_11 ?_
    refine lv_iload_n hx hb dX2_cover_14 rfl (lv_at hl 1 rfl) ?_
    refine kx_qald hx hb hK hP (b + 1) 1 hQ rfl (i := i) (r := (ad (9 + 3 * i))) (by omega) (by decide) (hfq _ (by omega)) dX2_cover_15 ?_
    refine lv_aload_n hx hb dX2_cover_16 rfl (lv_at hl 0 rfl) ?_
    refine va_get (D := D) (ci := 2) (v := .ref (ad 1)) (C := RX2) (T := TX2) (N := 4) hx hb hts inX2 hown hK hP b hO rfl 0 (by decide) (hts _ tw_78) (fun _ h9 => h9) rfl dX2_cover_17 ?_
    refine lv_iload_n hx hb dX2_cover_20 rfl (lv_at hl 2 rfl) ?_
    refine kx_qald hx hb hK hP (b + 1) 1 hQ rfl (i := j) (r := (ad (9 + 3 * j))) (by omega) (by decide) (hfq _ (by omega)) dX2_cover_21 ?_
    refine kx_goi (va_runV (As := [.ref (ad (9 + 3 * i)), .ref (ad (9 + 3 * j))]) (rest := []) ⟨hx, hb, hml, hown, hts⟩ (c_leastCover l D k0 w0 _ b (ad 0) (ad 1) (ad 8) (ad 2) (ad 3) (ad 4) r1 p1 k1 hF1 hR1 hT1 (ad 5) (ad 6) (ad 7) r2 p2 k2 hF2 hR2 hT2 hO (b + 9 + 3 * i) (ad (9 + 3 * i)) (ad (10 + 3 * i)) (ad (11 + 3 * i)) (LL i) (ww i) (nE i) (nI (nV i)) (op i) hGi hLi hWi (b + 9 + 3 * j) (ad (9 + 3 * j)) (ad (10 + 3 * j)) (ad (11 + 3 * j)) (LL j) (ww j) (nI (nV j)) (op j) (by rw [hnn]; exact hGj) hLj hWj (by omega) (by omega) hni (fun q h => gl_lt (hl2i q h)) (fun q h => gl_lt (hl2j q (by omega)))) ⟨(kg_B (k := 2) hts tw_238 tw_235 tw_19 (by decide +kernel) rfl rfl ⟨Nat.le_of_ble_eq_true rfl, Nat.le_of_ble_eq_true rfl⟩), hts _ tw_237, hts _ tw_6⟩ (kx_preV hN hK hP hD rfl hO) rfl rfl hl.1 rfl (lv_room (Nat.le_of_ble_eq_true rfl)) dX2_cover_22 ⟨Nat.le_of_ble_eq_true rfl, Nat.le_of_ble_eq_true rfl⟩) hD hS hA (fun r_5 u_6 H locs hp_4 hP hD hS => ?_)
    obtain ⟨C, er, hsp, so1, st1, so2, st2, q1, q2, hF9, hF8, hq⟩ := hp_4
    subst er
    refine lv_goto (tgt := 29) hx hb dX2_cover_25 (by decide) ?_
    exact kx_iret (v := nI C) hx hb hr rfl hlocks hK hP hD hS dX2_cover_29 (by first | exact ⟨Or.inr ⟨hno, rfl⟩, hC, kx_fr_rf _ _⟩ | exact ⟨Or.inl ⟨i, j, C, h8i, h8j, hnn, e_x, e_y, rfl, hsp⟩, atC_rest hC (kx_fr_mono hq (fun j h => by omega)) ⟨_, _, _, hF9⟩ ⟨_, _, _, hF8⟩ ⟨dr, by rw [hq _ (by omega)]; exact hd⟩, kx_fr_mono hq (fun j h => by omega)⟩)
