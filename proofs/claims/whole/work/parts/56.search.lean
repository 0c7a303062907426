def sr (d : Nat) : Room := { frames := 4 + d, cells := 0, slots := 0, locals := 100 + 28 * d }
theorem se_no1 {L M : Nat → Nat} {n e S J : Nat} (he : e < n) (h : cf_sp L n S (L e)) (hS : ∀ i, e ≤ i → S.testBit i = false) (hJ : se_ext L M n e S J) : J.testBit e = false := by
  cases c : J.testBit e with
  | false => rfl
  | true =>
    refine absurd (cf_sp_mono (fun i hi => ?_) h) (cf_ind_nsp he hJ.2.1 c)
    have hie : i < e := by
      rcases Nat.lt_or_ge i e with q | q
      · exact q
      · rw [hS i q] at hi; cases hi
    have hne : ¬ e = i := by omega
    rw [cf_diff_bit, cf_one_bit, hJ.2.2.2 i hie, hi]; simp [hne]
theorem se_no2 {L M : Nat → Nat} {n e S J : Nat} (he : e < n) (h : cf_sp M n S (M e)) (hS : ∀ i, e ≤ i → S.testBit i = false) (hJ : se_ext L M n e S J) : J.testBit e = false :=
  se_no1 (L := M) (M := L) he h hS ⟨hJ.1, hJ.2.2.1, hJ.2.1, hJ.2.2.2⟩
theorem cf_card_32 {n S : Nat} (hn : n ≤ 32) (h : cf_sub S (cf_full n)) : cf_card 32 S = cf_card n S := by
  have e : S % 2 ^ n = S := Nat.mod_eq_of_lt (by
    have := kb_le_full h
    have := Nat.one_le_two_pow (n := n)
    unfold cf_full at this
    have h2 : S ≤ 2 ^ n - 1 := by assumption
    omega)
  have := cf_card_mod (n := 32) S hn
  rw [e] at this; exact this
theorem kb_minN {a b : Nat} (ha : a < 2 ^ 31) (hb : b < 2 ^ 31) : (if nI b < nI a then nI b else nI a) = nI (min a b) := by
  rw [kb_min ha hb]
  congr 1
  split <;> omega
/-- agreement below a bound goes on -/
def fo_ag (k : Nat) (r p r' p' : Nat → Nat) : Prop := ∀ j, j < k → r' j = r j ∧ p' j = p j
theorem fo_ag_rf (k : Nat) (r p : Nat → Nat) : fo_ag k r p r p := fun _ _ => ⟨rfl, rfl⟩
theorem fo_ag_tr {k : Nat} {r p r' p' r'' p'' : Nat → Nat} (h : fo_ag k r p r' p') (q : fo_ag k r' p' r'' p'') : fo_ag k r p r'' p'' := fun j hj => ⟨(q j hj).1.trans (h j hj).1, (q j hj).2.trans (h j hj).2⟩
theorem fo_ag_lt {k : Nat} {r p r' p' : Nat → Nat} (h : fo_ag (k + 1) r p r' p') : fo_ag k r p r' p' := fun j hj => h j (by omega)
theorem fo_ag_up (k : Nat) (r p : Nat → Nat) (x y : Nat) : fo_ag k r p (fo_up r k x) (fo_up p k y) := fun j hj => ⟨fo_up_lt _ _ hj, fo_up_lt _ _ hj⟩
theorem fo_ag_ok {L : Nat → Nat} {n B k : Nat} {r p r' p' : Nat → Nat} (h : fo_ok L n B r p k) (a : fo_ag k r p r' p') : fo_ok L n B r' p' k := fo_ok_congr h (fun i hi => (a i hi).1.symm) (fun i hi => (a i hi).2.symm)
theorem fo_ag_row {k : Nat} {r p r' p' : Nat → Nat} (h : ∀ j, j < k → r j < 2 ^ 24) (a : fo_ag k r p r' p') : ∀ j, j < k → r' j < 2 ^ 24 := fun j hj => by rw [(a j hj).1]; exact h j hj
theorem fo_up_row {k x : Nat} {r : Nat → Nat} (h : ∀ j, j < k → r j < 2 ^ 24) (hx : x < 2 ^ 24) : ∀ j, j < k + 1 → fo_up r k x j < 2 ^ 24 := fun j hj => by
  rcases Nat.lt_or_ge j k with q | q
  · rw [fo_up_lt _ _ q]; exact h j q
  · rw [show j = k by omega, fo_up_self]; exact hx

def srC (l : Launch) (D : va_G) (k0 : Nat → ClassId) (d : Nat) : Prop := ∀ (w0 : va_W) (sz : Nat) (b o a1 a8 : Nat) (f ra pa : Nat) (rows parts : Nat → Nat) (k : Nat) (hF : w0[b + 2]? = some (f, .inr (0, [.ref ra, .ref pa, .int (nI k)]))) (hR : w0[b + 2 + 1]? = some (ra, .inl (k0 0, 12, .inl (fun j => nI (rows j))))) (hT : w0[b + 2 + 2]? = some (pa, .inl (k0 0, 12, .inl (fun j => nI (parts j))))) (f2 rb pb : Nat) (rows2 parts2 : Nat → Nat) (kk : Nat) (hF2 : w0[b + 5]? = some (f2, .inr (0, [.ref rb, .ref pb, .int (nI kk)]))) (hR2 : w0[b + 5 + 1]? = some (rb, .inl (k0 0, 12, .inl (fun j => nI (rows2 j))))) (hT2 : w0[b + 5 + 2]? = some (pb, .inl (k0 0, 12, .inl (fun j => nI (parts2 j))))) (hO : w0[b]? = some (o, .inr (2, [.ref a1, .ref f, .ref f2, .ref a8]))) (qg g ga gb : Nat) (L : Nat → Nat) (wt : Nat → Int32) (n : Nat) (vv oo : Int32) (hG : w0[qg]? = some (g, .inr (1, [.ref ga, .ref gb, .int (nI n), .int vv, .int oo]))) (hL : w0[qg + 1]? = some (ga, .inl (k0 0, 12, .inl (fun j => nI (L j))))) (hW : w0[qg + 2]? = some (gb, .inl (k0 0, 12, .inl wt))) (qh g2 ma mb : Nat) (M : Nat → Nat) (wt2 : Nat → Int32) (vv2 oo2 : Int32) (hG2 : w0[qh]? = some (g2, .inr (1, [.ref ma, .ref mb, .int (nI n), .int vv2, .int oo2]))) (hL2 : w0[qh + 1]? = some (ma, .inl (k0 0, 12, .inl (fun j => nI (M j))))) (hW2 : w0[qh + 2]? = some (mb, .inl (k0 0, 12, .inl wt2))) (hag : b + 9 ≤ qg) (hah : b + 9 ≤ qh) (hn : n ≤ 12) (hLb : ∀ j, j < n → L j < 2 ^ 24) (hMb : ∀ j, j < n → M j < 2 ^ 24) (e9 S fd lim : Nat) (hed : e9 + d = n) (hSz : ∀ i, e9 ≤ i → S.testBit i = false) (hfo1 : fo_ok L n S rows parts k) (hfo2 : fo_ok M n S rows2 parts2 kk) (hrow1 : ∀ j, j < k → rows j < 2 ^ 24) (hrow2 : ∀ j, j < kk → rows2 j < 2 ^ 24) (hfd : cf_sub fd (cf_full n)) (hlim : ∀ J, cf_ind L n J → cf_ind M n J → cf_card n J ≤ lim) (hlb : lim ≤ 12), kx_i l yX2_searched wsX2_searched (sr d) D (tyL k0) w0 sz [.ref o, .ref g, .ref g2, .int (nI e9), .int (nI S), .int (nI fd), .int (nI lim)] (fun (r : Int32) (u : va_W) => ∃ res, r = nI res ∧ cf_sub res (cf_full n) ∧ se_spec L M n e9 S fd res ∧ ∃ (ro1 pt1 ro2 pt2 : Nat → Nat), atF u (b + 2) k0 f ra pa ro1 pt1 k ∧ atF u (b + 5) k0 f2 rb pb ro2 pt2 kk ∧ fo_ag k rows parts ro1 pt1 ∧ fo_ag kk rows2 parts2 ro2 pt2 ∧ kx_fr w0 u (fun j => b + 2 ≤ j ∧ j < b + 8)) 0 0

set_option maxHeartbeats 4000000 in
set_option maxRecDepth 100000 in
/-- searched(g, h, e, set, found, limit): a step -/
theorem c_srStep (l : Launch) (D : va_G) (k0 : Nat → ClassId) (d : Nat) (ih : ∀ d1, d = d1 + 1 → srC l D k0 d1) (w0 : va_W) (sz : Nat) (b o a1 a8 : Nat) (f ra pa : Nat) (rows parts : Nat → Nat) (k : Nat) (hF : w0[b + 2]? = some (f, .inr (0, [.ref ra, .ref pa, .int (nI k)]))) (hR : w0[b + 2 + 1]? = some (ra, .inl (k0 0, 12, .inl (fun j => nI (rows j))))) (hT : w0[b + 2 + 2]? = some (pa, .inl (k0 0, 12, .inl (fun j => nI (parts j))))) (f2 rb pb : Nat) (rows2 parts2 : Nat → Nat) (kk : Nat) (hF2 : w0[b + 5]? = some (f2, .inr (0, [.ref rb, .ref pb, .int (nI kk)]))) (hR2 : w0[b + 5 + 1]? = some (rb, .inl (k0 0, 12, .inl (fun j => nI (rows2 j))))) (hT2 : w0[b + 5 + 2]? = some (pb, .inl (k0 0, 12, .inl (fun j => nI (parts2 j))))) (hO : w0[b]? = some (o, .inr (2, [.ref a1, .ref f, .ref f2, .ref a8]))) (qg g ga gb : Nat) (L : Nat → Nat) (wt : Nat → Int32) (n : Nat) (vv oo : Int32) (hG : w0[qg]? = some (g, .inr (1, [.ref ga, .ref gb, .int (nI n), .int vv, .int oo]))) (hL : w0[qg + 1]? = some (ga, .inl (k0 0, 12, .inl (fun j => nI (L j))))) (hW : w0[qg + 2]? = some (gb, .inl (k0 0, 12, .inl wt))) (qh g2 ma mb : Nat) (M : Nat → Nat) (wt2 : Nat → Int32) (vv2 oo2 : Int32) (hG2 : w0[qh]? = some (g2, .inr (1, [.ref ma, .ref mb, .int (nI n), .int vv2, .int oo2]))) (hL2 : w0[qh + 1]? = some (ma, .inl (k0 0, 12, .inl (fun j => nI (M j))))) (hW2 : w0[qh + 2]? = some (mb, .inl (k0 0, 12, .inl wt2))) (hag : b + 9 ≤ qg) (hah : b + 9 ≤ qh) (hn : n ≤ 12) (hLb : ∀ j, j < n → L j < 2 ^ 24) (hMb : ∀ j, j < n → M j < 2 ^ 24) (e9 S fd lim : Nat) (hed : e9 + d = n) (hSz : ∀ i, e9 ≤ i → S.testBit i = false) (hfo1 : fo_ok L n S rows parts k) (hfo2 : fo_ok M n S rows2 parts2 kk) (hrow1 : ∀ j, j < k → rows j < 2 ^ 24) (hrow2 : ∀ j, j < kk → rows2 j < 2 ^ 24) (hfd : cf_sub fd (cf_full n)) (hlim : ∀ J, cf_ind L n J → cf_ind M n J → cf_card n J ≤ lim) (hlb : lim ≤ 12) : kx_i l yX2_searched wsX2_searched (sr d) D (tyL k0) w0 sz [.ref o, .ref g, .ref g2, .int (nI e9), .int (nI S), .int (nI fd), .int (nI lim)] (fun (r : Int32) (u : va_W) => ∃ res, r = nI res ∧ cf_sub res (cf_full n) ∧ se_spec L M n e9 S fd res ∧ ∃ (ro1 pt1 ro2 pt2 : Nat → Nat), atF u (b + 2) k0 f ra pa ro1 pt1 k ∧ atF u (b + 5) k0 f2 rb pb ro2 pt2 kk ∧ fo_ag k rows parts ro1 pt1 ∧ fo_ag kk rows2 parts2 ro2 pt2 ∧ kx_fr w0 u (fun j => b + 2 ≤ j ∧ j < b + 8)) 0 0 := by
  refine kx_of (Qf := fun A => va_Qi (fun (r : Int32) (u : va_W) => ∃ res, r = nI res ∧ cf_sub res (cf_full n) ∧ se_spec L M n e9 S fd res ∧ ∃ (ro1 pt1 ro2 pt2 : Nat → Nat), atF u (b + 2) k0 f ra pa ro1 pt1 k ∧ atF u (b + 5) k0 f2 rb pb ro2 pt2 kk ∧ fo_ag k rows parts ro1 pt1 ∧ fo_ag kk rows2 parts2 ro2 pt2 ∧ kx_fr w0 u (fun j => b + 2 ≤ j ∧ j < b + 8)) (kx_B D (tyL k0) A) A) (cc := cX2_searched) (maxL := 9) (ret := (some .int)) (by decide +kernel) (Nat.le_of_ble_eq_true rfl) ?_
  intro p e s m below meth c A ls hx hb hml hown hts hr hlocks hnm hN hK hP hD hS hA hl
  have hown : s.vm.findClass RX2 = some m.cls := hown
  have hl : lv_has ls 9 [(0, .ref o), (1, .ref g), (2, .ref g2), (3, .int (nI e9)), (4, .int (nI S)), (5, .int (nI fd)), (6, .int (nI lim))] := hl
  have hfr : kx_fr w0 w0 (fun j => b + 2 ≤ j ∧ j < b + 8) := kx_fr_rf _ _
  have hSs := hfo1.1
  have hSb := kb_le_full hSs
  have hfb := kb_le_full hfd
  have hfl := kb_full_lt hn
  have cS := cf_card_32 (by omega) hSs
  have cF := cf_card_32 (by omega) hfd
  have cSl := cf_card_le n S
  have cFl := cf_card_le n fd
  have hk12 := hfo1.2.2.1
  have hkk12 := hfo2.2.2.1
  refine lv_iload hx hb dX2_searched_0 (lv_at hl 6 rfl) ?_
  refine lv_iload hx hb dX2_searched_2 (lv_at hl 4 rfl) ?_
  refine kx_goi (va_runS (As := [.int (nI S)]) (rest := [.int (nI lim)]) ⟨hx, hb, hml, hown, hts⟩ (c_bits l D k0 w0 _ S (by omega)) ⟨(kg_B (k := 1) hts tw_183 tw_181 tw_24 (by decide +kernel) rfl rfl ⟨by show (0 : Nat) + 1 ≤ 4 + d; omega, by show (8 : Nat) + (1 + 11) + 0 ≤ 100 + 28 * d; omega⟩), hts _ tw_182⟩ (kx_preS hN hK hP hD) rfl rfl hl.1 rfl (lv_room (Nat.le_of_ble_eq_true rfl)) dX2_searched_4 ⟨Nat.zero_le _, Nat.zero_le _⟩) hD hS hA (fun r_2 u_3 H locs hp_1 hP hD hS => ?_)
  obtain ⟨er_2, eu_3⟩ := hp_1
  rw [eu_3] at hP hD; subst er_2
  refine lv_topi (fun z_4 ez_4 => ?_)
  have ez_4 : z_4 = nI (cf_card n S) := by rw [ez_4]; rw [cS]
  subst ez_4
  refine lv_aload_n hx hb dX2_searched_7 rfl (lv_at hl 1 rfl) ?_
  refine va_get (D := D) (ci := 1) (v := .int (nI n)) (C := RX1) (T := TX1) (N := 5) hx hb hts inX1 hown hK hP qg hG rfl 2 (by decide) (hts _ tw_64) (fun _ h9 => h9) rfl dX2_searched_8 ?_
  refine lv_iadd hx hb dX2_searched_11 ?_
  refine lv_topi (fun z_5 ez_5 => ?_)
  have ez_5 : z_5 = nI (cf_card n S + n) := by rw [ez_5]; exact nI_add _ _
  subst ez_5
  refine lv_iload_n hx hb dX2_searched_12 rfl (lv_at hl 3 rfl) ?_
  refine lv_isub hx hb dX2_searched_13 ?_
  refine lv_topi (fun z_6 ez_6 => ?_)
  have ez_6 : z_6 = nI (cf_card n S + n - e9) := by rw [ez_6]; exact pk_sub (by omega)
  subst ez_6
  refine va_mmin hx hb (by rw [hml]; exact hl.1.symm) hown (hts _ tw_222) (hts _ tw_153) (hts _ tw_23) (hts _ tw_min) (by show (1 : Nat) ≤ 4 + d; omega) (by show _ ≤ 100 + 28 * d; exact Nat.le_trans (Nat.le_of_ble_eq_true rfl : _ ≤ (30 : Nat)) (by omega)) (Nat.zero_le _) (Nat.zero_le _) dX2_searched_14 ?_
  refine lv_topi (fun z_7 ez_7 => ?_)
  have ez_7 : z_7 = nI (min lim (cf_card n S + n - e9)) := by rw [ez_7]; exact kb_minN (by omega) (by omega)
  subst ez_7
  refine lv_istore (lv' := [(7, .int (nI (min lim (cf_card n S + n - e9)))), (0, .ref o), (1, .ref g), (2, .ref g2), (3, .int (nI e9)), (4, .int (nI S)), (5, .int (nI fd)), (6, .int (nI lim))]) hx hb dX2_searched_17 hl (by decide) rfl (fun ls hl => ?_)
  refine lv_iload hx hb dX2_searched_19 (lv_at hl 0 rfl) ?_
  refine lv_iload hx hb dX2_searched_21 (lv_at hl 6 rfl) ?_
  refine kx_goi (va_runS (As := [.int (nI fd)]) (rest := [.int (nI (min lim (cf_card n S + n - e9)))]) ⟨hx, hb, hml, hown, hts⟩ (c_bits l D k0 w0 _ fd (by omega)) ⟨(kg_B (k := 1) hts tw_183 tw_181 tw_24 (by decide +kernel) rfl rfl ⟨by show (0 : Nat) + 1 ≤ 4 + d; omega, by show (8 : Nat) + (1 + 11) + 0 ≤ 100 + 28 * d; omega⟩), hts _ tw_182⟩ (kx_preS hN hK hP hD) rfl rfl hl.1 rfl (lv_room (Nat.le_of_ble_eq_true rfl)) dX2_searched_23 ⟨Nat.zero_le _, Nat.zero_le _⟩) hD hS hA (fun r_9 u_10 H locs hp_8 hP hD hS => ?_)
  obtain ⟨er_9, eu_10⟩ := hp_8
  rw [eu_10] at hP hD; subst er_9
  refine lv_topi (fun z_11 ez_11 => ?_)
  have ez_11 : z_11 = nI (cf_card n fd) := by rw [ez_11]; rw [cF]
  subst ez_11
  refine lv_icmp_gt (tgt := 32) hx hb dX2_searched_26 (by decide) (fun c_26 => ?_) (fun c_26 => ?_)
  · skip
    have hre : cf_card n fd < min lim (cf_card n S + n - e9) := (nI_ltI (by omega) (by omega)).mp c_26
    refine lv_iload_n hx hb dX2_searched_32 rfl (lv_at hl 4 rfl) ?_
    refine lv_aload_n hx hb dX2_searched_33 rfl (lv_at hl 2 rfl) ?_
    refine va_get (D := D) (ci := 1) (v := .int (nI n)) (C := RX1) (T := TX1) (N := 5) hx hb hts inX1 hown hK hP qg hG rfl 2 (by decide) (hts _ tw_64) (fun _ h9 => h9) rfl dX2_searched_34 ?_
    refine lv_icmp_lt (tgt := 43) hx hb dX2_searched_37 (by decide) (fun c_37 => ?_) (fun c_37 => ?_)
    · skip
      have hlt : e9 < n := (nI_ltI (by omega) (by omega)).mp c_37
      have hSe : S.testBit e9 = false := hSz e9 (Nat.le_refl e9)
      obtain ⟨d1, hd1⟩ : ∃ d1, d = d1 + 1 := ⟨d - 1, by omega⟩
      refine lv_iload hx hb dX2_searched_43 (lv_at hl 6 rfl) ?_
      refine lv_istore (lv' := [(8, .int (nI fd)), (7, .int (nI (min lim (cf_card n S + n - e9)))), (0, .ref o), (1, .ref g), (2, .ref g2), (3, .int (nI e9)), (4, .int (nI S)), (5, .int (nI fd)), (6, .int (nI lim))]) hx hb dX2_searched_45 hl (by decide) rfl (fun ls hl => ?_)
      refine lv_aload_n hx hb dX2_searched_47 rfl (lv_at hl 2 rfl) ?_
      refine va_get (D := D) (ci := 2) (v := .ref f) (C := RX2) (T := TX2) (N := 4) hx hb hts inX2 hown hK hP b hO rfl 1 (by decide) (hts _ tw_79) (fun _ h9 => h9) rfl dX2_searched_48 ?_
      refine lv_iload_n hx hb dX2_searched_51 rfl (lv_at hl 5 rfl) ?_
      refine lv_aload_n hx hb dX2_searched_52 rfl (lv_at hl 3 rfl) ?_
      refine va_get (D := D) (ci := 1) (v := .ref ga) (C := RX1) (T := TX1) (N := 5) hx hb hts inX1 hown hK hP qg hG rfl 0 (by decide) (hts _ tw_59) (fun _ h9 => h9) rfl dX2_searched_53 ?_
      refine lv_iload_n hx hb dX2_searched_56 rfl (lv_at hl 5 rfl) ?_
      refine kx_nald hx hb hK hP (qg + 1) hL rfl (i := e9) (by omega) (by decide) dX2_searched_57 ?_
      refine kx_goi (va_runV (As := [.int (nI e9), .int (nI (L e9))]) (rest := []) ⟨hx, hb, hml, hown, hts⟩ (c_takes l D k0 w0 _ (b + 2) f ra pa rows parts k hF hR hT (by omega) hrow1 e9 (L e9) (by omega) (hLb e9 hlt) (fun h => by have := fo_room hfo1 hlt h; omega)) ⟨(kg_B (k := 2) hts tw_147 tw_209 tw_20 (by decide +kernel) rfl rfl ⟨by show (2 : Nat) + 1 ≤ 4 + d; omega, by show (8 : Nat) + (4 + 11) + 48 ≤ 100 + 28 * d; omega⟩), hts _ tw_145, hts _ tw_146⟩ (kx_preV hN hK hP hD rfl hF) rfl rfl hl.1 rfl (lv_room (Nat.le_of_ble_eq_true rfl)) dX2_searched_58 ⟨Nat.zero_le _, Nat.zero_le _⟩) hD hS hA (fun r_13 u_14 H locs hp_12 hP hD hS => ?_)
      rcases hp_12 with ⟨h01, er, eu⟩ | ⟨h01, er, hF9, hq⟩
      · skip
        subst er
        rw [eu] at hP hD
        refine lv_if_eq (tgt := 116) hx hb dX2_searched_61 (by decide) (fun c_61 => ?_) (fun c_61 => ?_)
        · skip
          refine lv_aload_n hx hb dX2_searched_116 rfl (lv_at hl 2 rfl) ?_
          refine lv_aload_n hx hb dX2_searched_117 rfl (lv_at hl 3 rfl) ?_
          refine lv_aload_n hx hb dX2_searched_118 rfl (lv_at hl 4 rfl) ?_
          refine lv_iload_n hx hb dX2_searched_119 rfl (lv_at hl 5 rfl) ?_
          refine lv_iconst (v := 1) hx hb dX2_searched_120 (by decide +kernel) ?_
          refine lv_iadd hx hb dX2_searched_121 ?_
          refine lv_topi (fun z_15 ez_15 => ?_)
          have ez_15 : z_15 = nI (e9 + 1) := by rw [ez_15]; exact nI_1 _
          subst ez_15
          refine lv_iload hx hb dX2_searched_122 (lv_at hl 6 rfl) ?_
          refine lv_iload hx hb dX2_searched_124 (lv_at hl 0 rfl) ?_
          refine lv_iload hx hb dX2_searched_126 (lv_at hl 8 rfl) ?_
          refine kx_goi (va_runV (As := [.ref g, .ref g2, .int (nI (e9 + 1)), .int (nI S), .int (nI fd), .int (nI lim)]) (rest := []) ⟨hx, hb, hml, hown, hts⟩ (ih d1 hd1 w0 _ b o a1 a8 f ra pa rows parts k hF hR hT f2 rb pb rows2 parts2 kk hF2 hR2 hT2 hO qg g ga gb L wt n vv oo hG hL hW qh g2 ma mb M wt2 vv2 oo2 hG2 hL2 hW2 hag hah hn hLb hMb (e9 + 1) S fd lim (by omega) (fun i hi => hSz i (by omega)) (fo_ag_ok hfo1 (fo_ag_rf _ _ _)) (fo_ag_ok hfo2 (fo_ag_rf _ _ _)) (fo_ag_row (p := parts) (p' := parts) hrow1 (fo_ag_rf _ _ _)) (fo_ag_row (p := parts2) (p' := parts2) hrow2 (fo_ag_rf _ _ _)) hfd hlim hlb) ⟨(kg_B (k := 6) hts tw_226 tw_223 tw_19 (by decide +kernel) rfl rfl ⟨by show 4 + d1 + 1 ≤ 4 + d; omega, by show (8 : Nat) + (9 + 11) + (100 + 28 * d1) ≤ 100 + 28 * d; omega⟩), hts _ tw_225, hts _ tw_5⟩ (kx_preV hN hK hP hD rfl hO) rfl rfl hl.1 rfl (lv_room (Nat.le_of_ble_eq_true rfl)) dX2_searched_128 ⟨Nat.zero_le _, Nat.zero_le _⟩) hD hS hA (fun r_17 u_18 H locs hp_16 hP hD hS => ?_)
          obtain ⟨res2, er, hsub2, hsp2, so1, st1, so2, st2, hF9, hF8, hag1b, hag2b, hq⟩ := hp_16
          subst er
          have hfr : kx_fr w0 u_18 (fun j => b + 2 ≤ j ∧ j < b + 8) := kx_fr_tr hfr hq
          exact kx_iret (v := nI res2) hx hb hr rfl hlocks hK hP hD hS dX2_searched_131 (⟨res2, rfl, hsub2, se_out hSe (fun J hJ => se_no1 hlt ((fo_rest_iff hfo1 _).mp h01) hSz hJ) hsp2, so1, st1, so2, st2, hF9, hF8, fo_ag_tr (fo_ag_rf _ _ _) hag1b, fo_ag_tr (fo_ag_rf _ _ _) hag2b, hfr⟩)
        · skip
          exact absurd rfl c_61
      · skip
        subst er
        obtain ⟨hF9, hR9, hT9⟩ := hF9
        have hq5 : True := trivial
        obtain hq6 := hq5
        have f_19 : u_14[b]? = some (o, .inr (2, [.ref a1, .ref f, .ref f2, .ref a8])) := by rw [hq _ (by omega)]; exact hO
        have f_20 : u_14[b + 2]? = some (f, .inr (0, [.ref ra, .ref pa, .int (nI (k + 1))])) := hF9
        have f_21 : u_14[b + 2 + 1]? = some (ra, .inl (k0 0, 12, .inl (fun y9 => nI ((fo_up rows k (fo_rest rows (L e9) k)) y9)))) := hR9
        have f_22 : u_14[b + 2 + 2]? = some (pa, .inl (k0 0, 12, .inl (fun y9 => nI ((fo_up parts k (fo_way rows parts (L e9) k ^^^ 2 ^ e9)) y9)))) := hT9
        have f_23 : u_14[b + 5]? = some (f2, .inr (0, [.ref rb, .ref pb, .int (nI kk)])) := by rw [hq _ (by omega)]; exact hF2
        have f_24 : u_14[b + 5 + 1]? = some (rb, .inl (k0 0, 12, .inl (fun y9 => nI (rows2 y9)))) := by rw [hq _ (by omega)]; exact hR2
        have f_25 : u_14[b + 5 + 2]? = some (pb, .inl (k0 0, 12, .inl (fun y9 => nI (parts2 y9)))) := by rw [hq _ (by omega)]; exact hT2
        have f_26 : u_14[qg]? = some (g, .inr (1, [.ref ga, .ref gb, .int (nI n), .int vv, .int oo])) := by rw [hq _ (by omega)]; exact hG
        have f_27 : u_14[qg + 1]? = some (ga, .inl (k0 0, 12, .inl (fun y9 => nI (L y9)))) := by rw [hq _ (by omega)]; exact hL
        have f_28 : u_14[qg + 2]? = some (gb, .inl (k0 0, 12, .inl wt)) := by rw [hq _ (by omega)]; exact hW
        have f_29 : u_14[qh]? = some (g2, .inr (1, [.ref ma, .ref mb, .int (nI n), .int vv2, .int oo2])) := by rw [hq _ (by omega)]; exact hG2
        have f_30 : u_14[qh + 1]? = some (ma, .inl (k0 0, 12, .inl (fun y9 => nI (M y9)))) := by rw [hq _ (by omega)]; exact hL2
        have f_31 : u_14[qh + 2]? = some (mb, .inl (k0 0, 12, .inl wt2)) := by rw [hq _ (by omega)]; exact hW2
        have hfr : kx_fr w0 u_14 (fun j => b + 2 ≤ j ∧ j < b + 8) := kx_fr_tr hfr (kx_fr_mono hq (fun j h => by omega))
        have hfo1b := fo_take hfo1 hlt h01
        have hkr1 := fo_room hfo1 hlt h01
        have hrow1b := fo_up_row hrow1 (fo_rest_lt (hLb e9 hlt) hrow1 k (Nat.le_refl k))
        refine lv_if_eq (tgt := 116) hx hb dX2_searched_61 (by decide) (fun c_61 => ?_) (fun c_61 => ?_)
        · skip
          exact absurd c_61 (by decide)
        · skip
          refine lv_aload_n hx hb dX2_searched_64 rfl (lv_at hl 2 rfl) ?_
          refine va_get (D := D) (ci := 2) (v := .ref f2) (C := RX2) (T := TX2) (N := 4) hx hb hts inX2 hown hK hP b f_19 rfl 2 (by decide) (hts _ tw_80) (fun _ h9 => h9) rfl dX2_searched_65 ?_
          refine lv_iload_n hx hb dX2_searched_68 rfl (lv_at hl 5 rfl) ?_
          refine lv_aload_n hx hb dX2_searched_69 rfl (lv_at hl 4 rfl) ?_
          refine va_get (D := D) (ci := 1) (v := .ref ma) (C := RX1) (T := TX1) (N := 5) hx hb hts inX1 hown hK hP qh f_29 rfl 0 (by decide) (hts _ tw_59) (fun _ h9 => h9) rfl dX2_searched_70 ?_
          refine lv_iload_n hx hb dX2_searched_73 rfl (lv_at hl 5 rfl) ?_
          refine kx_nald hx hb hK hP (qh + 1) f_30 rfl (i := e9) (by omega) (by decide) dX2_searched_74 ?_
          refine kx_goi (va_runV (As := [.int (nI e9), .int (nI (M e9))]) (rest := []) ⟨hx, hb, hml, hown, hts⟩ (c_takes l D k0 u_14 _ (b + 5) f2 rb pb rows2 parts2 kk f_23 f_24 f_25 (by omega) hrow2 e9 (M e9) (by omega) (hMb e9 hlt) (fun h => by have := fo_room hfo2 hlt h; omega)) ⟨(kg_B (k := 2) hts tw_147 tw_209 tw_20 (by decide +kernel) rfl rfl ⟨by show (2 : Nat) + 1 ≤ 4 + d; omega, by show (8 : Nat) + (4 + 11) + 48 ≤ 100 + 28 * d; omega⟩), hts _ tw_145, hts _ tw_146⟩ (kx_preV hN hK hP hD rfl f_23) rfl rfl hl.1 rfl (lv_room (Nat.le_of_ble_eq_true rfl)) dX2_searched_75 ⟨Nat.zero_le _, Nat.zero_le _⟩) hD hS hA (fun r_33 u_34 H locs hp_32 hP hD hS => ?_)
          rcases hp_32 with ⟨h02, er, eu⟩ | ⟨h02, er, hF9, hq⟩
          · skip
            subst er
            rw [eu] at hP hD
            refine lv_if_eq (tgt := 109) hx hb dX2_searched_78 (by decide) (fun c_78 => ?_) (fun c_78 => ?_)
            · skip
              refine lv_aload_n hx hb dX2_searched_109 rfl (lv_at hl 2 rfl) ?_
              refine va_get (D := D) (ci := 2) (v := .ref f) (C := RX2) (T := TX2) (N := 4) hx hb hts inX2 hown hK hP b f_19 rfl 1 (by decide) (hts _ tw_79) (fun _ h9 => h9) rfl dX2_searched_110 ?_
              refine kx_gov (va_runV (As := []) (rest := []) ⟨hx, hb, hml, hown, hts⟩ (c_drop l D k0 u_14 _ (b + 2) f ra pa (fo_up rows k (fo_rest rows (L e9) k)) (fo_up parts k (fo_way rows parts (L e9) k ^^^ 2 ^ e9)) (k + 1) f_20 f_21 f_22 (by omega) (by omega)) ⟨(kg_B (k := 0) hts tw_230 tw_227 tw_20 (by decide +kernel) rfl rfl ⟨by show (0 : Nat) + 1 ≤ 4 + d; omega, by show (8 : Nat) + (1 + 11) + 0 ≤ 100 + 28 * d; omega⟩), hts _ tw_228, hts _ tw_229⟩ (kx_preV hN hK hP hD rfl f_20) rfl rfl hl.1 rfl (lv_room (Nat.le_of_ble_eq_true rfl)) dX2_searched_113 ⟨Nat.zero_le _, Nat.zero_le _⟩) hD hS hA (fun u_37 H locs hp_35 hP hD hS => ?_)
              obtain ⟨⟨hF9, hR9, hT9⟩, hq⟩ := hp_35
              have f_38 : u_37[b]? = some (o, .inr (2, [.ref a1, .ref f, .ref f2, .ref a8])) := by rw [hq _ (by omega)]; exact f_19
              have f_39 : u_37[b + 2]? = some (f, .inr (0, [.ref ra, .ref pa, .int (nI k)])) := hF9
              have f_40 : u_37[b + 2 + 1]? = some (ra, .inl (k0 0, 12, .inl (fun y9 => nI ((fo_up rows k (fo_rest rows (L e9) k)) y9)))) := hR9
              have f_41 : u_37[b + 2 + 2]? = some (pa, .inl (k0 0, 12, .inl (fun y9 => nI ((fo_up parts k (fo_way rows parts (L e9) k ^^^ 2 ^ e9)) y9)))) := hT9
              have f_42 : u_37[b + 5]? = some (f2, .inr (0, [.ref rb, .ref pb, .int (nI kk)])) := by rw [hq _ (by omega)]; exact f_23
              have f_43 : u_37[b + 5 + 1]? = some (rb, .inl (k0 0, 12, .inl (fun y9 => nI (rows2 y9)))) := by rw [hq _ (by omega)]; exact f_24
              have f_44 : u_37[b + 5 + 2]? = some (pb, .inl (k0 0, 12, .inl (fun y9 => nI (parts2 y9)))) := by rw [hq _ (by omega)]; exact f_25
              have f_45 : u_37[qg]? = some (g, .inr (1, [.ref ga, .ref gb, .int (nI n), .int vv, .int oo])) := by rw [hq _ (by omega)]; exact f_26
              have f_46 : u_37[qg + 1]? = some (ga, .inl (k0 0, 12, .inl (fun y9 => nI (L y9)))) := by rw [hq _ (by omega)]; exact f_27
              have f_47 : u_37[qg + 2]? = some (gb, .inl (k0 0, 12, .inl wt)) := by rw [hq _ (by omega)]; exact f_28
              have f_48 : u_37[qh]? = some (g2, .inr (1, [.ref ma, .ref mb, .int (nI n), .int vv2, .int oo2])) := by rw [hq _ (by omega)]; exact f_29
              have f_49 : u_37[qh + 1]? = some (ma, .inl (k0 0, 12, .inl (fun y9 => nI (M y9)))) := by rw [hq _ (by omega)]; exact f_30
              have f_50 : u_37[qh + 2]? = some (mb, .inl (k0 0, 12, .inl wt2)) := by rw [hq _ (by omega)]; exact f_31
              have hfr : kx_fr w0 u_37 (fun j => b + 2 ≤ j ∧ j < b + 8) := kx_fr_tr hfr (kx_fr_mono hq (fun j h => by omega))
              refine lv_aload_n hx hb dX2_searched_116 rfl (lv_at hl 2 rfl) ?_
              refine lv_aload_n hx hb dX2_searched_117 rfl (lv_at hl 3 rfl) ?_
              refine lv_aload_n hx hb dX2_searched_118 rfl (lv_at hl 4 rfl) ?_
              refine lv_iload_n hx hb dX2_searched_119 rfl (lv_at hl 5 rfl) ?_
              refine lv_iconst (v := 1) hx hb dX2_searched_120 (by decide +kernel) ?_
              refine lv_iadd hx hb dX2_searched_121 ?_
              refine lv_topi (fun z_51 ez_51 => ?_)
              have ez_51 : z_51 = nI (e9 + 1) := by rw [ez_51]; exact nI_1 _
              subst ez_51
              refine lv_iload hx hb dX2_searched_122 (lv_at hl 6 rfl) ?_
              refine lv_iload hx hb dX2_searched_124 (lv_at hl 0 rfl) ?_
              refine lv_iload hx hb dX2_searched_126 (lv_at hl 8 rfl) ?_
              refine kx_goi (va_runV (As := [.ref g, .ref g2, .int (nI (e9 + 1)), .int (nI S), .int (nI fd), .int (nI lim)]) (rest := []) ⟨hx, hb, hml, hown, hts⟩ (ih d1 hd1 u_37 _ b o a1 a8 f ra pa (fo_up rows k (fo_rest rows (L e9) k)) (fo_up parts k (fo_way rows parts (L e9) k ^^^ 2 ^ e9)) k f_39 f_40 f_41 f2 rb pb rows2 parts2 kk f_42 f_43 f_44 f_38 qg g ga gb L wt n vv oo f_45 f_46 f_47 qh g2 ma mb M wt2 vv2 oo2 f_48 f_49 f_50 hag hah hn hLb hMb (e9 + 1) S fd lim (by omega) (fun i hi => hSz i (by omega)) (fo_ag_ok hfo1 (fo_ag_up _ _ _ _ _)) (fo_ag_ok hfo2 (fo_ag_rf _ _ _)) (fo_ag_row (p := parts) (p' := fo_up parts k (fo_way rows parts (L e9) k ^^^ 2 ^ e9)) hrow1 (fo_ag_up _ _ _ _ _)) (fo_ag_row (p := parts2) (p' := parts2) hrow2 (fo_ag_rf _ _ _)) hfd hlim hlb) ⟨(kg_B (k := 6) hts tw_226 tw_223 tw_19 (by decide +kernel) rfl rfl ⟨by show 4 + d1 + 1 ≤ 4 + d; omega, by show (8 : Nat) + (9 + 11) + (100 + 28 * d1) ≤ 100 + 28 * d; omega⟩), hts _ tw_225, hts _ tw_5⟩ (kx_preV hN hK hP hD rfl f_38) rfl rfl hl.1 rfl (lv_room (Nat.le_of_ble_eq_true rfl)) dX2_searched_128 ⟨Nat.zero_le _, Nat.zero_le _⟩) hD hS hA (fun r_53 u_54 H locs hp_52 hP hD hS => ?_)
              obtain ⟨res2, er, hsub2, hsp2, so1, st1, so2, st2, hF9, hF8, hag1b, hag2b, hq⟩ := hp_52
              subst er
              have hfr : kx_fr w0 u_54 (fun j => b + 2 ≤ j ∧ j < b + 8) := kx_fr_tr hfr hq
              exact kx_iret (v := nI res2) hx hb hr rfl hlocks hK hP hD hS dX2_searched_131 (⟨res2, rfl, hsub2, se_out hSe (fun J hJ => se_no2 hlt ((fo_rest_iff hfo2 _).mp h02) hSz hJ) hsp2, so1, st1, so2, st2, hF9, hF8, fo_ag_tr (fo_ag_up _ _ _ _ _) hag1b, fo_ag_tr (fo_ag_rf _ _ _) hag2b, hfr⟩)
            · skip
              exact absurd rfl c_78
          · skip
            subst er
            obtain ⟨hF9, hR9, hT9⟩ := hF9
            have hq5 : True := trivial
            obtain hq6 := hq5
            have f_55 : u_34[b]? = some (o, .inr (2, [.ref a1, .ref f, .ref f2, .ref a8])) := by rw [hq _ (by omega)]; exact f_19
            have f_56 : u_34[b + 2]? = some (f, .inr (0, [.ref ra, .ref pa, .int (nI (k + 1))])) := by rw [hq _ (by omega)]; exact f_20
            have f_57 : u_34[b + 2 + 1]? = some (ra, .inl (k0 0, 12, .inl (fun y9 => nI ((fo_up rows k (fo_rest rows (L e9) k)) y9)))) := by rw [hq _ (by omega)]; exact f_21
            have f_58 : u_34[b + 2 + 2]? = some (pa, .inl (k0 0, 12, .inl (fun y9 => nI ((fo_up parts k (fo_way rows parts (L e9) k ^^^ 2 ^ e9)) y9)))) := by rw [hq _ (by omega)]; exact f_22
            have f_59 : u_34[b + 5]? = some (f2, .inr (0, [.ref rb, .ref pb, .int (nI (kk + 1))])) := hF9
            have f_60 : u_34[b + 5 + 1]? = some (rb, .inl (k0 0, 12, .inl (fun y9 => nI ((fo_up rows2 kk (fo_rest rows2 (M e9) kk)) y9)))) := hR9
            have f_61 : u_34[b + 5 + 2]? = some (pb, .inl (k0 0, 12, .inl (fun y9 => nI ((fo_up parts2 kk (fo_way rows2 parts2 (M e9) kk ^^^ 2 ^ e9)) y9)))) := hT9
            have f_62 : u_34[qg]? = some (g, .inr (1, [.ref ga, .ref gb, .int (nI n), .int vv, .int oo])) := by rw [hq _ (by omega)]; exact f_26
            have f_63 : u_34[qg + 1]? = some (ga, .inl (k0 0, 12, .inl (fun y9 => nI (L y9)))) := by rw [hq _ (by omega)]; exact f_27
            have f_64 : u_34[qg + 2]? = some (gb, .inl (k0 0, 12, .inl wt)) := by rw [hq _ (by omega)]; exact f_28
            have f_65 : u_34[qh]? = some (g2, .inr (1, [.ref ma, .ref mb, .int (nI n), .int vv2, .int oo2])) := by rw [hq _ (by omega)]; exact f_29
            have f_66 : u_34[qh + 1]? = some (ma, .inl (k0 0, 12, .inl (fun y9 => nI (M y9)))) := by rw [hq _ (by omega)]; exact f_30
            have f_67 : u_34[qh + 2]? = some (mb, .inl (k0 0, 12, .inl wt2)) := by rw [hq _ (by omega)]; exact f_31
            have hfr : kx_fr w0 u_34 (fun j => b + 2 ≤ j ∧ j < b + 8) := kx_fr_tr hfr (kx_fr_mono hq (fun j h => by omega))
            have hfo2b := fo_take hfo2 hlt h02
            have hkr2 := fo_room hfo2 hlt h02
            have hrow2b := fo_up_row hrow2 (fo_rest_lt (hMb e9 hlt) hrow2 kk (Nat.le_refl kk))
            refine lv_if_eq (tgt := 109) hx hb dX2_searched_78 (by decide) (fun c_78 => ?_) (fun c_78 => ?_)
            · skip
              exact absurd c_78 (by decide)
            · skip
              refine lv_aload_n hx hb dX2_searched_81 rfl (lv_at hl 2 rfl) ?_
              refine lv_aload_n hx hb dX2_searched_82 rfl (lv_at hl 3 rfl) ?_
              refine lv_aload_n hx hb dX2_searched_83 rfl (lv_at hl 4 rfl) ?_
              refine lv_iload_n hx hb dX2_searched_84 rfl (lv_at hl 5 rfl) ?_
              refine lv_iconst (v := 1) hx hb dX2_searched_85 (by decide +kernel) ?_
              refine lv_iadd hx hb dX2_searched_86 ?_
              refine lv_topi (fun z_68 ez_68 => ?_)
              have ez_68 : z_68 = nI (e9 + 1) := by rw [ez_68]; exact nI_1 _
              subst ez_68
              refine lv_iload hx hb dX2_searched_87 (lv_at hl 6 rfl) ?_
              refine lv_iconst (v := 1) hx hb dX2_searched_89 (by decide +kernel) ?_
              refine lv_iload_n hx hb dX2_searched_90 rfl (lv_at hl 5 rfl) ?_
              refine lv_ishl hx hb dX2_searched_91 ?_
              refine lv_topi (fun z_69 ez_69 => ?_)
              have ez_69 : z_69 = nI (2 ^ e9) := by rw [ez_69]; exact kb_one (by omega)
              subst ez_69
              refine lv_ior hx hb dX2_searched_92 ?_
              refine lv_topi (fun z_70 ez_70 => ?_)
              have ez_70 : z_70 = nI (S ||| 2 ^ e9) := by rw [ez_70]; exact kb_or _ _
              subst ez_70
              refine lv_iload hx hb dX2_searched_93 (lv_at hl 7 rfl) ?_
              refine lv_iload hx hb dX2_searched_95 (lv_at hl 8 rfl) ?_
              refine kx_goi (va_runV (As := [.ref g, .ref g2, .int (nI (e9 + 1)), .int (nI (S ||| 2 ^ e9)), .int (nI fd), .int (nI lim)]) (rest := []) ⟨hx, hb, hml, hown, hts⟩ (ih d1 hd1 u_34 _ b o a1 a8 f ra pa (fo_up rows k (fo_rest rows (L e9) k)) (fo_up parts k (fo_way rows parts (L e9) k ^^^ 2 ^ e9)) (k + 1) f_56 f_57 f_58 f2 rb pb (fo_up rows2 kk (fo_rest rows2 (M e9) kk)) (fo_up parts2 kk (fo_way rows2 parts2 (M e9) kk ^^^ 2 ^ e9)) (kk + 1) f_59 f_60 f_61 f_55 qg g ga gb L wt n vv oo f_62 f_63 f_64 qh g2 ma mb M wt2 vv2 oo2 f_65 f_66 f_67 hag hah hn hLb hMb (e9 + 1) (S ||| 2 ^ e9) fd lim (by omega) (fun i hi => by
                  rw [cf_add_bit, hSz i (by omega)]
                  have : ¬ e9 = i := by omega
                  simp [this]) hfo1b hfo2b hrow1b hrow2b hfd hlim hlb) ⟨(kg_B (k := 6) hts tw_226 tw_223 tw_19 (by decide +kernel) rfl rfl ⟨by show 4 + d1 + 1 ≤ 4 + d; omega, by show (8 : Nat) + (9 + 11) + (100 + 28 * d1) ≤ 100 + 28 * d; omega⟩), hts _ tw_225, hts _ tw_5⟩ (kx_preV hN hK hP hD rfl f_55) rfl rfl hl.1 rfl (lv_room (Nat.le_of_ble_eq_true rfl)) dX2_searched_97 ⟨Nat.zero_le _, Nat.zero_le _⟩) hD hS hA (fun r_72 u_73 H locs hp_71 hP hD hS => ?_)
              obtain ⟨res1, er, hsub1, hsp1, ro1, pt1, ro2, pt2, ⟨hF9, hR9, hT9⟩, ⟨hF8, hR8, hT8⟩, hag1, hag2, hq⟩ := hp_71
              subst er
              have hq5 : True := trivial
              obtain hq6 := hq5
              have f_74 : u_73[b]? = some (o, .inr (2, [.ref a1, .ref f, .ref f2, .ref a8])) := by rw [hq _ (by omega)]; exact f_55
              have f_75 : u_73[b + 2]? = some (f, .inr (0, [.ref ra, .ref pa, .int (nI (k + 1))])) := hF9
              have f_76 : u_73[b + 2 + 1]? = some (ra, .inl (k0 0, 12, .inl (fun y9 => nI (ro1 y9)))) := hR9
              have f_77 : u_73[b + 2 + 2]? = some (pa, .inl (k0 0, 12, .inl (fun y9 => nI (pt1 y9)))) := hT9
              have f_78 : u_73[b + 5]? = some (f2, .inr (0, [.ref rb, .ref pb, .int (nI (kk + 1))])) := hF8
              have f_79 : u_73[b + 5 + 1]? = some (rb, .inl (k0 0, 12, .inl (fun y9 => nI (ro2 y9)))) := hR8
              have f_80 : u_73[b + 5 + 2]? = some (pb, .inl (k0 0, 12, .inl (fun y9 => nI (pt2 y9)))) := hT8
              have f_81 : u_73[qg]? = some (g, .inr (1, [.ref ga, .ref gb, .int (nI n), .int vv, .int oo])) := by rw [hq _ (by omega)]; exact f_62
              have f_82 : u_73[qg + 1]? = some (ga, .inl (k0 0, 12, .inl (fun y9 => nI (L y9)))) := by rw [hq _ (by omega)]; exact f_63
              have f_83 : u_73[qg + 2]? = some (gb, .inl (k0 0, 12, .inl wt)) := by rw [hq _ (by omega)]; exact f_64
              have f_84 : u_73[qh]? = some (g2, .inr (1, [.ref ma, .ref mb, .int (nI n), .int vv2, .int oo2])) := by rw [hq _ (by omega)]; exact f_65
              have f_85 : u_73[qh + 1]? = some (ma, .inl (k0 0, 12, .inl (fun y9 => nI (M y9)))) := by rw [hq _ (by omega)]; exact f_66
              have f_86 : u_73[qh + 2]? = some (mb, .inl (k0 0, 12, .inl wt2)) := by rw [hq _ (by omega)]; exact f_67
              have hfr : kx_fr w0 u_73 (fun j => b + 2 ≤ j ∧ j < b + 8) := kx_fr_tr hfr (kx_fr_mono hq (fun j h => h))
              refine lv_istore (lv' := [(8, .int (nI res1)), (7, .int (nI (min lim (cf_card n S + n - e9)))), (0, .ref o), (1, .ref g), (2, .ref g2), (3, .int (nI e9)), (4, .int (nI S)), (5, .int (nI fd)), (6, .int (nI lim))]) hx hb dX2_searched_100 hl (by decide) rfl (fun ls hl => ?_)
              refine lv_aload_n hx hb dX2_searched_102 rfl (lv_at hl 2 rfl) ?_
              refine va_get (D := D) (ci := 2) (v := .ref f2) (C := RX2) (T := TX2) (N := 4) hx hb hts inX2 hown hK hP b f_74 rfl 2 (by decide) (hts _ tw_80) (fun _ h9 => h9) rfl dX2_searched_103 ?_
              refine kx_gov (va_runV (As := []) (rest := []) ⟨hx, hb, hml, hown, hts⟩ (c_drop l D k0 u_73 _ (b + 5) f2 rb pb ro2 pt2 (kk + 1) f_78 f_79 f_80 (by omega) (by omega)) ⟨(kg_B (k := 0) hts tw_230 tw_227 tw_20 (by decide +kernel) rfl rfl ⟨by show (0 : Nat) + 1 ≤ 4 + d; omega, by show (8 : Nat) + (1 + 11) + 0 ≤ 100 + 28 * d; omega⟩), hts _ tw_228, hts _ tw_229⟩ (kx_preV hN hK hP hD rfl f_78) rfl rfl hl.1 rfl (lv_room (Nat.le_of_ble_eq_true rfl)) dX2_searched_106 ⟨Nat.zero_le _, Nat.zero_le _⟩) hD hS hA (fun u_89 H locs hp_87 hP hD hS => ?_)
              obtain ⟨⟨hF9, hR9, hT9⟩, hq⟩ := hp_87
              have f_90 : u_89[b]? = some (o, .inr (2, [.ref a1, .ref f, .ref f2, .ref a8])) := by rw [hq _ (by omega)]; exact f_74
              have f_91 : u_89[b + 2]? = some (f, .inr (0, [.ref ra, .ref pa, .int (nI (k + 1))])) := by rw [hq _ (by omega)]; exact f_75
              have f_92 : u_89[b + 2 + 1]? = some (ra, .inl (k0 0, 12, .inl (fun y9 => nI (ro1 y9)))) := by rw [hq _ (by omega)]; exact f_76
              have f_93 : u_89[b + 2 + 2]? = some (pa, .inl (k0 0, 12, .inl (fun y9 => nI (pt1 y9)))) := by rw [hq _ (by omega)]; exact f_77
              have f_94 : u_89[b + 5]? = some (f2, .inr (0, [.ref rb, .ref pb, .int (nI kk)])) := hF9
              have f_95 : u_89[b + 5 + 1]? = some (rb, .inl (k0 0, 12, .inl (fun y9 => nI (ro2 y9)))) := hR9
              have f_96 : u_89[b + 5 + 2]? = some (pb, .inl (k0 0, 12, .inl (fun y9 => nI (pt2 y9)))) := hT9
              have f_97 : u_89[qg]? = some (g, .inr (1, [.ref ga, .ref gb, .int (nI n), .int vv, .int oo])) := by rw [hq _ (by omega)]; exact f_81
              have f_98 : u_89[qg + 1]? = some (ga, .inl (k0 0, 12, .inl (fun y9 => nI (L y9)))) := by rw [hq _ (by omega)]; exact f_82
              have f_99 : u_89[qg + 2]? = some (gb, .inl (k0 0, 12, .inl wt)) := by rw [hq _ (by omega)]; exact f_83
              have f_100 : u_89[qh]? = some (g2, .inr (1, [.ref ma, .ref mb, .int (nI n), .int vv2, .int oo2])) := by rw [hq _ (by omega)]; exact f_84
              have f_101 : u_89[qh + 1]? = some (ma, .inl (k0 0, 12, .inl (fun y9 => nI (M y9)))) := by rw [hq _ (by omega)]; exact f_85
              have f_102 : u_89[qh + 2]? = some (mb, .inl (k0 0, 12, .inl wt2)) := by rw [hq _ (by omega)]; exact f_86
              have hfr : kx_fr w0 u_89 (fun j => b + 2 ≤ j ∧ j < b + 8) := kx_fr_tr hfr (kx_fr_mono hq (fun j h => by omega))
              refine lv_aload_n hx hb dX2_searched_109 rfl (lv_at hl 2 rfl) ?_
              refine va_get (D := D) (ci := 2) (v := .ref f) (C := RX2) (T := TX2) (N := 4) hx hb hts inX2 hown hK hP b f_90 rfl 1 (by decide) (hts _ tw_79) (fun _ h9 => h9) rfl dX2_searched_110 ?_
              refine kx_gov (va_runV (As := []) (rest := []) ⟨hx, hb, hml, hown, hts⟩ (c_drop l D k0 u_89 _ (b + 2) f ra pa ro1 pt1 (k + 1) f_91 f_92 f_93 (by omega) (by omega)) ⟨(kg_B (k := 0) hts tw_230 tw_227 tw_20 (by decide +kernel) rfl rfl ⟨by show (0 : Nat) + 1 ≤ 4 + d; omega, by show (8 : Nat) + (1 + 11) + 0 ≤ 100 + 28 * d; omega⟩), hts _ tw_228, hts _ tw_229⟩ (kx_preV hN hK hP hD rfl f_91) rfl rfl hl.1 rfl (lv_room (Nat.le_of_ble_eq_true rfl)) dX2_searched_113 ⟨Nat.zero_le _, Nat.zero_le _⟩) hD hS hA (fun u_105 H locs hp_103 hP hD hS => ?_)
              obtain ⟨⟨hF9, hR9, hT9⟩, hq⟩ := hp_103
              have f_106 : u_105[b]? = some (o, .inr (2, [.ref a1, .ref f, .ref f2, .ref a8])) := by rw [hq _ (by omega)]; exact f_90
              have f_107 : u_105[b + 2]? = some (f, .inr (0, [.ref ra, .ref pa, .int (nI k)])) := hF9
              have f_108 : u_105[b + 2 + 1]? = some (ra, .inl (k0 0, 12, .inl (fun y9 => nI (ro1 y9)))) := hR9
              have f_109 : u_105[b + 2 + 2]? = some (pa, .inl (k0 0, 12, .inl (fun y9 => nI (pt1 y9)))) := hT9
              have f_110 : u_105[b + 5]? = some (f2, .inr (0, [.ref rb, .ref pb, .int (nI kk)])) := by rw [hq _ (by omega)]; exact f_94
              have f_111 : u_105[b + 5 + 1]? = some (rb, .inl (k0 0, 12, .inl (fun y9 => nI (ro2 y9)))) := by rw [hq _ (by omega)]; exact f_95
              have f_112 : u_105[b + 5 + 2]? = some (pb, .inl (k0 0, 12, .inl (fun y9 => nI (pt2 y9)))) := by rw [hq _ (by omega)]; exact f_96
              have f_113 : u_105[qg]? = some (g, .inr (1, [.ref ga, .ref gb, .int (nI n), .int vv, .int oo])) := by rw [hq _ (by omega)]; exact f_97
              have f_114 : u_105[qg + 1]? = some (ga, .inl (k0 0, 12, .inl (fun y9 => nI (L y9)))) := by rw [hq _ (by omega)]; exact f_98
              have f_115 : u_105[qg + 2]? = some (gb, .inl (k0 0, 12, .inl wt)) := by rw [hq _ (by omega)]; exact f_99
              have f_116 : u_105[qh]? = some (g2, .inr (1, [.ref ma, .ref mb, .int (nI n), .int vv2, .int oo2])) := by rw [hq _ (by omega)]; exact f_100
              have f_117 : u_105[qh + 1]? = some (ma, .inl (k0 0, 12, .inl (fun y9 => nI (M y9)))) := by rw [hq _ (by omega)]; exact f_101
              have f_118 : u_105[qh + 2]? = some (mb, .inl (k0 0, 12, .inl wt2)) := by rw [hq _ (by omega)]; exact f_102
              have hfr : kx_fr w0 u_105 (fun j => b + 2 ≤ j ∧ j < b + 8) := kx_fr_tr hfr (kx_fr_mono hq (fun j h => by omega))
              refine lv_aload_n hx hb dX2_searched_116 rfl (lv_at hl 2 rfl) ?_
              refine lv_aload_n hx hb dX2_searched_117 rfl (lv_at hl 3 rfl) ?_
              refine lv_aload_n hx hb dX2_searched_118 rfl (lv_at hl 4 rfl) ?_
              refine lv_iload_n hx hb dX2_searched_119 rfl (lv_at hl 5 rfl) ?_
              refine lv_iconst (v := 1) hx hb dX2_searched_120 (by decide +kernel) ?_
              refine lv_iadd hx hb dX2_searched_121 ?_
              refine lv_topi (fun z_119 ez_119 => ?_)
              have ez_119 : z_119 = nI (e9 + 1) := by rw [ez_119]; exact nI_1 _
              subst ez_119
              refine lv_iload hx hb dX2_searched_122 (lv_at hl 6 rfl) ?_
              refine lv_iload hx hb dX2_searched_124 (lv_at hl 0 rfl) ?_
              refine lv_iload hx hb dX2_searched_126 (lv_at hl 8 rfl) ?_
              refine kx_goi (va_runV (As := [.ref g, .ref g2, .int (nI (e9 + 1)), .int (nI S), .int (nI res1), .int (nI lim)]) (rest := []) ⟨hx, hb, hml, hown, hts⟩ (ih d1 hd1 u_105 _ b o a1 a8 f ra pa ro1 pt1 k f_107 f_108 f_109 f2 rb pb ro2 pt2 kk f_110 f_111 f_112 f_106 qg g ga gb L wt n vv oo f_113 f_114 f_115 qh g2 ma mb M wt2 vv2 oo2 f_116 f_117 f_118 hag hah hn hLb hMb (e9 + 1) S res1 lim (by omega) (fun i hi => hSz i (by omega)) (fo_ag_ok hfo1 (fo_ag_tr (fo_ag_up _ _ _ _ _) (fo_ag_lt hag1))) (fo_ag_ok hfo2 (fo_ag_tr (fo_ag_up _ _ _ _ _) (fo_ag_lt hag2))) (fo_ag_row (p := parts) (p' := pt1) hrow1 (fo_ag_tr (fo_ag_up _ _ _ _ _) (fo_ag_lt hag1))) (fo_ag_row (p := parts2) (p' := pt2) hrow2 (fo_ag_tr (fo_ag_up _ _ _ _ _) (fo_ag_lt hag2))) hsub1 hlim hlb) ⟨(kg_B (k := 6) hts tw_226 tw_223 tw_19 (by decide +kernel) rfl rfl ⟨by show 4 + d1 + 1 ≤ 4 + d; omega, by show (8 : Nat) + (9 + 11) + (100 + 28 * d1) ≤ 100 + 28 * d; omega⟩), hts _ tw_225, hts _ tw_5⟩ (kx_preV hN hK hP hD rfl f_106) rfl rfl hl.1 rfl (lv_room (Nat.le_of_ble_eq_true rfl)) dX2_searched_128 ⟨Nat.zero_le _, Nat.zero_le _⟩) hD hS hA (fun r_121 u_122 H locs hp_120 hP hD hS => ?_)
              obtain ⟨res2, er, hsub2, hsp2, so1, st1, so2, st2, hF9, hF8, hag1b, hag2b, hq⟩ := hp_120
              subst er
              have hfr : kx_fr w0 u_122 (fun j => b + 2 ≤ j ∧ j < b + 8) := kx_fr_tr hfr hq
              exact kx_iret (v := nI res2) hx hb hr rfl hlocks hK hP hD hS dX2_searched_131 (⟨res2, rfl, hsub2, se_in hSe hsp1 hsp2, so1, st1, so2, st2, hF9, hF8, fo_ag_tr (fo_ag_tr (fo_ag_up _ _ _ _ _) (fo_ag_lt hag1)) hag1b, fo_ag_tr (fo_ag_tr (fo_ag_up _ _ _ _ _) (fo_ag_lt hag2)) hag2b, hfr⟩)
    · skip
      have hen : e9 = n := by
        rcases Nat.lt_or_ge e9 n with h | h
        · exact absurd ((nI_ltI (by omega) (by omega)).mpr h) c_37
        · omega
      refine lv_iload hx hb dX2_searched_40 (lv_at hl 5 rfl) ?_
      exact kx_iret (v := nI S) hx hb hr rfl hlocks hK hP hD hS dX2_searched_42 (⟨S, rfl, hSs, by rw [hen]; exact se_leaf hSs hfo1.2.1 hfo2.2.1 (by omega), rows, parts, rows2, parts2, ⟨hF, hR, hT⟩, ⟨hF2, hR2, hT2⟩, fo_ag_rf _ _ _, fo_ag_rf _ _ _, hfr⟩)
  · skip
    have hre : min lim (cf_card n S + n - e9) ≤ cf_card n fd := by
      rcases Nat.lt_or_ge (cf_card n fd) (min lim (cf_card n S + n - e9)) with h | h
      · exact absurd ((nI_ltI (by omega) (by omega)).mpr h) c_26
      · exact h
    refine lv_iload hx hb dX2_searched_29 (lv_at hl 6 rfl) ?_
    exact kx_iret (v := nI fd) hx hb hr rfl hlocks hK hP hD hS dX2_searched_31 (⟨fd, rfl, hfd, se_prune (by omega) hSz hlim hre, rows, parts, rows2, parts2, ⟨hF, hR, hT⟩, ⟨hF2, hR2, hT2⟩, fo_ag_rf _ _ _, fo_ag_rf _ _ _, hfr⟩)

theorem c_searched (l : Launch) (D : va_G) (k0 : Nat → ClassId) : ∀ d, srC l D k0 d := by
  intro d
  induction d with
  | zero => intro w0 sz; exact c_srStep l D k0 0 (fun d1 h => by omega) w0 sz
  | succ d ih => intro w0 sz; exact c_srStep l D k0 (d + 1) (fun d1 h => by have : d = d1 := by omega
                                                                            rw [← this]; exact ih) w0 sz
