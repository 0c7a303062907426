/-- how many edges are left, and the lines that they get -/
def lv_c (S : Nat) : Nat → Nat
  | 0 => 0
  | e + 1 => if S.testBit e = true then lv_c S e else lv_c S e + 1
def lv_d (S : Nat) (R d : Nat → Nat) : Nat → Nat → Nat
  | 0 => d
  | e + 1 => if S.testBit e = true then lv_d S R d e else fo_up (lv_d S R d e) (lv_c S e) (R e)
theorem lv_c_in {S e : Nat} (h : S.testBit e = true) : lv_c S (e + 1) = lv_c S e := by simp only [lv_c]; rw [if_pos h]
theorem lv_c_out {S e : Nat} (h : S.testBit e = false) : lv_c S (e + 1) = lv_c S e + 1 := by simp only [lv_c]; rw [if_neg (by rw [h]; simp)]
theorem lv_d_in {S e : Nat} {R d : Nat → Nat} (h : S.testBit e = true) : lv_d S R d (e + 1) = lv_d S R d e := by simp only [lv_d]; rw [if_pos h]
theorem lv_d_out {S e : Nat} {R d : Nat → Nat} (h : S.testBit e = false) : lv_d S R d (e + 1) = fo_up (lv_d S R d e) (lv_c S e) (R e) := by simp only [lv_d]; rw [if_neg (by rw [h]; simp)]
theorem lv_c_le (S e : Nat) : lv_c S e ≤ e := by
  induction e with
  | zero => exact Nat.le_refl _
  | succ e ih => simp only [lv_c]; split <;> omega

set_option maxHeartbeats 4000000 in
set_option maxRecDepth 100000 in
/-- leave(to, g, set, joined) -/
theorem c_leave (l : Launch) (D : va_G) (k0 : Nat → ClassId)  (w0 : va_W) (sz : Nat) (b : Nat) (ad nE nV : Nat → Nat) (op : Nat → Int32) (LL : Nat → Nat → Nat) (ww : Nat → Nat → Int32) (hC : atC w0 b k0 ad nE nV op LL ww) (hI : cinv nE nV LL ww) (x y z jn : Int32) : kx_i l yX2_leave wsX2_leave ({ frames := 4, cells := 0, slots := 0, locals := 104 } : Room) D (tyL k0) w0 sz [.ref (ad 0), .int x, .int y, .int z, .int jn] (fun (r : Int32) (u : va_W) => ((∃ t i S, t < 8 ∧ i < 8 ∧ S ≤ cf_full (nE i) ∧ x = nI t ∧ y = nI i ∧ z = nI S ∧ r = nI (lv_c S (nE i)) ∧ ∃ (L9 : Nat → Nat) (f9 : Nat → Int32) (r1 p1 dr : Nat → Nat), atC u b k0 ad (va_up nE t (lv_c S (nE i))) (va_up nV t (nV t)) (va_up op t 0) (va_up LL t L9) (va_up ww t f9) ∧ (∀ j, j < lv_c S (nE i) → L9 j = lv_d S (fun e => fo_rest (fo_fill (LL i) (if jn = 0 then 0 else S) r1 p1 (nE i)).1 (LL i e) (fo_fill (LL i) (if jn = 0 then 0 else S) r1 p1 (nE i)).2.2) dr (nE i) j) ∧ ∀ j, j < lv_c S (nE i) → f9 j = 0) ∨ (¬ (∃ t i S, t < 8 ∧ i < 8 ∧ S ≤ cf_full (nE i) ∧ x = nI t ∧ y = nI i ∧ z = nI S) ∧ r = -1 ∧ u = w0)) ∧ kx_fr w0 u (fun j => b ≤ j ∧ j < b + 33)) 0 0 := by
  refine kx_of (Qf := fun A => va_Qi (fun (r : Int32) (u : va_W) => ((∃ t i S, t < 8 ∧ i < 8 ∧ S ≤ cf_full (nE i) ∧ x = nI t ∧ y = nI i ∧ z = nI S ∧ r = nI (lv_c S (nE i)) ∧ ∃ (L9 : Nat → Nat) (f9 : Nat → Int32) (r1 p1 dr : Nat → Nat), atC u b k0 ad (va_up nE t (lv_c S (nE i))) (va_up nV t (nV t)) (va_up op t 0) (va_up LL t L9) (va_up ww t f9) ∧ (∀ j, j < lv_c S (nE i) → L9 j = lv_d S (fun e => fo_rest (fo_fill (LL i) (if jn = 0 then 0 else S) r1 p1 (nE i)).1 (LL i e) (fo_fill (LL i) (if jn = 0 then 0 else S) r1 p1 (nE i)).2.2) dr (nE i) j) ∧ ∀ j, j < lv_c S (nE i) → f9 j = 0) ∨ (¬ (∃ t i S, t < 8 ∧ i < 8 ∧ S ≤ cf_full (nE i) ∧ x = nI t ∧ y = nI i ∧ z = nI S) ∧ r = -1 ∧ u = w0)) ∧ kx_fr w0 u (fun j => b ≤ j ∧ j < b + 33)) (kx_B D (tyL k0) A) A) (cc := cX2_leave) (maxL := 8) (ret := (some .int)) (by decide +kernel) (Nat.le_of_ble_eq_true rfl) ?_
  intro p e s m below meth c A ls hx hb hml hown hts hr hlocks hnm hN hK hP hD hS hA hl
  have hown : s.vm.findClass RX2 = some m.cls := hown
  have hl : lv_has ls 8 [(0, .ref (ad 0)), (1, .int x), (2, .int y), (3, .int z), (4, .int jn)] := hl
  have hfr : kx_fr w0 w0 (fun j => j = b + 2 ∨ j = b + 3 ∨ j = b + 4 ∨ j = b + 8) := kx_fr_rf _ _
  obtain ⟨hO, ⟨fq, hQ, hfq⟩, ⟨r1, p1, k1, hF1, hR1, hT1⟩, ⟨r2, p2, k2, hF2, hR2, hT2⟩, ⟨dr, hd⟩, hgs⟩ := id hC
  refine lv_iload_n hx hb dX2_leave_0 rfl (lv_at hl 1 rfl) ?_
  refine kx_goi (va_runS (As := [.int x]) (rest := []) ⟨hx, hb, hml, hown, hts⟩ (c_isGraph l D k0 w0 _ x) ⟨(kg_B (k := 1) hts tw_97 tw_95 tw_19 (by decide +kernel) rfl rfl ⟨Nat.le_of_ble_eq_true rfl, Nat.le_of_ble_eq_true rfl⟩), hts _ tw_96⟩ (kx_preS hN hK hP hD) rfl rfl hl.1 rfl (lv_room (Nat.le_of_ble_eq_true rfl)) dX2_leave_1 ⟨Nat.le_of_ble_eq_true rfl, Nat.le_of_ble_eq_true rfl⟩) hD hS hA (fun r_2 u_3 H locs hp_1 hP hD hS => ?_)
  obtain ⟨hy_x, eu⟩ := hp_1
  rw [eu] at hP hD
  refine lv_if_eq (tgt := 16) hx hb dX2_leave_4 (by decide) (fun c_4 => ?_) (fun c_4 => ?_)
  · skip
    have hno0 := kg_0 hy_x c_4
    have hno : ¬ (∃ t i S, t < 8 ∧ i < 8 ∧ S ≤ cf_full (nE i) ∧ x = nI t ∧ y = nI i ∧ z = nI S) := fun ⟨t, _, _, h1, _, _, h2, _⟩ => hno0 ⟨t, h1, h2⟩
    refine lv_iconst (v := -1) hx hb dX2_leave_16 (by decide +kernel) ?_
    exact kx_iret (v := -1) hx hb hr rfl hlocks hK hP hD hS dX2_leave_17 (⟨Or.inr ⟨hno, rfl, rfl⟩, kx_fr_rf _ _⟩)
  · skip
    obtain ⟨t, h8t, e_x⟩ := kg_1 hy_x c_4
    rw [e_x] at hl
    obtain ⟨hGt, hLt, hWt⟩ := hgs t h8t
    obtain ⟨hnt, hvt, hl2t, hw2t⟩ := hI t h8t
    refine lv_aload_n hx hb dX2_leave_7 rfl (lv_at hl 0 rfl) ?_
    refine lv_iload_n hx hb dX2_leave_8 rfl (lv_at hl 2 rfl) ?_
    refine lv_iload_n hx hb dX2_leave_9 rfl (lv_at hl 3 rfl) ?_
    refine kx_goi (va_runV (As := [.int y, .int z]) (rest := []) ⟨hx, hb, hml, hown, hts⟩ (c_isSet l D k0 w0 _ b ad nE nV op LL ww hC hI y z) ⟨(kg_B (k := 2) hts tw_129 tw_126 tw_19 (by decide +kernel) rfl rfl ⟨Nat.le_of_ble_eq_true rfl, Nat.le_of_ble_eq_true rfl⟩), hts _ tw_128, hts _ tw_1⟩ (kx_preV hN hK hP hD rfl hO) rfl rfl hl.1 rfl (lv_room (Nat.le_of_ble_eq_true rfl)) dX2_leave_10 ⟨Nat.le_of_ble_eq_true rfl, Nat.le_of_ble_eq_true rfl⟩) hD hS hA (fun r_5 u_6 H locs hp_4 hP hD hS => ?_)
    obtain ⟨hy_, eu⟩ := hp_4
    rw [eu] at hP hD
    refine lv_if_ne (tgt := 18) hx hb dX2_leave_13 (by decide) (fun c_13 => ?_) (fun c_13 => ?_)
    · skip
      obtain ⟨i, S, h8i, hSS, e_y, e_z⟩ := kg_1 hy_ c_13
      rw [e_y, e_z] at hl
      obtain ⟨hGi, hLi, hWi⟩ := hgs i h8i
      obtain ⟨hni, hvi, hl2i, hw2i⟩ := hI i h8i
      have hfl := kb_full_lt hni
      obtain ⟨SJ, eSJ⟩ : ∃ SJ : Nat, SJ = if jn = 0 then 0 else S := ⟨_, rfl⟩
      have hSJb : SJ < 2 ^ 31 := by rw [eSJ]; split <;> omega
      refine lv_aload_n hx hb dX2_leave_18 rfl (lv_at hl 0 rfl) ?_
      refine va_get (D := D) (ci := 2) (v := .ref (ad 1)) (C := RX2) (T := TX2) (N := 4) hx hb hts inX2 hown hK hP b hO rfl 0 (by decide) (hts _ tw_78) (fun _ h9 => h9) rfl dX2_leave_19 ?_
      refine lv_iload_n hx hb dX2_leave_22 rfl (lv_at hl 2 rfl) ?_
      refine kx_qald hx hb hK hP (b + 1) 1 hQ rfl (i := i) (r := (ad (9 + 3 * i))) (by omega) (by decide) (hfq _ (by omega)) dX2_leave_23 ?_
      refine lv_astore (lv' := [(5, .ref (ad (9 + 3 * i))), (0, .ref (ad 0)), (1, .int (nI t)), (2, .int (nI i)), (3, .int (nI S)), (4, .int jn)]) hx hb dX2_leave_24 hl (by decide) rfl (fun ls hl => ?_)
      refine lv_aload_n hx hb dX2_leave_26 rfl (lv_at hl 1 rfl) ?_
      refine va_get (D := D) (ci := 2) (v := .ref (ad 2)) (C := RX2) (T := TX2) (N := 4) hx hb hts inX2 hown hK hP b hO rfl 1 (by decide) (hts _ tw_79) (fun _ h9 => h9) rfl dX2_leave_27 ?_
      refine lv_aload hx hb dX2_leave_30 (lv_at hl 0 rfl) ?_
      refine lv_iload hx hb dX2_leave_32 (lv_at hl 5 rfl) ?_
      refine lv_if_eq (tgt := 41) hx hb dX2_leave_34 (by decide) (fun c_34 => ?_) (fun c_34 => ?_)
      · skip
        refine lv_iconst (v := nI 0) hx hb dX2_leave_41 (by decide +kernel) ?_
        refine lv_topi (fun z_7 ez_7 => ?_)
        have ez_7 : z_7 = nI SJ := by rw [ez_7]; rw [eSJ, if_pos c_34]
        subst ez_7
        refine kx_goi (va_runV (As := [.ref (ad (9 + 3 * i)), .int (nI SJ)]) (rest := []) ⟨hx, hb, hml, hown, hts⟩ (c_fill l D k0 w0 _ (b + 2) (ad 2) (ad 3) (ad 4) r1 p1 k1 hF1 hR1 hT1 (b + 9 + 3 * i) (ad (9 + 3 * i)) (ad (10 + 3 * i)) (ad (11 + 3 * i)) (LL i) (ww i) (nE i) (nI (nV i)) (op i) hGi hLi hWi (by omega) hni (fun j h => gl_lt (hl2i j h)) SJ hSJb) ⟨(kg_B (k := 2) hts tw_136 tw_133 tw_20 (by decide +kernel) rfl rfl ⟨Nat.le_of_ble_eq_true rfl, Nat.le_of_ble_eq_true rfl⟩), hts _ tw_134, hts _ tw_135⟩ (kx_preV hN hK hP hD rfl hF1) rfl rfl hl.1 rfl (lv_room (Nat.le_of_ble_eq_true rfl)) dX2_leave_42 ⟨Nat.le_of_ble_eq_true rfl, Nat.le_of_ble_eq_true rfl⟩) hD hS hA (fun r_9 u_10 H locs hp_8 hP hD hS => ?_)
        obtain ⟨FF, eFF⟩ : ∃ F : fo_St, F = fo_fill (LL i) SJ r1 p1 (nE i) := ⟨_, rfl⟩
        obtain ⟨hk1, hk2, _⟩ := fo_fill_bd (S := SJ) (rows := r1) (parts := p1) hni (fun j h => gl_lt (hl2i j h)) (nE i) (Nat.le_refl _)
        rw [← eFF] at hp_8 hk1 hk2
        obtain ⟨_, ⟨hF9, hR9, hT9⟩, hq⟩ := hp_8
        have f_11 : u_10[b]? = some (ad 0, .inr (2, [.ref (ad 1), .ref (ad 2), .ref (ad 5), .ref (ad 8)])) := by rw [hq _ (by omega)]; exact hO
        have f_12 : u_10[b + 1]? = some (ad 1, .inl (k0 1, 8, .inr (.inr (.inr (.inr fq))))) := by rw [hq _ (by omega)]; exact hQ
        have f_13 : u_10[b + 2]? = some (ad 2, .inr (0, [.ref (ad 3), .ref (ad 4), .int (nI FF.2.2)])) := hF9
        have f_14 : u_10[b + 2 + 1]? = some (ad 3, .inl (k0 0, 12, .inl (fun y9 => nI (FF.1 y9)))) := hR9
        have f_15 : u_10[b + 2 + 2]? = some (ad 4, .inl (k0 0, 12, .inl (fun y9 => nI (FF.2.1 y9)))) := hT9
        have f_16 : u_10[b + 8]? = some (ad 8, .inl (k0 0, 12, .inl (fun y9 => nI (dr y9)))) := by rw [hq _ (by omega)]; exact hd
        have f_17 : u_10[b + 9 + 3 * t]? = some (ad (9 + 3 * t), .inr (1, [.ref (ad (10 + 3 * t)), .ref (ad (11 + 3 * t)), .int (nI (nE t)), .int (nI (nV t)), .int (op t)])) := by rw [hq _ (by omega)]; exact hGt
        have f_18 : u_10[b + 9 + 3 * t + 1]? = some (ad (10 + 3 * t), .inl (k0 0, 12, .inl (fun y9 => nI ((LL t) y9)))) := by rw [hq _ (by omega)]; exact hLt
        have f_19 : u_10[b + 9 + 3 * t + 2]? = some (ad (11 + 3 * t), .inl (k0 0, 12, .inl (ww t))) := by rw [hq _ (by omega)]; exact hWt
        have f_20 : u_10[b + 9 + 3 * i]? = some (ad (9 + 3 * i), .inr (1, [.ref (ad (10 + 3 * i)), .ref (ad (11 + 3 * i)), .int (nI (nE i)), .int (nI (nV i)), .int (op i)])) := by rw [hq _ (by omega)]; exact hGi
        have f_21 : u_10[b + 9 + 3 * i + 1]? = some (ad (10 + 3 * i), .inl (k0 0, 12, .inl (fun y9 => nI ((LL i) y9)))) := by rw [hq _ (by omega)]; exact hLi
        have f_22 : u_10[b + 9 + 3 * i + 2]? = some (ad (11 + 3 * i), .inl (k0 0, 12, .inl (ww i))) := by rw [hq _ (by omega)]; exact hWi
        have hfr : kx_fr w0 u_10 (fun j => j = b + 2 ∨ j = b + 3 ∨ j = b + 4 ∨ j = b + 8) := kx_fr_tr hfr (kx_fr_mono hq (fun j h => by omega))
        refine lv_pop hx hb dX2_leave_45 rfl ?_
        refine lv_iconst (v := nI 0) hx hb dX2_leave_46 (by decide +kernel) ?_
        refine lv_istore (lv' := [(6, .int (nI 0)), (5, .ref (ad (9 + 3 * i))), (0, .ref (ad 0)), (1, .int (nI t)), (2, .int (nI i)), (3, .int (nI S)), (4, .int jn)]) hx hb dX2_leave_47 hl (by decide) rfl (fun ls hl => ?_)
        refine lv_iconst (v := nI 0) hx hb dX2_leave_49 (by decide +kernel) ?_
        refine lv_istore (lv' := [(7, .int (nI 0)), (6, .int (nI 0)), (5, .ref (ad (9 + 3 * i))), (0, .ref (ad 0)), (1, .int (nI t)), (2, .int (nI i)), (3, .int (nI S)), (4, .int jn)]) hx hb dX2_leave_50 hl (by decide) rfl (fun ls hl => ?_)
        have loop_52 : ∀ (n52 : Nat) (e9 : Nat), (e9 ≤ nE i) → (nE i + 1 ≤ e9 + n52) → ∀ (w1 : va_W), w1[b]? = some (ad 0, .inr (2, [.ref (ad 1), .ref (ad 2), .ref (ad 5), .ref (ad 8)])) → w1[b + 1]? = some (ad 1, .inl (k0 1, 8, .inr (.inr (.inr (.inr fq))))) → w1[b + 2]? = some (ad 2, .inr (0, [.ref (ad 3), .ref (ad 4), .int (nI FF.2.2)])) → w1[b + 2 + 1]? = some (ad 3, .inl (k0 0, 12, .inl (fun y9 => nI (FF.1 y9)))) → w1[b + 2 + 2]? = some (ad 4, .inl (k0 0, 12, .inl (fun y9 => nI (FF.2.1 y9)))) → w1[b + 8]? = some (ad 8, .inl (k0 0, 12, .inl (fun y9 => nI ((lv_d S (fun e => fo_rest FF.1 (LL i e) FF.2.2) dr e9) y9)))) → w1[b + 9 + 3 * t]? = some (ad (9 + 3 * t), .inr (1, [.ref (ad (10 + 3 * t)), .ref (ad (11 + 3 * t)), .int (nI (nE t)), .int (nI (nV t)), .int (op t)])) → w1[b + 9 + 3 * t + 1]? = some (ad (10 + 3 * t), .inl (k0 0, 12, .inl (fun y9 => nI ((LL t) y9)))) → w1[b + 9 + 3 * t + 2]? = some (ad (11 + 3 * t), .inl (k0 0, 12, .inl (ww t))) → w1[b + 9 + 3 * i]? = some (ad (9 + 3 * i), .inr (1, [.ref (ad (10 + 3 * i)), .ref (ad (11 + 3 * i)), .int (nI (nE i)), .int (nI (nV i)), .int (op i)])) → w1[b + 9 + 3 * i + 1]? = some (ad (10 + 3 * i), .inl (k0 0, 12, .inl (fun y9 => nI ((LL i) y9)))) → w1[b + 9 + 3 * i + 2]? = some (ad (11 + 3 * i), .inl (k0 0, 12, .inl (ww i))) → kx_fr w0 w1 (fun j => j = b + 2 ∨ j = b + 3 ∨ j = b + 4 ∨ j = b + 8) → ∀ (H : Heap) (locs : List Loc), va_P D vwCl w1 H → va_D A w1 → va_S A s.heap H locs → ∀ (ls : Array Slot), lv_has ls 8 [(7, .int (nI e9)), (6, .int (nI (lv_c S e9))), (5, .ref (ad (9 + 3 * i))), (0, .ref (ad 0)), (1, .int (nI t)), (2, .int (nI i)), (3, .int (nI S)), (4, .int jn)] → W p l e ({ frames := 4, cells := 0, slots := 0, locals := 104 } : Room) s m ([.ref (ad 0), .int x, .int y, .int z, .int jn] : List Value).toArray below meth c H locs 0 0 (MQ below (va_Qi (fun (r : Int32) (u : va_W) => ((∃ t i S, t < 8 ∧ i < 8 ∧ S ≤ cf_full (nE i) ∧ x = nI t ∧ y = nI i ∧ z = nI S ∧ r = nI (lv_c S (nE i)) ∧ ∃ (L9 : Nat → Nat) (f9 : Nat → Int32) (r1 p1 dr : Nat → Nat), atC u b k0 ad (va_up nE t (lv_c S (nE i))) (va_up nV t (nV t)) (va_up op t 0) (va_up LL t L9) (va_up ww t f9) ∧ (∀ j, j < lv_c S (nE i) → L9 j = lv_d S (fun e => fo_rest (fo_fill (LL i) (if jn = 0 then 0 else S) r1 p1 (nE i)).1 (LL i e) (fo_fill (LL i) (if jn = 0 then 0 else S) r1 p1 (nE i)).2.2) dr (nE i) j) ∧ ∀ j, j < lv_c S (nE i) → f9 j = 0) ∨ (¬ (∃ t i S, t < 8 ∧ i < 8 ∧ S ≤ cf_full (nE i) ∧ x = nI t ∧ y = nI i ∧ z = nI S) ∧ r = -1 ∧ u = w0)) ∧ kx_fr w0 u (fun j => b ≤ j ∧ j < b + 33)) (kx_B D (tyL k0) A) A) ([.ref (ad 0), .int x, .int y, .int z, .int jn] : List Value).toArray s 0 0 A) (F0 m 52 ls []) := by
          intro n52
          induction n52 with
          | zero =>
            intro e9 he hme
            exact absurd hme (by omega)
          | succ n52 ih52 =>
            intro e9 he hme w1 F52_0 F52_1 F52_2 F52_3 F52_4 F52_5 F52_6 F52_7 F52_8 F52_9 F52_10 F52_11 hfr H locs hP hD hS ls hl
            refine lv_iload hx hb dX2_leave_52 (lv_at hl 0 rfl) ?_
            refine lv_aload hx hb dX2_leave_54 (lv_at hl 2 rfl) ?_
            refine va_get (D := D) (ci := 1) (v := .int (nI (nE i))) (C := RX1) (T := TX1) (N := 5) hx hb hts inX1 hown hK hP (b + 9 + 3 * i) F52_9 rfl 2 (by decide) (hts _ tw_64) (fun _ h9 => h9) rfl dX2_leave_56 ?_
            refine lv_icmp_ge (tgt := 102) hx hb dX2_leave_59 (by decide) (fun c_59 => ?_) (fun c_59 => ?_)
            · skip
              have hik : e9 = nE i := by
                have := (nI_leI (by omega) (by omega)).mp c_59
                omega
              rw [hik] at hl
              have f_23 : w1[b + 8]? = some (ad 8, .inl (k0 0, 12, .inl (fun y9 => nI ((lv_d S (fun e => fo_rest FF.1 (LL i e) FF.2.2) dr (nE i)) y9)))) := by rw [← hik]; exact F52_5
              have hC2 : atC w1 b k0 ad nE nV op LL ww := atC_rest hC (kx_fr_mono hfr (fun j h => by omega)) ⟨_, _, _, F52_2, F52_3, F52_4⟩ ⟨r2, p2, k2, atF_fr ⟨hF2, hR2, hT2⟩ hfr ⟨by omega, by omega, by omega⟩⟩ ⟨_, f_23⟩
              refine lv_aload_n hx hb dX2_leave_102 rfl (lv_at hl 3 rfl) ?_
              refine va_get (D := D) (ci := 2) (v := .ref (ad 1)) (C := RX2) (T := TX2) (N := 4) hx hb hts inX2 hown hK hP b F52_0 rfl 0 (by decide) (hts _ tw_78) (fun _ h9 => h9) rfl dX2_leave_103 ?_
              refine lv_iload_n hx hb dX2_leave_106 rfl (lv_at hl 4 rfl) ?_
              refine kx_qald hx hb hK hP (b + 1) 1 F52_1 rfl (i := t) (r := (ad (9 + 3 * t))) (by omega) (by decide) (hfq _ (by omega)) dX2_leave_107 ?_
              refine lv_aload_n hx hb dX2_leave_108 rfl (lv_at hl 3 rfl) ?_
              refine va_get (D := D) (ci := 2) (v := .ref (ad 8)) (C := RX2) (T := TX2) (N := 4) hx hb hts inX2 hown hK hP b F52_0 rfl 3 (by decide) (hts _ tw_81) (fun _ h9 => h9) rfl dX2_leave_109 ?_
              refine lv_iload hx hb dX2_leave_112 (lv_at hl 1 rfl) ?_
              refine kx_gov (va_runV (As := [.ref (ad 8), .int (nI (lv_c S (nE i)))]) (rest := []) ⟨hx, hb, hml, hown, hts⟩ (c_become l D k0 w1 _ (b + 9 + 3 * t) (ad (9 + 3 * t)) (ad (10 + 3 * t)) (ad (11 + 3 * t)) (LL t) (ww t) (nE t) (nI (nV t)) (op t) F52_6 F52_7 F52_8 (b + 8) (ad 8) (lv_d S (fun e => fo_rest FF.1 (LL i e) FF.2.2) dr (nE i)) f_23 (by omega) (lv_c S (nE i)) (by have := lv_c_le S (nE i); omega)) ⟨(kg_B (k := 2) hts tw_164 tw_161 tw_21 (by decide +kernel) rfl rfl ⟨Nat.le_of_ble_eq_true rfl, Nat.le_of_ble_eq_true rfl⟩), hts _ tw_162, hts _ tw_163⟩ (kx_preV hN hK hP hD rfl F52_6) rfl rfl hl.1 rfl (lv_room (Nat.le_of_ble_eq_true rfl)) dX2_leave_114 ⟨Nat.le_of_ble_eq_true rfl, Nat.le_of_ble_eq_true rfl⟩) hD hS hA (fun u_26 H locs hp_24 hP hD hS => ?_)
              obtain ⟨L9, f9, hg, hl9, hf9, hq9⟩ := hp_24
              refine lv_iload hx hb dX2_leave_117 (lv_at hl 1 rfl) ?_
              exact kx_iret (v := nI (lv_c S (nE i))) hx hb hr rfl hlocks hK hP hD hS dX2_leave_119 (⟨Or.inl ⟨t, i, S, h8t, h8i, hSS, e_x, e_y, e_z, rfl, L9, f9, r1, p1, dr, atC_put hC2 hq9 hg, by rw [← eSJ, ← eFF]; exact hl9, hf9⟩, kx_fr_tr (kx_fr_mono hfr (fun j h => by omega)) (kx_fr_mono hq9 (fun j h => by omega))⟩)
            · skip
              have hik : e9 < nE i := by
                rcases Nat.lt_or_ge (e9) (nE i) with h | h
                · exact h
                · exact absurd ((nI_leI (by omega) (by omega)).mpr h) c_59
              refine lv_iload_n hx hb dX2_leave_62 rfl (lv_at hl 6 rfl) ?_
              refine lv_iload hx hb dX2_leave_63 (lv_at hl 0 rfl) ?_
              refine kx_goi (va_runS (As := [.int (nI S), .int (nI e9)]) (rest := []) ⟨hx, hb, hml, hown, hts⟩ (c_has l D k0 w1 _ S e9 (by omega) (by omega)) ⟨(kg_B (k := 2) hts tw_143 tw_159 tw_19 (by decide +kernel) rfl rfl ⟨Nat.le_of_ble_eq_true rfl, Nat.le_of_ble_eq_true rfl⟩), hts _ tw_142⟩ (kx_preS hN hK hP hD) rfl rfl hl.1 rfl (lv_room (Nat.le_of_ble_eq_true rfl)) dX2_leave_65 ⟨Nat.le_of_ble_eq_true rfl, Nat.le_of_ble_eq_true rfl⟩) hD hS hA (fun r_28 u_29 H locs hp_27 hP hD hS => ?_)
              obtain ⟨er_28, eu_29⟩ := hp_27
              rw [eu_29] at hP hD; subst er_28
              refine lv_if_ne (tgt := 96) hx hb dX2_leave_68 (by decide) (fun c_68 => ?_) (fun c_68 => ?_)
              · skip
                have hS1 : S.testBit e9 = true := by
                  cases hq9 : S.testBit e9 with
                  | true => rfl
                  | false => exact absurd ((kb_bool _).mpr hq9) c_68
                rw [← lv_c_in hS1] at hl
                have f_30 : w1[b + 8]? = some (ad 8, .inl (k0 0, 12, .inl (fun y9 => nI ((lv_d S (fun e => fo_rest FF.1 (LL i e) FF.2.2) dr (e9 + 1)) y9)))) := by rw [lv_d_in hS1]; exact F52_5
                refine lv_iinc (v := nI (e9 + 1)) (lv' := [(7, .int (nI (e9 + 1))), (6, .int (nI (lv_c S (e9 + 1)))), (5, .ref (ad (9 + 3 * i))), (0, .ref (ad 0)), (1, .int (nI t)), (2, .int (nI i)), (3, .int (nI S)), (4, .int jn)]) hx hb dX2_leave_96 hl (k := 0) rfl (nI_1 _) (by decide) rfl (fun ls hl => ?_)
                refine lv_goto (tgt := 52) hx hb dX2_leave_99 (by decide) ?_
                exact ih52 (e9 + 1) (by omega) (by omega) w1 F52_0 F52_1 F52_2 F52_3 F52_4 f_30 F52_6 F52_7 F52_8 F52_9 F52_10 F52_11 hfr _ _ hP hD hS _ (lv_sub hl [0, 1, 2, 3, 4, 5, 6, 7] rfl)
              · skip
                have hS1 : S.testBit e9 = false := (kb_bool _).mp c_68
                refine lv_aload_n hx hb dX2_leave_71 rfl (lv_at hl 3 rfl) ?_
                refine va_get (D := D) (ci := 2) (v := .ref (ad 8)) (C := RX2) (T := TX2) (N := 4) hx hb hts inX2 hown hK hP b F52_0 rfl 3 (by decide) (hts _ tw_81) (fun _ h9 => h9) rfl dX2_leave_72 ?_
                refine lv_iload hx hb dX2_leave_75 (lv_at hl 1 rfl) ?_
                refine lv_aload_n hx hb dX2_leave_77 rfl (lv_at hl 3 rfl) ?_
                refine va_get (D := D) (ci := 2) (v := .ref (ad 2)) (C := RX2) (T := TX2) (N := 4) hx hb hts inX2 hown hK hP b F52_0 rfl 1 (by decide) (hts _ tw_79) (fun _ h9 => h9) rfl dX2_leave_78 ?_
                refine lv_aload hx hb dX2_leave_81 (lv_at hl 2 rfl) ?_
                refine va_get (D := D) (ci := 1) (v := .ref (ad (10 + 3 * i))) (C := RX1) (T := TX1) (N := 5) hx hb hts inX1 hown hK hP (b + 9 + 3 * i) F52_9 rfl 0 (by decide) (hts _ tw_59) (fun _ h9 => h9) rfl dX2_leave_83 ?_
                refine lv_iload hx hb dX2_leave_86 (lv_at hl 0 rfl) ?_
                refine kx_nald hx hb hK hP (b + 9 + 3 * i + 1) F52_10 rfl (i := e9) (by omega) (by decide) dX2_leave_88 ?_
                refine kx_goi (va_runV (As := [.int (nI ((LL i) e9))]) (rest := [.int (nI (lv_c S e9)), .ref (ad 8)]) ⟨hx, hb, hml, hown, hts⟩ (c_rest l D k0 w1 _ (b + 2) (ad 2) (ad 3) (ad 4) FF.1 FF.2.1 FF.2.2 F52_2 F52_3 F52_4 hk1 hk2 (LL i e9) (gl_lt (hl2i e9 hik))) ⟨(kg_B (k := 1) hts tw_151 tw_160 tw_20 (by decide +kernel) rfl rfl ⟨Nat.le_of_ble_eq_true rfl, Nat.le_of_ble_eq_true rfl⟩), hts _ tw_149, hts _ tw_150⟩ (kx_preV hN hK hP hD rfl F52_2) rfl rfl hl.1 rfl (lv_room (Nat.le_of_ble_eq_true rfl)) dX2_leave_89 ⟨Nat.le_of_ble_eq_true rfl, Nat.le_of_ble_eq_true rfl⟩) hD hS hA (fun r_32 u_33 H locs hp_31 hP hD hS => ?_)
                obtain ⟨er_32, eu_33⟩ := hp_31
                rw [eu_33] at hP hD; subst er_32
                refine kx_nast hx hb hK hP hD hS (b + 8) F52_5 rfl (i := (lv_c S e9)) (x := (fo_rest FF.1 (LL i e9) FF.2.2)) (by have := lv_c_le S e9; omega) (by decide) dX2_leave_92 (fun H locs hP hD hS => ?_)
                obtain ⟨w_34, ew_34⟩ : ∃ w, w = w1.set (b + 8) (ad 8, .inl (k0 0, 12, .inl (fun y9 => nI ((fo_up (lv_d S (fun e => fo_rest FF.1 (LL i e) FF.2.2) dr e9) (lv_c S e9) (fo_rest FF.1 (LL i e9) FF.2.2)) y9)))) := ⟨_, rfl⟩
                have hP : va_P D vwCl w_34 H := by rw [ew_34]; exact hP
                have hD : va_D A w_34 := by rw [ew_34]; exact hD
                have f_35 : w_34[b]? = some (ad 0, .inr (2, [.ref (ad 1), .ref (ad 2), .ref (ad 5), .ref (ad 8)])) := by rw [ew_34]; exact kx_set_ne F52_0 (by omega)
                have f_36 : w_34[b + 1]? = some (ad 1, .inl (k0 1, 8, .inr (.inr (.inr (.inr fq))))) := by rw [ew_34]; exact kx_set_ne F52_1 (by omega)
                have f_37 : w_34[b + 2]? = some (ad 2, .inr (0, [.ref (ad 3), .ref (ad 4), .int (nI FF.2.2)])) := by rw [ew_34]; exact kx_set_ne F52_2 (by omega)
                have f_38 : w_34[b + 2 + 1]? = some (ad 3, .inl (k0 0, 12, .inl (fun y9 => nI (FF.1 y9)))) := by rw [ew_34]; exact kx_set_ne F52_3 (by omega)
                have f_39 : w_34[b + 2 + 2]? = some (ad 4, .inl (k0 0, 12, .inl (fun y9 => nI (FF.2.1 y9)))) := by rw [ew_34]; exact kx_set_ne F52_4 (by omega)
                have f_40 : w_34[b + 8]? = some (ad 8, .inl (k0 0, 12, .inl (fun y9 => nI ((fo_up (lv_d S (fun e => fo_rest FF.1 (LL i e) FF.2.2) dr e9) (lv_c S e9) (fo_rest FF.1 (LL i e9) FF.2.2)) y9)))) := by rw [ew_34]; exact kx_set_self F52_5
                have f_41 : w_34[b + 9 + 3 * t]? = some (ad (9 + 3 * t), .inr (1, [.ref (ad (10 + 3 * t)), .ref (ad (11 + 3 * t)), .int (nI (nE t)), .int (nI (nV t)), .int (op t)])) := by rw [ew_34]; exact kx_set_ne F52_6 (by omega)
                have f_42 : w_34[b + 9 + 3 * t + 1]? = some (ad (10 + 3 * t), .inl (k0 0, 12, .inl (fun y9 => nI ((LL t) y9)))) := by rw [ew_34]; exact kx_set_ne F52_7 (by omega)
                have f_43 : w_34[b + 9 + 3 * t + 2]? = some (ad (11 + 3 * t), .inl (k0 0, 12, .inl (ww t))) := by rw [ew_34]; exact kx_set_ne F52_8 (by omega)
                have f_44 : w_34[b + 9 + 3 * i]? = some (ad (9 + 3 * i), .inr (1, [.ref (ad (10 + 3 * i)), .ref (ad (11 + 3 * i)), .int (nI (nE i)), .int (nI (nV i)), .int (op i)])) := by rw [ew_34]; exact kx_set_ne F52_9 (by omega)
                have f_45 : w_34[b + 9 + 3 * i + 1]? = some (ad (10 + 3 * i), .inl (k0 0, 12, .inl (fun y9 => nI ((LL i) y9)))) := by rw [ew_34]; exact kx_set_ne F52_10 (by omega)
                have f_46 : w_34[b + 9 + 3 * i + 2]? = some (ad (11 + 3 * i), .inl (k0 0, 12, .inl (ww i))) := by rw [ew_34]; exact kx_set_ne F52_11 (by omega)
                have hfr : kx_fr w0 w_34 (fun j => j = b + 2 ∨ j = b + 3 ∨ j = b + 4 ∨ j = b + 8) := kx_fr_tr hfr (by rw [ew_34]; exact kx_fr_set (by omega))
                have f_47 : w_34[b + 8]? = some (ad 8, .inl (k0 0, 12, .inl (fun y9 => nI ((lv_d S (fun e => fo_rest FF.1 (LL i e) FF.2.2) dr (e9 + 1)) y9)))) := by rw [lv_d_out hS1]; exact f_40
                refine lv_iinc (v := nI (lv_c S (e9 + 1))) (lv' := [(6, .int (nI (lv_c S (e9 + 1)))), (7, .int (nI e9)), (5, .ref (ad (9 + 3 * i))), (0, .ref (ad 0)), (1, .int (nI t)), (2, .int (nI i)), (3, .int (nI S)), (4, .int jn)]) hx hb dX2_leave_93 hl (k := 1) rfl (by rw [lv_c_out hS1]; exact nI_1 _) (by decide) rfl (fun ls hl => ?_)
                refine lv_iinc (v := nI (e9 + 1)) (lv' := [(7, .int (nI (e9 + 1))), (6, .int (nI (lv_c S (e9 + 1)))), (5, .ref (ad (9 + 3 * i))), (0, .ref (ad 0)), (1, .int (nI t)), (2, .int (nI i)), (3, .int (nI S)), (4, .int jn)]) hx hb dX2_leave_96 hl (k := 1) rfl (nI_1 _) (by decide) rfl (fun ls hl => ?_)
                refine lv_goto (tgt := 52) hx hb dX2_leave_99 (by decide) ?_
                exact ih52 (e9 + 1) (by omega) (by omega) w_34 f_35 f_36 f_37 f_38 f_39 f_47 f_41 f_42 f_43 f_44 f_45 f_46 hfr _ _ hP hD hS _ (lv_sub hl [0, 1, 2, 3, 4, 5, 6, 7] rfl)
        exact loop_52 (nE i + 1) 0 (Nat.zero_le _) (by omega) u_10 f_11 f_12 f_13 f_14 f_15 f_16 f_17 f_18 f_19 f_20 f_21 f_22 hfr _ _ hP hD hS _ (lv_sub hl [0, 1, 2, 3, 4, 5, 6, 7] rfl)
      · skip
        refine lv_iload_n hx hb dX2_leave_37 rfl (lv_at hl 4 rfl) ?_
        refine lv_topi (fun z_48 ez_48 => ?_)
        have ez_48 : z_48 = nI SJ := by rw [ez_48]; rw [eSJ, if_neg c_34]
        subst ez_48
        refine lv_goto (tgt := 42) hx hb dX2_leave_38 (by decide) ?_
        refine kx_goi (va_runV (As := [.ref (ad (9 + 3 * i)), .int (nI SJ)]) (rest := []) ⟨hx, hb, hml, hown, hts⟩ (c_fill l D k0 w0 _ (b + 2) (ad 2) (ad 3) (ad 4) r1 p1 k1 hF1 hR1 hT1 (b + 9 + 3 * i) (ad (9 + 3 * i)) (ad (10 + 3 * i)) (ad (11 + 3 * i)) (LL i) (ww i) (nE i) (nI (nV i)) (op i) hGi hLi hWi (by omega) hni (fun j h => gl_lt (hl2i j h)) SJ hSJb) ⟨(kg_B (k := 2) hts tw_136 tw_133 tw_20 (by decide +kernel) rfl rfl ⟨Nat.le_of_ble_eq_true rfl, Nat.le_of_ble_eq_true rfl⟩), hts _ tw_134, hts _ tw_135⟩ (kx_preV hN hK hP hD rfl hF1) rfl rfl hl.1 rfl (lv_room (Nat.le_of_ble_eq_true rfl)) dX2_leave_42 ⟨Nat.le_of_ble_eq_true rfl, Nat.le_of_ble_eq_true rfl⟩) hD hS hA (fun r_50 u_51 H locs hp_49 hP hD hS => ?_)
        obtain ⟨FF, eFF⟩ : ∃ F : fo_St, F = fo_fill (LL i) SJ r1 p1 (nE i) := ⟨_, rfl⟩
        obtain ⟨hk1, hk2, _⟩ := fo_fill_bd (S := SJ) (rows := r1) (parts := p1) hni (fun j h => gl_lt (hl2i j h)) (nE i) (Nat.le_refl _)
        rw [← eFF] at hp_49 hk1 hk2
        obtain ⟨_, ⟨hF9, hR9, hT9⟩, hq⟩ := hp_49
        have f_52 : u_51[b]? = some (ad 0, .inr (2, [.ref (ad 1), .ref (ad 2), .ref (ad 5), .ref (ad 8)])) := by rw [hq _ (by omega)]; exact hO
        have f_53 : u_51[b + 1]? = some (ad 1, .inl (k0 1, 8, .inr (.inr (.inr (.inr fq))))) := by rw [hq _ (by omega)]; exact hQ
        have f_54 : u_51[b + 2]? = some (ad 2, .inr (0, [.ref (ad 3), .ref (ad 4), .int (nI FF.2.2)])) := hF9
        have f_55 : u_51[b + 2 + 1]? = some (ad 3, .inl (k0 0, 12, .inl (fun y9 => nI (FF.1 y9)))) := hR9
        have f_56 : u_51[b + 2 + 2]? = some (ad 4, .inl (k0 0, 12, .inl (fun y9 => nI (FF.2.1 y9)))) := hT9
        have f_57 : u_51[b + 8]? = some (ad 8, .inl (k0 0, 12, .inl (fun y9 => nI (dr y9)))) := by rw [hq _ (by omega)]; exact hd
        have f_58 : u_51[b + 9 + 3 * t]? = some (ad (9 + 3 * t), .inr (1, [.ref (ad (10 + 3 * t)), .ref (ad (11 + 3 * t)), .int (nI (nE t)), .int (nI (nV t)), .int (op t)])) := by rw [hq _ (by omega)]; exact hGt
        have f_59 : u_51[b + 9 + 3 * t + 1]? = some (ad (10 + 3 * t), .inl (k0 0, 12, .inl (fun y9 => nI ((LL t) y9)))) := by rw [hq _ (by omega)]; exact hLt
        have f_60 : u_51[b + 9 + 3 * t + 2]? = some (ad (11 + 3 * t), .inl (k0 0, 12, .inl (ww t))) := by rw [hq _ (by omega)]; exact hWt
        have f_61 : u_51[b + 9 + 3 * i]? = some (ad (9 + 3 * i), .inr (1, [.ref (ad (10 + 3 * i)), .ref (ad (11 + 3 * i)), .int (nI (nE i)), .int (nI (nV i)), .int (op i)])) := by rw [hq _ (by omega)]; exact hGi
        have f_62 : u_51[b + 9 + 3 * i + 1]? = some (ad (10 + 3 * i), .inl (k0 0, 12, .inl (fun y9 => nI ((LL i) y9)))) := by rw [hq _ (by omega)]; exact hLi
        have f_63 : u_51[b + 9 + 3 * i + 2]? = some (ad (11 + 3 * i), .inl (k0 0, 12, .inl (ww i))) := by rw [hq _ (by omega)]; exact hWi
        have hfr : kx_fr w0 u_51 (fun j => j = b + 2 ∨ j = b + 3 ∨ j = b + 4 ∨ j = b + 8) := kx_fr_tr hfr (kx_fr_mono hq (fun j h => by omega))
        refine lv_pop hx hb dX2_leave_45 rfl ?_
        refine lv_iconst (v := nI 0) hx hb dX2_leave_46 (by decide +kernel) ?_
        refine lv_istore (lv' := [(6, .int (nI 0)), (5, .ref (ad (9 + 3 * i))), (0, .ref (ad 0)), (1, .int (nI t)), (2, .int (nI i)), (3, .int (nI S)), (4, .int jn)]) hx hb dX2_leave_47 hl (by decide) rfl (fun ls hl => ?_)
        refine lv_iconst (v := nI 0) hx hb dX2_leave_49 (by decide +kernel) ?_
        refine lv_istore (lv' := [(7, .int (nI 0)), (6, .int (nI 0)), (5, .ref (ad (9 + 3 * i))), (0, .ref (ad 0)), (1, .int (nI t)), (2, .int (nI i)), (3, .int (nI S)), (4, .int jn)]) hx hb dX2_leave_50 hl (by decide) rfl (fun ls hl => ?_)
        have loop_52 : ∀ (n52 : Nat) (e9 : Nat), (e9 ≤ nE i) → (nE i + 1 ≤ e9 + n52) → ∀ (w1 : va_W), w1[b]? = some (ad 0, .inr (2, [.ref (ad 1), .ref (ad 2), .ref (ad 5), .ref (ad 8)])) → w1[b + 1]? = some (ad 1, .inl (k0 1, 8, .inr (.inr (.inr (.inr fq))))) → w1[b + 2]? = some (ad 2, .inr (0, [.ref (ad 3), .ref (ad 4), .int (nI FF.2.2)])) → w1[b + 2 + 1]? = some (ad 3, .inl (k0 0, 12, .inl (fun y9 => nI (FF.1 y9)))) → w1[b + 2 + 2]? = some (ad 4, .inl (k0 0, 12, .inl (fun y9 => nI (FF.2.1 y9)))) → w1[b + 8]? = some (ad 8, .inl (k0 0, 12, .inl (fun y9 => nI ((lv_d S (fun e => fo_rest FF.1 (LL i e) FF.2.2) dr e9) y9)))) → w1[b + 9 + 3 * t]? = some (ad (9 + 3 * t), .inr (1, [.ref (ad (10 + 3 * t)), .ref (ad (11 + 3 * t)), .int (nI (nE t)), .int (nI (nV t)), .int (op t)])) → w1[b + 9 + 3 * t + 1]? = some (ad (10 + 3 * t), .inl (k0 0, 12, .inl (fun y9 => nI ((LL t) y9)))) → w1[b + 9 + 3 * t + 2]? = some (ad (11 + 3 * t), .inl (k0 0, 12, .inl (ww t))) → w1[b + 9 + 3 * i]? = some (ad (9 + 3 * i), .inr (1, [.ref (ad (10 + 3 * i)), .ref (ad (11 + 3 * i)), .int (nI (nE i)), .int (nI (nV i)), .int (op i)])) → w1[b + 9 + 3 * i + 1]? = some (ad (10 + 3 * i), .inl (k0 0, 12, .inl (fun y9 => nI ((LL i) y9)))) → w1[b + 9 + 3 * i + 2]? = some (ad (11 + 3 * i), .inl (k0 0, 12, .inl (ww i))) → kx_fr w0 w1 (fun j => j = b + 2 ∨ j = b + 3 ∨ j = b + 4 ∨ j = b + 8) → ∀ (H : Heap) (locs : List Loc), va_P D vwCl w1 H → va_D A w1 → va_S A s.heap H locs → ∀ (ls : Array Slot), lv_has ls 8 [(7, .int (nI e9)), (6, .int (nI (lv_c S e9))), (5, .ref (ad (9 + 3 * i))), (0, .ref (ad 0)), (1, .int (nI t)), (2, .int (nI i)), (3, .int (nI S)), (4, .int jn)] → W p l e ({ frames := 4, cells := 0, slots := 0, locals := 104 } : Room) s m ([.ref (ad 0), .int x, .int y, .int z, .int jn] : List Value).toArray below meth c H locs 0 0 (MQ below (va_Qi (fun (r : Int32) (u : va_W) => ((∃ t i S, t < 8 ∧ i < 8 ∧ S ≤ cf_full (nE i) ∧ x = nI t ∧ y = nI i ∧ z = nI S ∧ r = nI (lv_c S (nE i)) ∧ ∃ (L9 : Nat → Nat) (f9 : Nat → Int32) (r1 p1 dr : Nat → Nat), atC u b k0 ad (va_up nE t (lv_c S (nE i))) (va_up nV t (nV t)) (va_up op t 0) (va_up LL t L9) (va_up ww t f9) ∧ (∀ j, j < lv_c S (nE i) → L9 j = lv_d S (fun e => fo_rest (fo_fill (LL i) (if jn = 0 then 0 else S) r1 p1 (nE i)).1 (LL i e) (fo_fill (LL i) (if jn = 0 then 0 else S) r1 p1 (nE i)).2.2) dr (nE i) j) ∧ ∀ j, j < lv_c S (nE i) → f9 j = 0) ∨ (¬ (∃ t i S, t < 8 ∧ i < 8 ∧ S ≤ cf_full (nE i) ∧ x = nI t ∧ y = nI i ∧ z = nI S) ∧ r = -1 ∧ u = w0)) ∧ kx_fr w0 u (fun j => b ≤ j ∧ j < b + 33)) (kx_B D (tyL k0) A) A) ([.ref (ad 0), .int x, .int y, .int z, .int jn] : List Value).toArray s 0 0 A) (F0 m 52 ls []) := by
          intro n52
          induction n52 with
          | zero =>
            intro e9 he hme
            exact absurd hme (by omega)
          | succ n52 ih52 =>
            intro e9 he hme w1 F52_0 F52_1 F52_2 F52_3 F52_4 F52_5 F52_6 F52_7 F52_8 F52_9 F52_10 F52_11 hfr H locs hP hD hS ls hl
            refine lv_iload hx hb dX2_leave_52 (lv_at hl 0 rfl) ?_
            refine lv_aload hx hb dX2_leave_54 (lv_at hl 2 rfl) ?_
            refine va_get (D := D) (ci := 1) (v := .int (nI (nE i))) (C := RX1) (T := TX1) (N := 5) hx hb hts inX1 hown hK hP (b + 9 + 3 * i) F52_9 rfl 2 (by decide) (hts _ tw_64) (fun _ h9 => h9) rfl dX2_leave_56 ?_
            refine lv_icmp_ge (tgt := 102) hx hb dX2_leave_59 (by decide) (fun c_59 => ?_) (fun c_59 => ?_)
            · skip
              have hik : e9 = nE i := by
                have := (nI_leI (by omega) (by omega)).mp c_59
                omega
              rw [hik] at hl
              have f_64 : w1[b + 8]? = some (ad 8, .inl (k0 0, 12, .inl (fun y9 => nI ((lv_d S (fun e => fo_rest FF.1 (LL i e) FF.2.2) dr (nE i)) y9)))) := by rw [← hik]; exact F52_5
              have hC2 : atC w1 b k0 ad nE nV op LL ww := atC_rest hC (kx_fr_mono hfr (fun j h => by omega)) ⟨_, _, _, F52_2, F52_3, F52_4⟩ ⟨r2, p2, k2, atF_fr ⟨hF2, hR2, hT2⟩ hfr ⟨by omega, by omega, by omega⟩⟩ ⟨_, f_64⟩
              refine lv_aload_n hx hb dX2_leave_102 rfl (lv_at hl 3 rfl) ?_
              refine va_get (D := D) (ci := 2) (v := .ref (ad 1)) (C := RX2) (T := TX2) (N := 4) hx hb hts inX2 hown hK hP b F52_0 rfl 0 (by decide) (hts _ tw_78) (fun _ h9 => h9) rfl dX2_leave_103 ?_
              refine lv_iload_n hx hb dX2_leave_106 rfl (lv_at hl 4 rfl) ?_
              refine kx_qald hx hb hK hP (b + 1) 1 F52_1 rfl (i := t) (r := (ad (9 + 3 * t))) (by omega) (by decide) (hfq _ (by omega)) dX2_leave_107 ?_
              refine lv_aload_n hx hb dX2_leave_108 rfl (lv_at hl 3 rfl) ?_
              refine va_get (D := D) (ci := 2) (v := .ref (ad 8)) (C := RX2) (T := TX2) (N := 4) hx hb hts inX2 hown hK hP b F52_0 rfl 3 (by decide) (hts _ tw_81) (fun _ h9 => h9) rfl dX2_leave_109 ?_
              refine lv_iload hx hb dX2_leave_112 (lv_at hl 1 rfl) ?_
              refine kx_gov (va_runV (As := [.ref (ad 8), .int (nI (lv_c S (nE i)))]) (rest := []) ⟨hx, hb, hml, hown, hts⟩ (c_become l D k0 w1 _ (b + 9 + 3 * t) (ad (9 + 3 * t)) (ad (10 + 3 * t)) (ad (11 + 3 * t)) (LL t) (ww t) (nE t) (nI (nV t)) (op t) F52_6 F52_7 F52_8 (b + 8) (ad 8) (lv_d S (fun e => fo_rest FF.1 (LL i e) FF.2.2) dr (nE i)) f_64 (by omega) (lv_c S (nE i)) (by have := lv_c_le S (nE i); omega)) ⟨(kg_B (k := 2) hts tw_164 tw_161 tw_21 (by decide +kernel) rfl rfl ⟨Nat.le_of_ble_eq_true rfl, Nat.le_of_ble_eq_true rfl⟩), hts _ tw_162, hts _ tw_163⟩ (kx_preV hN hK hP hD rfl F52_6) rfl rfl hl.1 rfl (lv_room (Nat.le_of_ble_eq_true rfl)) dX2_leave_114 ⟨Nat.le_of_ble_eq_true rfl, Nat.le_of_ble_eq_true rfl⟩) hD hS hA (fun u_67 H locs hp_65 hP hD hS => ?_)
              obtain ⟨L9, f9, hg, hl9, hf9, hq9⟩ := hp_65
              refine lv_iload hx hb dX2_leave_117 (lv_at hl 1 rfl) ?_
              exact kx_iret (v := nI (lv_c S (nE i))) hx hb hr rfl hlocks hK hP hD hS dX2_leave_119 (⟨Or.inl ⟨t, i, S, h8t, h8i, hSS, e_x, e_y, e_z, rfl, L9, f9, r1, p1, dr, atC_put hC2 hq9 hg, by rw [← eSJ, ← eFF]; exact hl9, hf9⟩, kx_fr_tr (kx_fr_mono hfr (fun j h => by omega)) (kx_fr_mono hq9 (fun j h => by omega))⟩)
            · skip
              have hik : e9 < nE i := by
                rcases Nat.lt_or_ge (e9) (nE i) with h | h
                · exact h
                · exact absurd ((nI_leI (by omega) (by omega)).mpr h) c_59
              refine lv_iload_n hx hb dX2_leave_62 rfl (lv_at hl 6 rfl) ?_
              refine lv_iload hx hb dX2_leave_63 (lv_at hl 0 rfl) ?_
              refine kx_goi (va_runS (As := [.int (nI S), .int (nI e9)]) (rest := []) ⟨hx, hb, hml, hown, hts⟩ (c_has l D k0 w1 _ S e9 (by omega) (by omega)) ⟨(kg_B (k := 2) hts tw_143 tw_159 tw_19 (by decide +kernel) rfl rfl ⟨Nat.le_of_ble_eq_true rfl, Nat.le_of_ble_eq_true rfl⟩), hts _ tw_142⟩ (kx_preS hN hK hP hD) rfl rfl hl.1 rfl (lv_room (Nat.le_of_ble_eq_true rfl)) dX2_leave_65 ⟨Nat.le_of_ble_eq_true rfl, Nat.le_of_ble_eq_true rfl⟩) hD hS hA (fun r_69 u_70 H locs hp_68 hP hD hS => ?_)
              obtain ⟨er_69, eu_70⟩ := hp_68
              rw [eu_70] at hP hD; subst er_69
              refine lv_if_ne (tgt := 96) hx hb dX2_leave_68 (by decide) (fun c_68 => ?_) (fun c_68 => ?_)
              · skip
                have hS1 : S.testBit e9 = true := by
                  cases hq9 : S.testBit e9 with
                  | true => rfl
                  | false => exact absurd ((kb_bool _).mpr hq9) c_68
                rw [← lv_c_in hS1] at hl
                have f_71 : w1[b + 8]? = some (ad 8, .inl (k0 0, 12, .inl (fun y9 => nI ((lv_d S (fun e => fo_rest FF.1 (LL i e) FF.2.2) dr (e9 + 1)) y9)))) := by rw [lv_d_in hS1]; exact F52_5
                refine lv_iinc (v := nI (e9 + 1)) (lv' := [(7, .int (nI (e9 + 1))), (6, .int (nI (lv_c S (e9 + 1)))), (5, .ref (ad (9 + 3 * i))), (0, .ref (ad 0)), (1, .int (nI t)), (2, .int (nI i)), (3, .int (nI S)), (4, .int jn)]) hx hb dX2_leave_96 hl (k := 0) rfl (nI_1 _) (by decide) rfl (fun ls hl => ?_)
                refine lv_goto (tgt := 52) hx hb dX2_leave_99 (by decide) ?_
                exact ih52 (e9 + 1) (by omega) (by omega) w1 F52_0 F52_1 F52_2 F52_3 F52_4 f_71 F52_6 F52_7 F52_8 F52_9 F52_10 F52_11 hfr _ _ hP hD hS _ (lv_sub hl [0, 1, 2, 3, 4, 5, 6, 7] rfl)
              · skip
                have hS1 : S.testBit e9 = false := (kb_bool _).mp c_68
                refine lv_aload_n hx hb dX2_leave_71 rfl (lv_at hl 3 rfl) ?_
                refine va_get (D := D) (ci := 2) (v := .ref (ad 8)) (C := RX2) (T := TX2) (N := 4) hx hb hts inX2 hown hK hP b F52_0 rfl 3 (by decide) (hts _ tw_81) (fun _ h9 => h9) rfl dX2_leave_72 ?_
                refine lv_iload hx hb dX2_leave_75 (lv_at hl 1 rfl) ?_
                refine lv_aload_n hx hb dX2_leave_77 rfl (lv_at hl 3 rfl) ?_
                refine va_get (D := D) (ci := 2) (v := .ref (ad 2)) (C := RX2) (T := TX2) (N := 4) hx hb hts inX2 hown hK hP b F52_0 rfl 1 (by decide) (hts _ tw_79) (fun _ h9 => h9) rfl dX2_leave_78 ?_
                refine lv_aload hx hb dX2_leave_81 (lv_at hl 2 rfl) ?_
                refine va_get (D := D) (ci := 1) (v := .ref (ad (10 + 3 * i))) (C := RX1) (T := TX1) (N := 5) hx hb hts inX1 hown hK hP (b + 9 + 3 * i) F52_9 rfl 0 (by decide) (hts _ tw_59) (fun _ h9 => h9) rfl dX2_leave_83 ?_
                refine lv_iload hx hb dX2_leave_86 (lv_at hl 0 rfl) ?_
                refine kx_nald hx hb hK hP (b + 9 + 3 * i + 1) F52_10 rfl (i := e9) (by omega) (by decide) dX2_leave_88 ?_
                refine kx_goi (va_runV (As := [.int (nI ((LL i) e9))]) (rest := [.int (nI (lv_c S e9)), .ref (ad 8)]) ⟨hx, hb, hml, hown, hts⟩ (c_rest l D k0 w1 _ (b + 2) (ad 2) (ad 3) (ad 4) FF.1 FF.2.1 FF.2.2 F52_2 F52_3 F52_4 hk1 hk2 (LL i e9) (gl_lt (hl2i e9 hik))) ⟨(kg_B (k := 1) hts tw_151 tw_160 tw_20 (by decide +kernel) rfl rfl ⟨Nat.le_of_ble_eq_true rfl, Nat.le_of_ble_eq_true rfl⟩), hts _ tw_149, hts _ tw_150⟩ (kx_preV hN hK hP hD rfl F52_2) rfl rfl hl.1 rfl (lv_room (Nat.le_of_ble_eq_true rfl)) dX2_leave_89 ⟨Nat.le_of_ble_eq_true rfl, Nat.le_of_ble_eq_true rfl⟩) hD hS hA (fun r_73 u_74 H locs hp_72 hP hD hS => ?_)
                obtain ⟨er_73, eu_74⟩ := hp_72
                rw [eu_74] at hP hD; subst er_73
                refine kx_nast hx hb hK hP hD hS (b + 8) F52_5 rfl (i := (lv_c S e9)) (x := (fo_rest FF.1 (LL i e9) FF.2.2)) (by have := lv_c_le S e9; omega) (by decide) dX2_leave_92 (fun H locs hP hD hS => ?_)
                obtain ⟨w_75, ew_75⟩ : ∃ w, w = w1.set (b + 8) (ad 8, .inl (k0 0, 12, .inl (fun y9 => nI ((fo_up (lv_d S (fun e => fo_rest FF.1 (LL i e) FF.2.2) dr e9) (lv_c S e9) (fo_rest FF.1 (LL i e9) FF.2.2)) y9)))) := ⟨_, rfl⟩
                have hP : va_P D vwCl w_75 H := by rw [ew_75]; exact hP
                have hD : va_D A w_75 := by rw [ew_75]; exact hD
                have f_76 : w_75[b]? = some (ad 0, .inr (2, [.ref (ad 1), .ref (ad 2), .ref (ad 5), .ref (ad 8)])) := by rw [ew_75]; exact kx_set_ne F52_0 (by omega)
                have f_77 : w_75[b + 1]? = some (ad 1, .inl (k0 1, 8, .inr (.inr (.inr (.inr fq))))) := by rw [ew_75]; exact kx_set_ne F52_1 (by omega)
                have f_78 : w_75[b + 2]? = some (ad 2, .inr (0, [.ref (ad 3), .ref (ad 4), .int (nI FF.2.2)])) := by rw [ew_75]; exact kx_set_ne F52_2 (by omega)
                have f_79 : w_75[b + 2 + 1]? = some (ad 3, .inl (k0 0, 12, .inl (fun y9 => nI (FF.1 y9)))) := by rw [ew_75]; exact kx_set_ne F52_3 (by omega)
                have f_80 : w_75[b + 2 + 2]? = some (ad 4, .inl (k0 0, 12, .inl (fun y9 => nI (FF.2.1 y9)))) := by rw [ew_75]; exact kx_set_ne F52_4 (by omega)
                have f_81 : w_75[b + 8]? = some (ad 8, .inl (k0 0, 12, .inl (fun y9 => nI ((fo_up (lv_d S (fun e => fo_rest FF.1 (LL i e) FF.2.2) dr e9) (lv_c S e9) (fo_rest FF.1 (LL i e9) FF.2.2)) y9)))) := by rw [ew_75]; exact kx_set_self F52_5
                have f_82 : w_75[b + 9 + 3 * t]? = some (ad (9 + 3 * t), .inr (1, [.ref (ad (10 + 3 * t)), .ref (ad (11 + 3 * t)), .int (nI (nE t)), .int (nI (nV t)), .int (op t)])) := by rw [ew_75]; exact kx_set_ne F52_6 (by omega)
                have f_83 : w_75[b + 9 + 3 * t + 1]? = some (ad (10 + 3 * t), .inl (k0 0, 12, .inl (fun y9 => nI ((LL t) y9)))) := by rw [ew_75]; exact kx_set_ne F52_7 (by omega)
                have f_84 : w_75[b + 9 + 3 * t + 2]? = some (ad (11 + 3 * t), .inl (k0 0, 12, .inl (ww t))) := by rw [ew_75]; exact kx_set_ne F52_8 (by omega)
                have f_85 : w_75[b + 9 + 3 * i]? = some (ad (9 + 3 * i), .inr (1, [.ref (ad (10 + 3 * i)), .ref (ad (11 + 3 * i)), .int (nI (nE i)), .int (nI (nV i)), .int (op i)])) := by rw [ew_75]; exact kx_set_ne F52_9 (by omega)
                have f_86 : w_75[b + 9 + 3 * i + 1]? = some (ad (10 + 3 * i), .inl (k0 0, 12, .inl (fun y9 => nI ((LL i) y9)))) := by rw [ew_75]; exact kx_set_ne F52_10 (by omega)
                have f_87 : w_75[b + 9 + 3 * i + 2]? = some (ad (11 + 3 * i), .inl (k0 0, 12, .inl (ww i))) := by rw [ew_75]; exact kx_set_ne F52_11 (by omega)
                have hfr : kx_fr w0 w_75 (fun j => j = b + 2 ∨ j = b + 3 ∨ j = b + 4 ∨ j = b + 8) := kx_fr_tr hfr (by rw [ew_75]; exact kx_fr_set (by omega))
                have f_88 : w_75[b + 8]? = some (ad 8, .inl (k0 0, 12, .inl (fun y9 => nI ((lv_d S (fun e => fo_rest FF.1 (LL i e) FF.2.2) dr (e9 + 1)) y9)))) := by rw [lv_d_out hS1]; exact f_81
                refine lv_iinc (v := nI (lv_c S (e9 + 1))) (lv' := [(6, .int (nI (lv_c S (e9 + 1)))), (7, .int (nI e9)), (5, .ref (ad (9 + 3 * i))), (0, .ref (ad 0)), (1, .int (nI t)), (2, .int (nI i)), (3, .int (nI S)), (4, .int jn)]) hx hb dX2_leave_93 hl (k := 1) rfl (by rw [lv_c_out hS1]; exact nI_1 _) (by decide) rfl (fun ls hl => ?_)
                refine lv_iinc (v := nI (e9 + 1)) (lv' := [(7, .int (nI (e9 + 1))), (6, .int (nI (lv_c S (e9 + 1)))), (5, .ref (ad (9 + 3 * i))), (0, .ref (ad 0)), (1, .int (nI t)), (2, .int (nI i)), (3, .int (nI S)), (4, .int jn)]) hx hb dX2_leave_96 hl (k := 1) rfl (nI_1 _) (by decide) rfl (fun ls hl => ?_)
                refine lv_goto (tgt := 52) hx hb dX2_leave_99 (by decide) ?_
                exact ih52 (e9 + 1) (by omega) (by omega) w_75 f_76 f_77 f_78 f_79 f_80 f_88 f_82 f_83 f_84 f_85 f_86 f_87 hfr _ _ hP hD hS _ (lv_sub hl [0, 1, 2, 3, 4, 5, 6, 7] rfl)
        exact loop_52 (nE i + 1) 0 (Nat.zero_le _) (by omega) u_51 f_52 f_53 f_54 f_55 f_56 f_57 f_58 f_59 f_60 f_61 f_62 f_63 hfr _ _ hP hD hS _ (lv_sub hl [0, 1, 2, 3, 4, 5, 6, 7] rfl)
    · skip
      have hno0 := kg_0 hy_ c_13
      have hno : ¬ (∃ t i S, t < 8 ∧ i < 8 ∧ S ≤ cf_full (nE i) ∧ x = nI t ∧ y = nI i ∧ z = nI S) := fun ⟨_, i, S, _, h1, h2, _, h3, h4⟩ => hno0 ⟨i, S, h1, h2, h3, h4⟩
      refine lv_iconst (v := -1) hx hb dX2_leave_16 (by decide +kernel) ?_
      exact kx_iret (v := -1) hx hb hr rfl hlocks hK hP hD hS dX2_leave_17 (⟨Or.inr ⟨hno, rfl, rfl⟩, kx_fr_rf _ _⟩)
