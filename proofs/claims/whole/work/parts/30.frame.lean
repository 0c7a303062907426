/-! CONTRACTS OVER A WHOLE WORLD: a method gets the list of all cells, and gives a list back; cells are known by their places -/
abbrev kx_T : Type := List (ClassId × FieldType)
/-- what links nest mates, and the array class of graphs: words that go from state to state -/
def kx_nest (U : State) : Prop := va_Nw (.methodLinkNest RX2 17 yX0_init RX2) U ∧ va_Nw (.methodLinkNest RX2 29 yX1_init RX2) U ∧ va_Nw (.methodLinkNest RX0 30 yX2_has RX2) U ∧ va_Nw (.methodLinkNest RX1 33 yX2_has RX2) U ∧ va_AO RX1 U
theorem kx_nest.warm {s U : State} (hW : s.WarmedH U.vm) (h : kx_nest s) : kx_nest U := ⟨va_Nw.warmM hW h.1, va_Nw.warmM hW h.2.1, va_Nw.warmM hW h.2.2.1, va_Nw.warmM hW h.2.2.2.1, va_AO.moved hW.alike h.2.2.2.2⟩
theorem kx_nest.call {U : State} {g : JFrame} {mk : MethodId} {a : Array Value} (h : kx_nest U) : kx_nest (U.calling g mk a) := ⟨va_Nw.same rfl rfl h.1, va_Nw.same rfl rfl h.2.1, va_Nw.same rfl rfl h.2.2.1, va_Nw.same rfl rfl h.2.2.2.1, va_AO.moved (u := U) (U := U.calling g mk a) (Vm.Alike.refl U.vm) h.2.2.2.2⟩
def kx_pre (D : va_G) (tys : kx_T) (ws : va_W) (sz : Nat) (av : List Value) : Array Value → State → Prop := va_Pc av (fun U => U.heap.size = sz ∧ va_P D vwCl ws U.heap ∧ va_K D vwCl tys U ∧ va_D (fun _ => True) ws ∧ kx_nest U)
def kx_B (D : va_G) (tys : kx_T) (A : Nat → Prop) (u : va_W) (t : State) : Prop := va_P D vwCl u t.heap ∧ va_K D vwCl tys t ∧ va_D A u
abbrev kx_i (l : Launch) (y : MethodName) (wds : List Cond) (rm : Room) (D : va_G) (tys : kx_T) (ws : va_W) (sz : Nat) (av : List Value) (post : Int32 → va_W → Prop) (mc ms : Nat) : Prop :=
  Met l y wds rm (kx_pre D tys ws sz av) (va_Qi post (kx_B D tys (va_A ws sz)) (va_A ws sz)) mc ms (va_A ws sz)
abbrev kx_v (l : Launch) (y : MethodName) (wds : List Cond) (rm : Room) (D : va_G) (tys : kx_T) (ws : va_W) (sz : Nat) (av : List Value) (post : va_W → Prop) (mc ms : Nat) : Prop :=
  Met l y wds rm (kx_pre D tys ws sz av) (va_Qv post (kx_B D tys (va_A ws sz)) (va_A ws sz)) mc ms (va_A ws sz)
abbrev kx_r (l : Launch) (y : MethodName) (wds : List Cond) (rm : Room) (D : va_G) (tys : kx_T) (ws : va_W) (sz : Nat) (av : List Value) (post : Nat × va_W → Prop) (mc ms : Nat) : Prop :=
  Met l y wds rm (kx_pre D tys ws sz av) (va_Qr post (fun u a t => a = u.1 ∧ kx_B D tys (va_A ws sz) u.2 t) (va_A ws sz)) mc ms (va_A ws sz)
section KX
variable {p : Program} {l : Launch} {e : Env} {R : Room} {s : State} {m : MethodId} {args : Array Value} {below : List Frame} {meth : Method} {c : Code} {H : Heap} {locs : List Loc} {cells slots : Nat} {Q : State → Prop}
variable {pc : Nat} {ls : Array Slot} {rest st0 : List Value} {a : Array Value} {A : Nat → Prop} {H0 : Heap} {mc ms : Nat} {D : va_G} {tys : kx_T} {ws : va_W}
theorem kx_free (hD : va_D A ws) (hS : va_S A H0 H locs) (hA : ∀ q, H0.size ≤ q → A q) : ∀ q, va_A ws H.size q → A q := by
  intro q h
  rcases h with ⟨k, e, hk⟩ | h
  · exact hD.2 k _ hk
  · exact hA q (Nat.le_trans hS.1 h)
theorem kx_goi {post : Int32 → va_W → Prop} (hr : va_Run p l e R s m args below meth c H locs cells slots mc ms (F0 m pc ls st0) rest (va_Qi post (kx_B D tys (va_A ws H.size)) (va_A ws H.size) a) (va_A ws H.size))
    (hD : va_D A ws) (hS : va_S A H0 H locs) (hA : ∀ q, H0.size ≤ q → A q)
    (kk : ∀ (r : Int32) (u : va_W) (H1 : Heap) (locs1 : List Loc), post r u → va_P D vwCl u H1 → va_D A u → va_S A H0 H1 locs1 → W p l e R s m args below meth c H1 locs1 (cells + mc) (slots + ms) Q (F0 m (pc + 3) ls (.int r :: rest))) : W p l e R s m args below meth c H locs cells slots Q (F0 m pc ls st0) := by
  have hFc := kx_free hD hS hA
  refine va_calli hr hS (fun q _ h => hFc q h) hFc (fun r u t H1 locs1 ht hvm hw hB hz1 hk1 hS1 => ?_)
  obtain ⟨hP1, _, hD1⟩ := hB
  rw [ht] at hP1
  exact kk r u H1 locs1 hw hP1 (hD1.weaken fun k q hk h => hFc _ h) hS1
theorem kx_gov {post : va_W → Prop} (hr : va_Run p l e R s m args below meth c H locs cells slots mc ms (F0 m pc ls st0) rest (va_Qv post (kx_B D tys (va_A ws H.size)) (va_A ws H.size) a) (va_A ws H.size))
    (hD : va_D A ws) (hS : va_S A H0 H locs) (hA : ∀ q, H0.size ≤ q → A q)
    (kk : ∀ (u : va_W) (H1 : Heap) (locs1 : List Loc), post u → va_P D vwCl u H1 → va_D A u → va_S A H0 H1 locs1 → W p l e R s m args below meth c H1 locs1 (cells + mc) (slots + ms) Q (F0 m (pc + 3) ls rest)) : W p l e R s m args below meth c H locs cells slots Q (F0 m pc ls st0) := by
  have hFc := kx_free hD hS hA
  refine va_callv hr hS (fun q _ h => hFc q h) hFc (fun u t H1 locs1 ht hvm hw hB hz1 hk1 hS1 => ?_)
  obtain ⟨hP1, _, hD1⟩ := hB
  rw [ht] at hP1
  exact kk u H1 locs1 hw hP1 (hD1.weaken fun k q hk h => hFc _ h) hS1
theorem kx_gor {post : Nat × va_W → Prop} (hr : va_Run p l e R s m args below meth c H locs cells slots mc ms (F0 m pc ls st0) rest (va_Qr post (fun u a t => a = u.1 ∧ kx_B D tys (va_A ws H.size) u.2 t) (va_A ws H.size) a) (va_A ws H.size))
    (hD : va_D A ws) (hS : va_S A H0 H locs) (hA : ∀ q, H0.size ≤ q → A q)
    (kk : ∀ (ra : Nat) (u : va_W) (H1 : Heap) (locs1 : List Loc), post (ra, u) → va_P D vwCl u H1 → va_D A u → va_S A H0 H1 locs1 → W p l e R s m args below meth c H1 locs1 (cells + mc) (slots + ms) Q (F0 m (pc + 3) ls (.ref ra :: rest))) : W p l e R s m args below meth c H locs cells slots Q (F0 m pc ls st0) := by
  have hFc := kx_free hD hS hA
  refine va_callr hr hS (fun q _ h => hFc q h) hFc (fun u ra t H1 locs1 ht hvm hw hB hz1 hk1 hS1 => ?_)
  obtain ⟨hra, hP1, _, hD1⟩ := hB
  rw [ht] at hP1
  subst hra
  exact kk u.1 u.2 H1 locs1 hw hP1 (hD1.weaken fun k q hk h => hFc _ h) hS1
theorem kx_blind {av : List Value} {sz : Nat} : FrameBlind (kx_pre D tys ws sz av) := fun a U g mk q => by
  obtain ⟨q0, q1, qP, qK, qD, qN⟩ := q
  exact ⟨q0, q1, qP, va_K.moved (u := U) (U := U.calling g mk a) (Vm.Alike.refl U.vm) qK, qD, qN.call⟩
theorem kx_preS {As : List Value} (hN : kx_nest s) (hK : va_K D vwCl tys s) (hP : va_P D vwCl ws H) (hD : va_D A ws) : PreS s H (kx_pre D tys ws H.size As) As :=
  ⟨kx_blind, fun U hU hW => ⟨rfl, by rw [hU], by rw [hU]; exact hP, va_K.moved hW.alike hK, hD.weaken fun _ _ _ _ => trivial, hN.warm hW⟩⟩
theorem kx_preV {As : List Value} {b q0 ci : Nat} {q : vw_C} {fs : List Value} (hN : kx_nest s) (hK : va_K D vwCl tys s) (hP : va_P D vwCl ws H) (hD : va_D A ws) (hc : vwCl[ci]? = some q) (he : ws[q0]? = some (b, .inr (ci, fs))) : PreV s H q.1 b (kx_pre D tys ws H.size (.ref b :: As)) As :=
  ⟨kx_blind, va_recv hK hP hc he, fun U hU hW => ⟨rfl, by rw [hU], by rw [hU]; exact hP, va_K.moved hW.alike hK, hD.weaken fun _ _ _ _ => trivial, hN.warm hW⟩⟩
theorem kx_iret {cc : ByteArray} {post : Int32 → va_W → Prop} {v : Int32} {ty : FieldType} (hx : p.tables.exec = Jvm.exec) (hb : c.code = cc) (hr : meth.sig.returnType = some ty) (hn : narrow ty (.int v) = .int v) (hlocks : meth.locks = false) (hK : va_K D vwCl tys s) (hP : va_P D vwCl ws H) (hD : va_D A ws) (hS : va_S A s.heap H locs)
    (hdg : decode cc pc = .ok (.ireturn, 1)) (hp : post v ws) : W p l e R s m args below meth c H locs cells slots (MQ below (va_Qi post (kx_B D tys A) A) args s cells slots A) (F0 m pc ls [.int v]) :=
  W.zret hx hb hr hn (fun t ht hW => ⟨⟨v, ws, rfl, hp, by rw [ht]; exact hP, va_K.moved hW.alike hK, hD⟩, hS.F ht⟩) hS.2.2 hdg hlocks
theorem kx_vret {cc : ByteArray} {post : va_W → Prop} (hx : p.tables.exec = Jvm.exec) (hb : c.code = cc) (hr : meth.sig.returnType = none) (hlocks : meth.locks = false) (hK : va_K D vwCl tys s) (hP : va_P D vwCl ws H) (hD : va_D A ws) (hS : va_S A s.heap H locs)
    (hdg : decode cc pc = .ok (.return_, 1)) (hp : post ws) : W p l e R s m args below meth c H locs cells slots (MQ below (va_Qv post (kx_B D tys A) A) args s cells slots A) (F0 m pc ls []) :=
  W.vret hx hb hr (fun t ht hW => ⟨⟨ws, rfl, hp, by rw [ht]; exact hP, va_K.moved hW.alike hK, hD⟩, hS.F ht⟩) hS.2.2 hdg hlocks
theorem kx_rret {cc : ByteArray} {post : Nat × va_W → Prop} {v : Nat} {rt : FieldType} (hx : p.tables.exec = Jvm.exec) (hb : c.code = cc) (hr : meth.sig.returnType = some rt) (hrt : (∃ n, rt = .object n) ∨ ∃ t, rt = .array t) (hlocks : meth.locks = false) (hK : va_K D vwCl tys s) (hP : va_P D vwCl ws H) (hD : va_D A ws) (hS : va_S A s.heap H locs)
    (hdg : decode cc pc = .ok (.areturn, 1)) (hp : post (v, ws)) : W p l e R s m args below meth c H locs cells slots (MQ below (va_Qr post (fun u a t => a = u.1 ∧ kx_B D tys A u.2 t) A) args s cells slots A) (F0 m pc ls [.ref v]) :=
  W.aret hx hb hr hrt (Or.inr ⟨v, rfl⟩) (fun t ht hW => ⟨⟨(v, ws), v, rfl, hp, rfl, by rw [ht]; exact hP, va_K.moved hW.alike hK, hD⟩, hS.F ht⟩) hS.2.2 hdg hlocks
end KX
/-- what a method's body starts with -/
theorem kx_of {l : Launch} {y : MethodName} {rm : Room} {D : va_G} {tys : kx_T} {ws : va_W} {sz : Nat} {av : List Value} {Qf : (Nat → Prop) → Array Value → State → Outcome → State → Prop} {mc ms : Nat} {cc : ByteArray} {maxL : Nat} {ret : Option FieldType}
    (hy : plainName y.cls = true) (hl : (lg_sl av).length ≤ maxL)
    (body : ∀ (p : Program) (e : Env) (s : State) (m : MethodId) (below : List Frame) (meth : Method) (c : Code) (A : Nat → Prop) (ls : Array Slot), p.tables.exec = Jvm.exec → c.code = cc → c.maxLocals = maxL → s.vm.findClass y.cls = some m.cls → (∀ w ∈ lw_gd, w.before av.toArray s = true) → meth.sig.returnType = ret → meth.locks = false → meth.name = y.name → kx_nest s → va_K D vwCl tys s → va_P D vwCl ws s.heap → va_D A ws → va_S A s.heap s.heap [] → (∀ q, s.heap.size ≤ q → A q) → lv_has ls maxL (lv_args 0 av) →
      W p l e rm s m av.toArray below meth c s.heap [] 0 0 (MQ below (Qf A) av.toArray s mc ms A) (F0 m 0 ls [])) : Met l y (Cond.code y cc maxL ret :: lw_gd) rm (kx_pre D tys ws sz av) (Qf (va_A ws sz)) mc ms (va_A ws sz) := by
  refine Met.ofW (cc := cc) (maxL := maxL) (ret := ret) hy rfl ?_
  intro p e s m args below meth c s₁ B hml hv
  obtain ⟨rfl, hsz, hP, hK, hD0, hN⟩ := hv
  subst hsz
  have hD := hD0.self (sz := s.heap.size)
  have hA : ∀ q : Nat, s.heap.size ≤ q → va_A ws s.heap.size q := fun q h => Or.inr h
  have hts := atoms_spec (ws := Cond.code y cc maxL ret :: lw_gd) B.pre
  rw [lg_entry_eq]
  exact body p e s m below meth c _ _ B.exec B.bytes hml (findClass_of_methodNamed B.named) (fun w h => hts w (List.mem_cons_of_mem _ h)) B.returns B.notSynchronized (name_of_methodNamed B.named B.method).1 hN hK hP hD va_S.rf hA (lv_entry av hl)
/-- the words of a callee: all the tables' -/
theorem kg_C {y : MethodName} {cc : ByteArray} {n : Nat} {r : Option FieldType} (h : Cond.code y cc n r ∈ lw_gd) : GoodIn lw_gd (Cond.code y cc n r :: lw_gd) := fun w hw => by
  have h1 : w ∈ lw_gd := (List.mem_cons.mp hw).elim (fun e => e ▸ h) id
  exact ⟨h1, good_of_word (List.mem_filter.mp h1).2⟩
theorem kg_B {own : String} {idx : Nat} {y : MethodName} {cc : ByteArray} {maxL k : Nat} {r : Option FieldType} {rm R : Room} {mc ms : Nat} {s : State} {args : Array Value} (hts : ∀ w ∈ lw_gd, w.before args s = true) (hc : Cond.code y cc maxL r ∈ lw_gd) (hl : Cond.methodLink own idx y ∈ lw_gd) (hi : Cond.initialized y.cls ∈ lw_gd)
    (hd : y.cls ≠ "java/lang/invoke/MethodHandle" ∧ y.cls ≠ "java/lang/invoke/VarHandle" ∧ (parseMethodDescriptor y.desc).map (fun d => d.parameters.length) = some k) (hrc : rm.cells = mc) (hrs : rm.slots = ms) (hR : rm.frames + 1 ≤ R.frames ∧ 8 + (maxL + 11) + rm.locals ≤ R.locals) : CallB R s args own idx y cc maxL r (Cond.code y cc maxL r :: lw_gd) rm mc ms k :=
  callB_of k hts (kg_C hc) rfl hrc hrs (hts _ hi) (hts _ hl) hd hR
theorem kg_N {own host : String} {idx : Nat} {y : MethodName} {cc : ByteArray} {maxL k : Nat} {r : Option FieldType} {rm R : Room} {mc ms : Nat} {s : State} {args : Array Value} (hts : ∀ w ∈ lw_gd, w.before args s = true) (hc : Cond.code y cc maxL r ∈ lw_gd) (hl : va_Nw (.methodLinkNest own idx y host) s) (hi : Cond.initialized y.cls ∈ lw_gd)
    (hd : y.cls ≠ "java/lang/invoke/MethodHandle" ∧ y.cls ≠ "java/lang/invoke/VarHandle" ∧ (parseMethodDescriptor y.desc).map (fun d => d.parameters.length) = some k) (hrc : rm.cells = mc) (hrs : rm.slots = ms) (hR : rm.frames + 1 ≤ R.frames ∧ 8 + (maxL + 11) + rm.locals ≤ R.locals) : va_CN R s args own idx y host cc maxL r (Cond.code y cc maxL r :: lw_gd) rm mc ms k :=
  va_cnB k hts (kg_C hc) rfl hrc hrs hl (hts _ hi) hd hR
/-- the classes of arrays -/
abbrev tyL (k : Nat → ClassId) : kx_T := [(k 0, .int), (k 1, .object RX1), (k 2, .boolean), (k 3, .byte)]
/-- worlds that are the same but at some places -/
def kx_fr (ws ws' : va_W) (P : Nat → Prop) : Prop := ∀ k, ¬ P k → ws'[k]? = ws[k]?
theorem kx_fr_rf (ws : va_W) (P : Nat → Prop) : kx_fr ws ws P := fun _ _ => rfl
theorem kx_fr_tr {ws ws' ws'' : va_W} {P : Nat → Prop} (h : kx_fr ws ws' P) (k : kx_fr ws' ws'' P) : kx_fr ws ws'' P := fun i hi => (k i hi).trans (h i hi)
theorem kx_fr_mono {ws ws' : va_W} {P P' : Nat → Prop} (h : kx_fr ws ws' P) (hp : ∀ k, P k → P' k) : kx_fr ws ws' P' := fun i hi => h i fun q => hi (hp i q)
theorem kx_fr_set {ws : va_W} {q : Nat} {x : Nat × va_E} {P : Nat → Prop} (hq : P q) : kx_fr ws (ws.set q x) P := fun i hi => by
  rw [List.getElem?_set_ne (fun e => hi (by rw [← e]; exact hq))]
theorem kx_set_self {ws : va_W} {q : Nat} {x y : Nat × va_E} (h : ws[q]? = some y) : (ws.set q x)[q]? = some x := by
  rw [List.getElem?_set_self (List.getElem?_eq_some_iff.mp h).1]
theorem kx_set_ne {ws : va_W} {q r : Nat} {x y : Nat × va_E} (h : ws[r]? = some y) (hn : q ≠ r) : (ws.set q x)[r]? = some y := by
  rw [List.getElem?_set_ne hn]; exact h
