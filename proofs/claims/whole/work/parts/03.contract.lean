/-! CONTRACTS over the world: a method is a function on (mi, ml): given arguments av it returns rv and leaves mi1, ml1, the kinds sh', the heap's size z1. d: how deep it calls. -/
abbrev zc_Y : Type := MethodName × ByteArray × Nat × Option FieldType
def zc_P (D : va_G) (cA : Nat → ClassId) (ad : Nat → Nat) (sh : zw_Sh) (mi : zw_I) (ml : zw_L) (z : Nat) (av : List Value) : Array Value → State → Prop := fun v U => v = av.toArray ∧ zw_E D cA U ∧ zw_W D cA ad sh mi ml U.heap ∧ zw_J ad sh ∧ U.heap.size = z
def zc_Q (D : va_G) (cA : Nat → ClassId) (ad : Nat → Nat) (sh sh' : zw_Sh) (z : Nat) (rv : Option Value) (mi1 : zw_I) (ml1 : zw_L) (z1 : Nat) : Array Value → State → Outcome → State → Prop := fun _ st oc t =>
  oc = .returned rv ∧ zw_W D cA ad sh' mi1 ml1 t.heap ∧ zw_J ad sh' ∧ (∀ (k : Nat) (q : zw_Sp), sh' k = some q → zw_A ad sh z (ad k)) ∧ t.heap.size = z1 ∧ va_F (zw_A ad sh z) st t
def zc_R (d mc ms : Nat) : Room := { frames := d, cells := mc, slots := ms, locals := 40 * d }
def zc_M (l : Launch) (D : va_G) (cA : Nat → ClassId) (Y : zc_Y) (d mc ms : Nat) (ad : Nat → Nat) (sh sh' : zw_Sh) (z : Nat) (av : List Value) (mi : zw_I) (ml : zw_L) (rv : Option Value) (mi1 : zw_I) (ml1 : zw_L) (z1 : Nat) : Prop :=
  Met l Y.1 [Cond.code Y.1 Y.2.1 Y.2.2.1 Y.2.2.2] (zc_R d mc ms) (zc_P D cA ad sh mi ml z av) (zc_Q D cA ad sh sh' z rv mi1 ml1 z1) mc ms (zw_A ad sh z)
theorem zc_blind {D : va_G} {cA : Nat → ClassId} {ad : Nat → Nat} {sh : zw_Sh} {mi : zw_I} {ml : zw_L} {z : Nat} {av : List Value} : FrameBlind (zc_P D cA ad sh mi ml z av) := fun a U g mk q => ⟨q.1, q.2.1.warm (U := U.calling g mk a) (State.WarmedH.refl U), q.2.2.1, q.2.2.2.1, q.2.2.2.2⟩
/-- what a call by its name needs: n arguments -/
def zw_MV (own : String) (index : Nat) (Y : zc_Y) (C : String) (n : Nat) : Prop := (Cond.methodLink own index Y.1 ∈ zw_Tb ∨ ∃ host : String, Cond.methodLinkNest own index Y.1 host ∈ zw_Tb) ∧ Cond.instanceMethod Y.1 ∈ zw_Tb ∧ Cond.selects C Y.1 Y.1 ∈ zw_Tb ∧ Cond.code Y.1 Y.2.1 Y.2.2.1 Y.2.2.2 ∈ zw_Tb ∧ Cond.initialized Y.1.cls ∈ zw_Tb ∧
  (Y.1.cls ≠ "java/lang/invoke/MethodHandle" ∧ Y.1.cls ≠ "java/lang/invoke/VarHandle") ∧ (parseMethodDescriptor Y.1.desc).map (fun d => d.parameters.length) = some n
def zw_MS (own : String) (index : Nat) (Y : zc_Y) (n : Nat) : Prop := (Cond.methodLink own index Y.1 ∈ zw_Tb ∨ ∃ host : String, Cond.methodLinkNest own index Y.1 host ∈ zw_Tb) ∧ Cond.static Y.1 ∈ zw_Tb ∧ Cond.code Y.1 Y.2.1 Y.2.2.1 Y.2.2.2 ∈ zw_Tb ∧ Cond.initialized Y.1.cls ∈ zw_Tb ∧
  (Y.1.cls ≠ "java/lang/invoke/MethodHandle" ∧ Y.1.cls ≠ "java/lang/invoke/VarHandle") ∧ (parseMethodDescriptor Y.1.desc).map (fun d => d.parameters.length) = some n
def zw_MI (own : String) (index : Nat) (Y : zc_Y) (n : Nat) : Prop := Y.1.name = "<init>" ∧ Y.2.2.2 = none ∧ (Cond.methodLink own index Y.1 ∈ zw_Tb ∨ ∃ host : String, Cond.methodLinkNest own index Y.1 host ∈ zw_Tb) ∧ Cond.instanceMethod Y.1 ∈ zw_Tb ∧ Cond.code Y.1 Y.2.1 Y.2.2.1 none ∈ zw_Tb ∧ Cond.initialized Y.1.cls ∈ zw_Tb ∧
  (Y.1.cls ≠ "java/lang/invoke/MethodHandle" ∧ Y.1.cls ≠ "java/lang/invoke/VarHandle") ∧ (parseMethodDescriptor Y.1.desc).map (fun d => d.parameters.length) = some n
theorem zw_len {y : MethodName} {n : Nat} (h : (parseMethodDescriptor y.desc).map (fun d => d.parameters.length) = some n) : ∀ sig, parseMethodDescriptor y.desc = some sig → n = sig.parameters.length := fun sig hs => by
  rw [hs] at h
  exact (Option.some.inj h).symm
section ZC
variable {p : Program} {l : Launch} {e : Env} {R : Room} {s : State} {m : MethodId} {args : Array Value} {below : List Frame} {meth : Method} {c : Code} {H : Heap} {locs : List Loc} {cells slots : Nat} {Q : State → Prop}
variable {cc : ByteArray} {pc nL : Nat} {ls : Array Slot} {rest st0 : List Value} {D : va_G} {cA : Nat → ClassId} {own : String} {ad : Nat → Nat} {sh sh' : zw_Sh} {A : Nat → Prop} {H0 : Heap} {mi mi1 mi' : zw_I} {ml ml1 ml' : zw_L} {z z1 d mc ms : Nat} {av As : List Value} {rv : Option Value} {Y : zc_Y}
/-- a contract out of a walk of the body -/
theorem zc_enter (hy : plainName Y.1.cls = true) (hown : Y.1.cls = own) (hnl : (lg_sl av).length ≤ Y.2.2.1)
    (body : ∀ (p : Program) (e : Env) (s : State) (m : MethodId) (below : List Frame) (meth : Method) (c : Code), zw_C D cA own Y.2.1 Y.2.2.1 p m c s → meth.sig.returnType = Y.2.2.2 → meth.locks = false → meth.name = Y.1.name → zw_B D cA ad sh (zw_A ad sh z) s.heap mi ml z s.heap [] →
      ∀ ls : Array Slot, lv_has ls Y.2.2.1 (lv_args 0 av) → W p l e (zc_R d mc ms) s m av.toArray below meth c s.heap [] 0 0 (MQ below (zc_Q D cA ad sh sh' z rv mi1 ml1 z1) av.toArray s mc ms (zw_A ad sh z)) (F0 m 0 ls [])) :
    zc_M l D cA Y d mc ms ad sh sh' z av mi ml rv mi1 ml1 z1 := by
  refine Met.ofW (cc := Y.2.1) (maxL := Y.2.2.1) (ret := Y.2.2.2) hy rfl ?_
  intro p e s m args below meth c s₁ B hml hv
  obtain ⟨rfl, hE, hW, hJ, hz⟩ := hv
  have hown' : s.vm.findClass own = some m.cls := by rw [← hown]; exact findClass_of_methodNamed B.named
  rw [lg_entry_eq]
  exact body p e s m below meth c ⟨B.exec, B.bytes, hml, hown', hE⟩ B.returns B.notSynchronized (name_of_methodNamed B.named B.method).1 ⟨hW, hJ, fun k q hk => Or.inl ⟨k, q, hk, rfl⟩, va_S.rf, hz, fun q h => Or.inr (by rw [← hz]; exact h)⟩ _ (lv_entry av hnl)
theorem zc_end {t : State} {oc : Outcome} (hB : zw_B D cA ad sh' (zw_A ad sh z) s.heap mi1 ml1 z1 H locs) (ho : oc = .returned rv) (ht : t.heap = H) (a : Array Value) : zc_Q D cA ad sh sh' z rv mi1 ml1 z1 a s oc t :=
  ⟨ho, by rw [ht]; exact hB.1, hB.2.1, hB.2.2.1, by rw [ht]; exact hB.2.2.2.2.1, hB.2.2.2.1.F ht⟩
theorem zc_iret (X : zw_C D cA own cc nL p m c s) (hr : meth.sig.returnType = some .int) (hlocks : meth.locks = false) (hB : zw_B D cA ad sh' (zw_A ad sh z) s.heap mi' ml' z1 H locs) {v : Int32} (hv : some (Value.int v) = rv) (hm : mi' = mi1) (hl : ml' = ml1) (hdg : decode cc pc = .ok (.ireturn, 1)) :
    W p l e R s m args below meth c H locs cells slots (MQ below (zc_Q D cA ad sh sh' z rv mi1 ml1 z1) args s cells slots (zw_A ad sh z)) (F0 m pc ls [.int v]) := by
  subst hv; subst hm; subst hl
  exact W.iret X.1 X.2.1 hr (fun t ht _ => zc_end hB rfl ht args) hB.2.2.2.1.2.2 hdg hlocks
theorem zc_zret (X : zw_C D cA own cc nL p m c s) (hr : meth.sig.returnType = some .boolean) (hlocks : meth.locks = false) (hB : zw_B D cA ad sh' (zw_A ad sh z) s.heap mi' ml' z1 H locs) {v : Int32} (hn : narrow .boolean (.int v) = .int v) (hv : some (Value.int v) = rv) (hm : mi' = mi1) (hl : ml' = ml1) (hdg : decode cc pc = .ok (.ireturn, 1)) :
    W p l e R s m args below meth c H locs cells slots (MQ below (zc_Q D cA ad sh sh' z rv mi1 ml1 z1) args s cells slots (zw_A ad sh z)) (F0 m pc ls [.int v]) := by
  subst hv; subst hm; subst hl
  exact W.zret X.1 X.2.1 hr hn (fun t ht _ => zc_end hB rfl ht args) hB.2.2.2.1.2.2 hdg hlocks
theorem zc_lret (X : zw_C D cA own cc nL p m c s) (hr : meth.sig.returnType = some .long) (hlocks : meth.locks = false) (hB : zw_B D cA ad sh' (zw_A ad sh z) s.heap mi' ml' z1 H locs) {v : Int64} (hv : some (Value.long v) = rv) (hm : mi' = mi1) (hl : ml' = ml1) (hdg : decode cc pc = .ok (.lreturn, 1)) :
    W p l e R s m args below meth c H locs cells slots (MQ below (zc_Q D cA ad sh sh' z rv mi1 ml1 z1) args s cells slots (zw_A ad sh z)) (F0 m pc ls [.long v]) := by
  subst hv; subst hm; subst hl
  exact W.lret X.1 X.2.1 hr (fun t ht _ => zc_end hB rfl ht args) hB.2.2.2.1.2.2 hdg hlocks
theorem zc_vret (X : zw_C D cA own cc nL p m c s) (hr : meth.sig.returnType = none) (hlocks : meth.locks = false) (hB : zw_B D cA ad sh' (zw_A ad sh z) s.heap mi' ml' z1 H locs) (hv : none = rv) (hm : mi' = mi1) (hl : ml' = ml1) (hdg : decode cc pc = .ok (.return_, 1)) :
    W p l e R s m args below meth c H locs cells slots (MQ below (zc_Q D cA ad sh sh' z rv mi1 ml1 z1) args s cells slots (zw_A ad sh z)) (F0 m pc ls []) := by
  subst hv; subst hm; subst hl
  exact W.vret X.1 X.2.1 hr (fun t ht _ => zc_end hB rfl ht args) hB.2.2.2.1.2.2 hdg hlocks
/-- behind a call -/
theorem zw_after {a : Array Value} (hr : va_Run p l e R s m args below meth c H locs cells slots mc ms (F0 m pc ls st0) rest (zc_Q D cA ad sh sh' z rv mi1 ml1 z1 a) (zw_A ad sh z)) (hB : zw_B D cA ad sh A H0 mi ml z H locs)
    (kk : ∀ (H1 : Heap) (locs1 : List Loc), zw_B D cA ad sh' A H0 mi1 ml1 z1 H1 locs1 → W p l e R s m args below meth c H1 locs1 (cells + mc) (slots + ms) Q (F0 m (pc + 3) ls (rv.toList ++ rest))) : W p l e R s m args below meth c H locs cells slots Q (F0 m pc ls st0) := by
  intro T hT X
  obtain ⟨v, st₀, t, T', L, h0, X', hL, e1, e2, ⟨hv, hW, hJ, hA', hz1, hF1, hF2⟩, st⟩ := hr T hT X
  cases hv
  obtain ⟨hW0, hJ0, hA0, hS0, hsz, hT0⟩ := hB
  have hAA : ∀ q, zw_A ad sh z q → A q := fun q h => by
    rcases h with ⟨k, p, hk, rfl⟩ | h
    · exact hA0 k p hk
    · exact hT0 q (Nat.le_trans hS0.1 (by rw [hsz]; exact h))
  rw [h0] at hF1 hF2
  obtain ⟨t2, a1, b1⟩ := kk T'.heap (locs ++ L) ⟨by rw [e1]; exact hW, hJ, fun k q hk => hAA _ (hA' k q hk), ⟨Nat.le_trans hS0.1 (by rw [e1]; exact hF1), fun q h1 h2 => by
      rw [e1, hF2 q (Nat.lt_of_lt_of_le h1 hS0.1) (fun z => h2 (hAA q z))]
      exact hS0.2.1 q h1 h2, fun q hq => by
      rcases List.mem_append.mp hq with h | h
      · exact hS0.2.2 q h
      · exact hAA _ (hL q h)⟩, by rw [e1]; exact hz1, hT0⟩ T' rfl X'
  exact ⟨t2, st t2 a1, b1⟩
theorem zw_pre (X : zw_C D cA own cc nL p m c s) (hB : zw_B D cA ad sh A H0 mi ml z H locs) : PreS s H (zc_P D cA ad sh mi ml z av) av := ⟨zc_blind, fun U hU hW => ⟨rfl, X.2.2.2.2.warm hW, by rw [hU]; exact hB.1, hB.2.1, by rw [hU]; exact hB.2.2.2.2.1⟩⟩
theorem zw_recv (X : zw_C D cA own cc nL p m c s) (hB : zw_B D cA ad sh A H0 mi ml z H locs) {k ci : Nat} {fs : List (Nat × Nat)} (hk : sh k = some (.inl (ci, fs))) {C : String} {T : u_T} {N : Nat} (hc : zw_cl[ci]? = some (C, T, N)) : ∃ cellB : Cell, H[ad k]? = some cellB ∧ cellB.vm.isStatics = false ∧ s.vm.findClass C = some cellB.cls := by
  obtain ⟨r, h1, cell, q1, q2, q3, -⟩ := hB.at hk
  exact ⟨cell, q1, by rw [q3]; rfl, by rw [q2]; exact (X.2.2.2.2.1.1 ci _ hc).2.1⟩
theorem zw_callV (X : zw_C D cA own cc nL p m c s) (hB : zw_B D cA ad sh A H0 mi ml z H locs) {C : String} {index n : Nat} (ML : zw_MV own index Y C n) (k : Nat) {ci : Nat} {fs : List (Nat × Nat)} (hk : sh k = some (.inl (ci, fs))) {T : u_T} {N : Nat} (hc : zw_cl[ci]? = some (C, T, N))
    (hM : zc_M l D cA Y d mc ms ad sh sh' z (.ref (ad k) :: As) mi ml rv mi1 ml1 z1) (hn : As.length = n) (hsz : ls.size = nL) (hR : d + 1 ≤ R.frames ∧ 8 + (Y.2.2.1 + 11) + 40 * d ≤ R.locals) (hst : As.reverse ++ .ref (ad k) :: rest = st0) (hW : (rest.map fun v => v.category).sum ≤ 8) (hf : cells + mc ≤ R.cells ∧ slots + ms ≤ R.slots) (hdg : decode cc pc = .ok (.invokevirtual index, 3))
    (kk : ∀ (H1 : Heap) (locs1 : List Loc), zw_B D cA ad sh' A H0 mi1 ml1 z1 H1 locs1 → W p l e R s m args below meth c H1 locs1 (cells + mc) (slots + ms) Q (F0 m (pc + 3) ls (rv.toList ++ rest))) : W p l e R s m args below meth c H locs cells slots Q (F0 m pc ls st0) := by
  subst hst
  obtain ⟨hlink, hin, hsel, hcode, hini, hy, hpar⟩ := ML
  have hts : ∀ w ∈ zw_Tb, w.before args s = true := X.2.2.2.2.ts
  have hws : ∀ w ∈ [Cond.code Y.1 Y.2.1 Y.2.2.1 Y.2.2.2], ∀ (a' : Array Value) (U : State), s.WarmedH U.vm → w.before a' U = true := fun w hw a' U hW => (X.2.2.2.2.warm hW).ts w (by rw [List.mem_singleton.mp hw]; exact hcode)
  have hp := zw_pre (av := .ref (ad k) :: As) X hB
  rcases hlink with h | ⟨host, h⟩
  · exact zw_after (va_runV (C := C) ⟨X.1, X.2.1, X.2.2.1, X.2.2.2.1, hts⟩ hM ⟨⟨rfl, rfl, hR.1, hR.2, hws, List.mem_singleton.mpr rfl, hts _ hcode, hts _ hini, hy, zw_len hpar, hts _ h⟩, hts _ hin, hts _ hsel⟩ ⟨hp.1, zw_recv X hB hk hc, hp.2⟩ rfl hn hsz rfl (lv_room hW) hdg hf) hB kk
  · exact zw_after (va_runVN (C := C) (host := host) ⟨X.1, X.2.1, X.2.2.1, X.2.2.2.1, hts⟩ hM ⟨⟨⟨rfl, rfl, hR.1, hR.2, hws, List.mem_singleton.mpr rfl⟩, hts _ hcode, hts _ hini, hy, zw_len hpar, hts _ h⟩, hts _ hin, hts _ hsel⟩ ⟨hp.1, zw_recv X hB hk hc, hp.2⟩ rfl hn hsz rfl (lv_room hW) hdg hf) hB kk
theorem zw_callS (X : zw_C D cA own cc nL p m c s) (hB : zw_B D cA ad sh A H0 mi ml z H locs) {index n : Nat} (ML : zw_MS own index Y n)
    (hM : zc_M l D cA Y d mc ms ad sh sh' z As mi ml rv mi1 ml1 z1) (hn : As.length = n) (hsz : ls.size = nL) (hR : d + 1 ≤ R.frames ∧ 8 + (Y.2.2.1 + 11) + 40 * d ≤ R.locals) (hst : As.reverse ++ rest = st0) (hW : (rest.map fun v => v.category).sum ≤ 8) (hf : cells + mc ≤ R.cells ∧ slots + ms ≤ R.slots) (hdg : decode cc pc = .ok (.invokestatic index, 3))
    (kk : ∀ (H1 : Heap) (locs1 : List Loc), zw_B D cA ad sh' A H0 mi1 ml1 z1 H1 locs1 → W p l e R s m args below meth c H1 locs1 (cells + mc) (slots + ms) Q (F0 m (pc + 3) ls (rv.toList ++ rest))) : W p l e R s m args below meth c H locs cells slots Q (F0 m pc ls st0) := by
  subst hst
  obtain ⟨hlink, hstt, hcode, hini, hy, hpar⟩ := ML
  have hts : ∀ w ∈ zw_Tb, w.before args s = true := X.2.2.2.2.ts
  have hws : ∀ w ∈ [Cond.code Y.1 Y.2.1 Y.2.2.1 Y.2.2.2], ∀ (a' : Array Value) (U : State), s.WarmedH U.vm → w.before a' U = true := fun w hw a' U hW => (X.2.2.2.2.warm hW).ts w (by rw [List.mem_singleton.mp hw]; exact hcode)
  have hp := zw_pre (av := As) X hB
  rcases hlink with h | ⟨host, h⟩
  · exact zw_after (va_runS ⟨X.1, X.2.1, X.2.2.1, X.2.2.2.1, hts⟩ hM ⟨⟨rfl, rfl, hR.1, hR.2, hws, List.mem_singleton.mpr rfl, hts _ hcode, hts _ hini, hy, zw_len hpar, hts _ h⟩, hts _ hstt⟩ hp rfl hn hsz rfl (lv_room hW) hdg hf) hB kk
  · exact zw_after (va_runSN (host := host) ⟨X.1, X.2.1, X.2.2.1, X.2.2.2.1, hts⟩ hM ⟨⟨⟨rfl, rfl, hR.1, hR.2, hws, List.mem_singleton.mpr rfl⟩, hts _ hcode, hts _ hini, hy, zw_len hpar, hts _ h⟩, hts _ hstt, trivial⟩ hp rfl hn hsz rfl (lv_room hW) hdg hf) hB kk
theorem zw_callI (X : zw_C D cA own cc nL p m c s) (hB : zw_B D cA ad sh A H0 mi ml z H locs) {index n : Nat} (ML : zw_MI own index Y n) {b : Nat}
    (hM : zc_M l D cA Y d mc ms ad sh sh' z (.ref b :: As) mi ml rv mi1 ml1 z1) (hn : As.length = n) (hsz : ls.size = nL) (hR : d + 1 ≤ R.frames ∧ 8 + (Y.2.2.1 + 11) + 40 * d ≤ R.locals) (hst : As.reverse ++ .ref b :: rest = st0) (hW : (rest.map fun v => v.category).sum ≤ 8) (hf : cells + mc ≤ R.cells ∧ slots + ms ≤ R.slots) (hdg : decode cc pc = .ok (.invokespecial index, 3))
    (kk : ∀ (H1 : Heap) (locs1 : List Loc), zw_B D cA ad sh' A H0 mi1 ml1 z1 H1 locs1 → W p l e R s m args below meth c H1 locs1 (cells + mc) (slots + ms) Q (F0 m (pc + 3) ls (rv.toList ++ rest))) : W p l e R s m args below meth c H locs cells slots Q (F0 m pc ls st0) := by
  subst hst
  obtain ⟨hy1, hret, hlink, hin, hcode, hini, hy, hpar⟩ := ML
  have hts : ∀ w ∈ zw_Tb, w.before args s = true := X.2.2.2.2.ts
  unfold zc_M at hM
  rw [hret] at hM
  have hws : ∀ w ∈ [Cond.code Y.1 Y.2.1 Y.2.2.1 none], ∀ (a' : Array Value) (U : State), s.WarmedH U.vm → w.before a' U = true := fun w hw a' U hW => (X.2.2.2.2.warm hW).ts w (by rw [List.mem_singleton.mp hw]; exact hcode)
  have hp := zw_pre (av := .ref b :: As) X hB
  rcases hlink with h | ⟨host, h⟩
  · exact zw_after (va_runI ⟨X.1, X.2.1, X.2.2.1, X.2.2.2.1, hts⟩ hM ⟨⟨rfl, rfl, hR.1, hR.2, hws, List.mem_singleton.mpr rfl, hts _ hcode, hts _ hini, hy, zw_len hpar, hts _ h⟩, hy1, hts _ hin⟩ hp rfl hn hsz rfl (lv_room hW) hdg hf) hB kk
  · exact zw_after (va_runIN (host := host) ⟨X.1, X.2.1, X.2.2.1, X.2.2.2.1, hts⟩ hM ⟨⟨⟨rfl, rfl, hR.1, hR.2, hws, List.mem_singleton.mpr rfl⟩, hts _ hcode, hts _ hini, hy, zw_len hpar, hts _ h⟩, hy1, hts _ hin⟩ hp rfl hn hsz rfl (lv_room hW) hdg hf) hB kk
/-- calls that hand back a value, and those that don't -/
theorem zw_callVr (X : zw_C D cA own cc nL p m c s) (hB : zw_B D cA ad sh A H0 mi ml z H locs) {C : String} {index n : Nat} (ML : zw_MV own index Y C n) (k : Nat) {ci : Nat} {fs : List (Nat × Nat)} (hk : sh k = some (.inl (ci, fs))) {T : u_T} {N : Nat} (hc : zw_cl[ci]? = some (C, T, N)) {v : Value}
    (hM : zc_M l D cA Y d mc ms ad sh sh' z (.ref (ad k) :: As) mi ml (some v) mi1 ml1 z1) (hn : As.length = n) (hsz : ls.size = nL) (hR : d + 1 ≤ R.frames ∧ 8 + (Y.2.2.1 + 11) + 40 * d ≤ R.locals) (hst : As.reverse ++ .ref (ad k) :: rest = st0) (hW : (rest.map fun v => v.category).sum ≤ 8) (hf : cells + mc ≤ R.cells ∧ slots + ms ≤ R.slots) (hdg : decode cc pc = .ok (.invokevirtual index, 3))
    (kk : ∀ (H1 : Heap) (locs1 : List Loc), zw_B D cA ad sh' A H0 mi1 ml1 z1 H1 locs1 → W p l e R s m args below meth c H1 locs1 (cells + mc) (slots + ms) Q (F0 m (pc + 3) ls (v :: rest))) : W p l e R s m args below meth c H locs cells slots Q (F0 m pc ls st0) :=
  zw_callV X hB ML k hk hc hM hn hsz hR hst hW hf hdg kk
theorem zw_callVv (X : zw_C D cA own cc nL p m c s) (hB : zw_B D cA ad sh A H0 mi ml z H locs) {C : String} {index n : Nat} (ML : zw_MV own index Y C n) (k : Nat) {ci : Nat} {fs : List (Nat × Nat)} (hk : sh k = some (.inl (ci, fs))) {T : u_T} {N : Nat} (hc : zw_cl[ci]? = some (C, T, N))
    (hM : zc_M l D cA Y d mc ms ad sh sh' z (.ref (ad k) :: As) mi ml none mi1 ml1 z1) (hn : As.length = n) (hsz : ls.size = nL) (hR : d + 1 ≤ R.frames ∧ 8 + (Y.2.2.1 + 11) + 40 * d ≤ R.locals) (hst : As.reverse ++ .ref (ad k) :: rest = st0) (hW : (rest.map fun v => v.category).sum ≤ 8) (hf : cells + mc ≤ R.cells ∧ slots + ms ≤ R.slots) (hdg : decode cc pc = .ok (.invokevirtual index, 3))
    (kk : ∀ (H1 : Heap) (locs1 : List Loc), zw_B D cA ad sh' A H0 mi1 ml1 z1 H1 locs1 → W p l e R s m args below meth c H1 locs1 (cells + mc) (slots + ms) Q (F0 m (pc + 3) ls rest)) : W p l e R s m args below meth c H locs cells slots Q (F0 m pc ls st0) :=
  zw_callV X hB ML k hk hc hM hn hsz hR hst hW hf hdg kk
theorem zw_callSr (X : zw_C D cA own cc nL p m c s) (hB : zw_B D cA ad sh A H0 mi ml z H locs) {index n : Nat} (ML : zw_MS own index Y n) {v : Value}
    (hM : zc_M l D cA Y d mc ms ad sh sh' z As mi ml (some v) mi1 ml1 z1) (hn : As.length = n) (hsz : ls.size = nL) (hR : d + 1 ≤ R.frames ∧ 8 + (Y.2.2.1 + 11) + 40 * d ≤ R.locals) (hst : As.reverse ++ rest = st0) (hW : (rest.map fun v => v.category).sum ≤ 8) (hf : cells + mc ≤ R.cells ∧ slots + ms ≤ R.slots) (hdg : decode cc pc = .ok (.invokestatic index, 3))
    (kk : ∀ (H1 : Heap) (locs1 : List Loc), zw_B D cA ad sh' A H0 mi1 ml1 z1 H1 locs1 → W p l e R s m args below meth c H1 locs1 (cells + mc) (slots + ms) Q (F0 m (pc + 3) ls (v :: rest))) : W p l e R s m args below meth c H locs cells slots Q (F0 m pc ls st0) :=
  zw_callS X hB ML hM hn hsz hR hst hW hf hdg kk
theorem zw_callIv (X : zw_C D cA own cc nL p m c s) (hB : zw_B D cA ad sh A H0 mi ml z H locs) {index n : Nat} (ML : zw_MI own index Y n) {b : Nat}
    (hM : zc_M l D cA Y d mc ms ad sh sh' z (.ref b :: As) mi ml none mi1 ml1 z1) (hn : As.length = n) (hsz : ls.size = nL) (hR : d + 1 ≤ R.frames ∧ 8 + (Y.2.2.1 + 11) + 40 * d ≤ R.locals) (hst : As.reverse ++ .ref b :: rest = st0) (hW : (rest.map fun v => v.category).sum ≤ 8) (hf : cells + mc ≤ R.cells ∧ slots + ms ≤ R.slots) (hdg : decode cc pc = .ok (.invokespecial index, 3))
    (kk : ∀ (H1 : Heap) (locs1 : List Loc), zw_B D cA ad sh' A H0 mi1 ml1 z1 H1 locs1 → W p l e R s m args below meth c H1 locs1 (cells + mc) (slots + ms) Q (F0 m (pc + 3) ls rest)) : W p l e R s m args below meth c H locs cells slots Q (F0 m pc ls st0) :=
  zw_callI X hB ML hM hn hsz hR hst hW hf hdg kk
end ZC
abbrev zc_W (l : Launch) (D : va_G) (cA : Nat → ClassId) (ad : Nat → Nat) (sh sh' : zw_Sh) (z : Nat) (av : List Value) (d mc ms : Nat) (rv : Option Value) (mi1 : zw_I) (ml1 : zw_L) (z1 : Nat) (p : Program) (e : Env) (s : State) (m : MethodId) (below : List Frame) (meth : Method) (c : Code) (H : Heap) (locs : List Loc) (cells slots : Nat) (g : JFrame) : Prop :=
  W p l e (zc_R d mc ms) s m av.toArray below meth c H locs cells slots (MQ below (zc_Q D cA ad sh sh' z rv mi1 ml1 z1) av.toArray s mc ms (zw_A ad sh z)) g
theorem vlt {x : Int32} {n : Nat} (h : vp_in x n) : x.toNatClampNeg < n := Nat.not_le.mp fun q => h (Or.inr q)
theorem zn_lt {a b : Nat} (hb : b < 2 ^ 31) (h : ¬ nI a ≤ nI b) : b < a := Nat.not_le.mp fun q => h (nI_le q hb)
theorem zn_le {a b : Nat} (ha : a < 2 ^ 31) (hb : b < 2 ^ 31) (h : nI a ≤ nI b) : a ≤ b := (nI_leI ha hb).mp h
