/-! THROWS: a method returns, or throws a new object of a class; what its caller does then. The machine is started without stack traces. Throws come before any write, so the world is as it was, with one cell more. -/
def zt_L (n d : String) (b : Nat) (U : State) (H : Heap) : Prop := ∃ (c : ClassId) (k : Class) (i : Nat) (f : Field) (a : Nat) (cell : Cell), U.vm.findClass Bundle.tN = some c ∧ U.fieldFound? Bundle.tN n d = some (c, k, i, f) ∧ f.isStatic = true ∧ k.statics = some a ∧ H[a]? = some cell ∧ cell.vm.isStatics = true ∧ cell.cls = c ∧ f.slot < cell.slots.size ∧ k.staticTypes[f.slot]? = some f.type ∧ a < b
theorem zt_L.go {n d : String} {b : Nat} {u U : State} {H H1 : Heap} (h : zt_L n d b u H) (hvm : u.vm.Alike U.vm) (hq : ∀ a : Nat, a < b → H1[a]? = H[a]?) : zt_L n d b U H1 := by
  obtain ⟨c, k, i, f, a, cell, h1, h2, h3, h4, h5, h6, h7, h8, h9, h10⟩ := h
  obtain ⟨k', hi', he⟩ := State.fieldFound?_setVm hvm h2
  exact ⟨c, k', i, f, a, cell, by rw [hvm.findClass]; exact h1, hi', h3, by rw [he]; exact h4, by rw [hq a h10]; exact h5, h6, h7, h8, by rw [he]; exact h9, h10⟩
theorem zt_L.word {n d : String} {b : Nat} {U : State} {args : Array Value} (h : zt_L n d b U U.heap) : (Cond.laysStatic Bundle.tN n d).before args U = true := by
  obtain ⟨c, k, i, f, a, cell, h1, h2, h3, h4, h5, h6, h7, h8, h9, -⟩ := h
  exact Cond.laysStatic_of h1 h2 h3 h4 h5 h6 h7 h8 h9
theorem zt_L.of {n d : String} {U : State} {args : Array Value} (h : (Cond.laysStatic Bundle.tN n d).before args U = true) : zt_L n d U.heap.size U U.heap := by
  obtain ⟨c, k, i, f, a, cell, h1, h2, h3, h4, h5, h6, h7, h8, h9⟩ := Cond.laysStatic_spec h
  exact ⟨c, k, i, f, a, cell, h1, h2, h3, h4, h5, h6, h7, h8, h9, (Array.getElem?_eq_some_iff.mp h5).1⟩
/-- Throwable's statics lie below b, and hold references -/
def zt_Z (b : Nat) (U : State) (H : Heap) : Prop := va_Zq Bundle.tN "UNASSIGNED_STACK" Bundle.steD (fun q => b ≤ q) U H ∧ va_Zq Bundle.tN "SUPPRESSED_SENTINEL" Bundle.listD (fun q => b ≤ q) U H ∧ zt_L "UNASSIGNED_STACK" Bundle.steD b U H ∧ zt_L "SUPPRESSED_SENTINEL" Bundle.listD b U H
theorem zt_Z.go {b : Nat} {u U : State} {H H1 : Heap} (h : zt_Z b u H) (hvm : u.vm.Alike U.vm) (hq : ∀ a : Nat, a < b → H1[a]? = H[a]?) : zt_Z b U H1 :=
  ⟨va_Zq.moved hvm (h.1.kept fun a _ h9 => hq a (Nat.not_le.mp h9)), va_Zq.moved hvm (h.2.1.kept fun a _ h9 => hq a (Nat.not_le.mp h9)), h.2.2.1.go hvm hq, h.2.2.2.go hvm hq⟩
theorem zt_ref {n d : String} {A : Nat → Prop} {s : State} {args : Array Value} (h : va_Zq Bundle.tN n d A s s.heap) : (Cond.isRef (.static Bundle.tN n d)).before args s = true := by
  have one : ∀ v : Value, v.isRef = true → va_Z Bundle.tN n d v A s s.heap → (Cond.isRef (.static Bundle.tN n d)).before args s = true := fun v hv h => by
    obtain ⟨cf, kf, fi, f, a, cell, h1, h2, h3, h4, h5, h6, h7, -⟩ := h
    have he : (Term.static Bundle.tN n d).eval args s none [] s = some v := by
      simp [Term.eval, State.fieldNamed?, h1, h2, h4, h5, h6, h7]
    simp only [Cond.before, Cond.holds, Cond.value, he]
    cases v <;> simp_all [Value.isRef]
  rcases h with h | ⟨t, h⟩
  · exact one _ rfl h
  · exact one _ rfl h
def zt_strs : List (Nat × String) := [(45, "there is no such share"), (60, "steps or cells"), (85, "s, m, or the share itself"), (89, "the share has all its needs"), (96, "worker, s or times"), (106, "there are all failings"), (112, "workers"), (123, "the share has no value"), (129, "there is no such place")]
abbrev zt_I : String := "java/lang/IndexOutOfBoundsException"
abbrev zt_A : String := "java/lang/IllegalArgumentException"
abbrev zt_U : String := "java/lang/UnsupportedOperationException"
abbrev zt_S : String := "java/lang/IllegalStateException"
def zt_nos : List (String × String) := [(zt_A, zt_I), (zt_U, zt_I), (zt_U, zt_A), (zt_S, zt_I)]
def zt_names : List String := ["java/lang/RuntimeException", "java/lang/Exception"]
def zt_decl : List MethodName := [Bundle.initS "java/lang/RuntimeException", Bundle.initS "java/lang/Exception", Bundle.initS Bundle.tN]
def zt_seven : List Cond := [.isRef (.static Bundle.tN "UNASSIGNED_STACK" Bundle.steD), .isRef (.static Bundle.tN "SUPPRESSED_SENTINEL" Bundle.listD), .laysStatic Bundle.tN "UNASSIGNED_STACK" Bundle.steD, .laysStatic Bundle.tN "SUPPRESSED_SENTINEL" Bundle.listD] ++ zt_decl.map .declares
/-- what the tables say besides: the texts, which class is no other's, what is declared -/
def zt_X (U : State) : Prop := (∀ q ∈ zt_strs, ∃ a : Nat, vk_R R_TS q.1 q.2 a U) ∧ (∀ q ∈ zt_nos, va_Nc q.1 q.2 U) ∧ ∀ x ∈ zt_decl, (Cond.declares x).before #[] U = true
theorem zt_X.warm {s U : State} (h : zt_X s) (hW : s.WarmedH U.vm) : zt_X U := by
  refine ⟨fun q hq => ?_, fun q hq => va_Nc.moved hW.alike (h.2.1 q hq), fun x hx => va_tabs rfl (rfl : (s.setVm U.vm).vm = U.vm) (by rw [Cond.declares_setVm hW.alike]; exact h.2.2 x hx)⟩
  obtain ⟨a, ha⟩ := h.1 q hq
  exact ⟨a, vk_R.warm hW ha⟩
def zx_P (D : va_G) (cA : Nat → ClassId) (ad : Nat → Nat) (sh : zw_Sh) (mi : zw_I) (ml : zw_L) (z b : Nat) (av : List Value) : Array Value → State → Prop := fun v U => zc_P D cA ad sh mi ml z av v U ∧ zt_X U ∧ zt_Z b U U.heap
theorem zx_blind {D : va_G} {cA : Nat → ClassId} {ad : Nat → Nat} {sh : zw_Sh} {mi : zw_I} {ml : zw_L} {z b : Nat} {av : List Value} : FrameBlind (zx_P D cA ad sh mi ml z b av) := fun a U g mk q => ⟨zc_blind a U g mk q.1, q.2.1.warm (U := U.calling g mk a) (State.WarmedH.refl U), q.2.2.go (U := U.calling g mk a) (State.WarmedH.refl U).alike (fun _ _ => rfl)⟩
/-- it throws an object of this class, or returns this and leaves these -/
abbrev zx_r : Type := String ⊕ (Option Value × zw_I × zw_L)
def zx_Q (D : va_G) (cA : Nat → ClassId) (ad : Nat → Nat) (sh : zw_Sh) (z : Nat) (mi : zw_I) (ml : zw_L) (r : zx_r) : Array Value → State → Outcome → State → Prop := fun a st o t => match r with
  | .inr q => zc_Q D cA ad sh sh z q.1 q.2.1 q.2.2 z a st o t ∧ ∃ L, FrameEnd st o t L 1 6 ∧ ∀ x ∈ L, zw_A ad sh z x.base
  | .inl E => ∃ (q : Addr) (ce : Cell) (L : List Loc), o = .threw q ∧ t.heap[q]? = some ce ∧ ce.vm = .none ∧ st.vm.findClass E = some ce.cls ∧ st.WarmedH t.vm ∧ st.sameButNew ({ t with vm := st.vm } : State) L 1 6 ∧ (∀ x ∈ L, zw_A ad sh z x.base) ∧ zw_W D cA ad sh mi ml t.heap ∧ t.heap.size = z + 1 ∧ va_F (zw_A ad sh z) st t
def zx_M (l : Launch) (D : va_G) (cA : Nat → ClassId) (Y : zc_Y) (d b : Nat) (ad : Nat → Nat) (sh : zw_Sh) (z : Nat) (av : List Value) (mi : zw_I) (ml : zw_L) (r : zx_r) : Prop :=
  MetFree l Y.1 (headSpec [Cond.code Y.1 Y.2.1 Y.2.2.1 Y.2.2.2] (zc_R d 1 6)) (zx_P D cA ad sh mi ml z b av) (fun _ _ _ _ _ => True) (zx_Q D cA ad sh z mi ml r)
def zx_MQ (below : List Frame) (D : va_G) (cA : Nat → ClassId) (ad : Nat → Nat) (sh : zw_Sh) (z : Nat) (mi : zw_I) (ml : zw_L) (r : zx_r) (a : Array Value) (s : State) : State → Prop := fun t => ∃ o, t.status = .running ∧ Ended t below o ∧ zx_Q D cA ad sh z mi ml r a s o t
section ZX
variable {p : Program} {l : Launch} {e : Env} {R : Room} {s : State} {m : MethodId} {args : Array Value} {below : List Frame} {meth : Method} {c : Code} {H : Heap} {locs : List Loc} {cells slots : Nat} {Q : State → Prop}
variable {cc : ByteArray} {pc nL : Nat} {ls : Array Slot} {rest st0 : List Value} {D : va_G} {cA : Nat → ClassId} {own : String} {ad : Nat → Nat} {sh sh' : zw_Sh} {A : Nat → Prop} {H0 : Heap} {mi mi1 mi' : zw_I} {ml ml1 ml' : zw_L} {z z1 d mc ms b : Nat} {av As : List Value} {rv : Option Value} {Y : zc_Y} {r : zx_r}
/-- a contract out of a walk of the body -/
theorem zx_enter (hy : plainName Y.1.cls = true) (hown : Y.1.cls = own) (hnl : (lg_sl av).length ≤ Y.2.2.1)
    (body : ∀ (p : Program) (e : Env) (s : State) (m : MethodId) (below : List Frame) (meth : Method) (c : Code), zw_C D cA own Y.2.1 Y.2.2.1 p m c s → meth.sig.returnType = Y.2.2.2 → meth.locks = false → zw_B D cA ad sh (zw_A ad sh z) s.heap mi ml z s.heap [] → zt_X s → zt_Z b s s.heap → (∀ x ∈ c.exceptionTable.toList, False) →
      ∀ ls : Array Slot, lv_has ls Y.2.2.1 (lv_args 0 av) → W p l e (zc_R d 1 6) s m av.toArray below meth c s.heap [] 0 0 (zx_MQ below D cA ad sh z mi ml r av.toArray s) (F0 m 0 ls [])) :
    zx_M l D cA Y d b ad sh z av mi ml r := by
  refine MetFree.of_bodyS (code := Y.2.1) (maxLocals := Y.2.2.1) (ret := Y.2.2.2) hy ?_ ?_
  · intro args s m h hn
    obtain ⟨meth, c, h1, h2, h3, h4, h5, h6, -, -⟩ := Cond.code_spec hn (atoms_spec h _ List.mem_cons_self)
    exact ⟨meth, c, h1, h2, h3, h4, h5, h6⟩
  · intro p e s m args below meth c s₁ B hml hv _
    obtain ⟨⟨rfl, hE, hW, hJ, hz⟩, hX, hZ⟩ := hv
    have hh0 : s₁.heap = s.heap := by rw [B.state]; rfl
    have hown' : s.vm.findClass own = some m.cls := by rw [← hown]; exact findClass_of_methodNamed B.named
    have ht : ∀ x ∈ c.exceptionTable.toList, False := by
      obtain ⟨meth9, c9, h1, h2, -, -, -, -, h7, -⟩ := Cond.code_spec B.named (atoms_spec B.pre _ List.mem_cons_self)
      cases Option.some.inj (h1.symm.trans B.method)
      cases Option.some.inj (h2.symm.trans (Stand.of_body B).code)
      intro x hx
      rw [Array.isEmpty_iff.mp h7] at hx
      cases hx
    have K := body p e s m below meth c ⟨B.exec, B.bytes, hml, hown', hE⟩ B.returns B.notSynchronized ⟨hW, hJ, fun k q hk => Or.inl ⟨k, q, hk, rfl⟩, va_S.rf, hz, fun q h => Or.inr (by rw [← hz]; exact h)⟩ hX hZ ht _ (lv_entry av hnl)
    rw [← lg_entry_eq] at K
    obtain ⟨t, a1, o, b1, b2, b3⟩ := K s₁ hh0 (Stand.of_body B)
    exact ⟨t, o, a1, b1, b2, b3⟩
theorem zx_ret (hc : cells ≤ 1) (hs : slots ≤ 6) {mi2 : zw_I} {ml2 : zw_L} {g : JFrame} (k : W p l e R s m args below meth c H locs cells slots (MQ below (zc_Q D cA ad sh sh z rv mi2 ml2 z) args s cells slots (zw_A ad sh z)) g) : W p l e R s m args below meth c H locs cells slots (zx_MQ below D cA ad sh z mi ml (.inr (rv, mi2, ml2)) args s) g := by
  intro T hT X
  obtain ⟨t, a1, o, b1, b2, b3, L, b4, b5⟩ := k T hT X
  exact ⟨t, a1, o, b1, b2, b3, L, ⟨b4.1, b4.2.1, b4.2.2.mono hc hs⟩, b5⟩
/-- the frame seen from here: as if the method began in this heap -/
theorem zx_anew {T : State} (X : Stand p l e R s m args below meth c T locs cells slots) {R' : Room} (hf : R'.frames ≤ R.frames) (hl : R'.locals ≤ R.locals) (hc : cells + R'.cells ≤ R.cells) (hs : slots + R'.slots ≤ R.slots) :
    Stand p l e R' ((T.setVm s.vm).setFrames (.invoking m args :: below)) m args below meth c T [] 0 0 := by
  have top : (T.setVm s.vm).topJava?.isSome := X.here.top
  have fr : ((T.setVm s.vm).setFrames (.invoking m args :: below)).frames = .invoking m args :: below := State.frames_setFrames _ (State.cur_lt_of_top top)
  obtain ⟨g₀, hg0⟩ := Option.isSome_iff_exists.mp top
  obtain ⟨r9, hr9⟩ := State.topJava?_eq_some.mp hg0
  obtain ⟨t9, ht9, -⟩ := State.frames_cons hr9
  have none9 : ((T.heap.toList.drop T.heap.size).map (·.slots.size)).sum = 0 := by
    rw [List.drop_eq_nil_of_le (Nat.le_of_eq Array.length_toList)]
    rfl
  have e1 : e.platform.stackLimits (T.setVm s.vm).me = e.platform.stackLimits s.me := X.limits
  have e2 : (T.setVm s.vm).me.stackBytes = s.me.stackBytes := X.bytes
  have inUse : ((T.setVm s.vm).setFrames (.invoking m args :: below)).localsInUse = s.localsInUse := by
    rw [State.localsInUse_invoking fr (meth := meth) (c := c) X.method X.code, State.localsInUse_invoking X.frames X.method X.code]
  refine ⟨X.admits, X.cas, X.clock, fr, ?_, X.hears, X.method, X.code, X.here, X.tail, X.warmed, by rw [State.stackLimits_setFrames]; rfl, by rw [State.stackBytes_setFrames]; rfl, ?_, Nat.le_refl _, Nat.le_refl _, ?_, ?_, fun a c9 h9 => ⟨c9, h9, rfl, rfl, fun _ _ => rfl⟩⟩
  · have rm := X.room
    have z1 := X.heapSize
    have z2 := X.used
    simp only [State.hasRoom, Bool.and_eq_true, decide_eq_true_eq] at rm ⊢
    obtain ⟨⟨⟨⟨r1, r2, r3, r4, r5, r6⟩, r7⟩, r8⟩, -⟩ := rm
    rw [X.frames, List.length_cons] at r2 r3
    simp only [fr, inUse, List.length_cons, State.stackLimits_setFrames, State.stackBytes_setFrames, e1, e2]
    have g1 : T.heap.size + R'.cells ≤ e.platform.maxCells := by omega
    have g2 : T.slotsUsed + R'.slots ≤ e.platform.maxSlots := by omega
    exact ⟨⟨⟨⟨by omega, by omega, by omega, by omega, by omega, r6⟩, g1⟩, g2⟩, X.book⟩
  · show T.setVm s.vm = { ((T.setVm s.vm).setFrames (.invoking m args :: below)).setFrames (T.setVm s.vm).frames with heap := T.heap, slotsUsed := T.slotsUsed }
    rw [State.setFrames_setFrames, State.setFrames_self ht9]
    rfl
  · show T.slotsUsed = T.slotsUsed + ((T.heap.toList.drop T.heap.size).map (·.slots.size)).sum
    rw [none9, Nat.add_zero]
  · show ((T.heap.toList.drop T.heap.size).map (·.slots.size)).sum ≤ 0
    rw [none9]
    exact Nat.le_refl 0
theorem zx_frame {U : State} {k n : Nat} (h : s.sameButNew ({ U with vm := s.vm } : State) [] k n) : s.heap.size ≤ U.heap.size ∧ U.heap.size ≤ s.heap.size + k ∧ ∀ q : Nat, q < s.heap.size → U.heap[q]? = s.heap[q]? := by
  obtain ⟨-, h2, h3, -, -, h6⟩ := h
  refine ⟨h2, h3, fun q hq => ?_⟩
  obtain ⟨c9, f1, f2, -, f4⟩ := h6 q _ (Array.getElem?_eq_getElem hq)
  have f5 : U.heap[q]? = some c9 := f1
  have f6 : c9.slots = (s.heap[q]).slots := Array.ext_getElem? fun i => f4 i (List.not_mem_nil)
  rw [f6] at f2
  rw [f5, f2, Array.getElem?_eq_getElem hq]
/-- what a 'throw new E(text)' of TileShares needs: the indexes of the class, the text, the constructor -/
def zx_T (E : String) (ik is ic : Nat) (tx : String) : Prop := Bundle.fit E = true ∧ (is, tx) ∈ zt_strs ∧ Cond.classLink R_TS ik E ∈ zw_Tb ∧ Cond.initialized E ∈ zw_Tb ∧ Cond.instantiable E 6 ∈ zw_Tb ∧ (Bundle.ownAtoms R_TS ic E zt_names).all (fun w => zw_Tb.contains w || zt_seven.contains w) = true
theorem zx_throw (X : zw_C D cA R_TS cc nL p m c s) (hl : l.stackTraces = false) (Zx : zt_X s) (Zz : zt_Z b s s.heap) (hA : ∀ q, zw_A ad sh z q → b ≤ q) (hB : zw_B D cA ad sh (zw_A ad sh z) s.heap mi ml z H locs) (hno : ∀ x ∈ c.exceptionTable.toList, False) (hlocks : meth.locks = false) (hsz : ls.size = nL)
    {E tx : String} {ik is ic : Nat} (F : zx_T E ik is ic tx) (hR : 6 ≤ R.frames ∧ 90 ≤ R.locals ∧ 1 ≤ R.cells ∧ 6 ≤ R.slots) {w0 w1 w2 w3 w4 : Nat} (e0 : w0 = pc) (e1 : w1 = pc + 3) (e2 : w2 = pc + 4) (e3 : w3 = pc + 6) (e4 : w4 = pc + 9)
    (d0 : decode cc w0 = .ok (.new ik, 3)) (d3 : decode cc w1 = .ok (.dup, 1)) (d4 : decode cc w2 = .ok (.ldc is, 2)) (d6 : decode cc w3 = .ok (.invokespecial ic, 3)) (d9 : decode cc w4 = .ok (.athrow, 1)) :
    W p l e R s m args below meth c H locs 0 0 (zx_MQ below D cA ad sh z mi ml (.inl E) args s) (F0 m pc ls []) := by
  rw [e0] at d0
  rw [e1] at d3
  rw [e2] at d4
  rw [e3] at d6
  rw [e4] at d9
  intro T hT Xs
  obtain ⟨hx, hb, hnl, hown, hE⟩ := X
  obtain ⟨F1, F2, F3, F4, F5, F6⟩ := F
  have htr : e.platform.stackTraces = false := (show e.platform.stackTraces = l.stackTraces by rw [Xs.admits.platform]).trans hl
  have Y := zx_anew Xs (R' := { frames := R.frames, locals := R.locals, cells := 1, slots := 6 }) (Nat.le_refl _) (Nat.le_refl _) (by simpa using hR.2.2.1) (by simpa using hR.2.2.2)
  obtain ⟨s', hs'⟩ : ∃ y, y = (T.setVm s.vm).setFrames (.invoking m args :: below) := ⟨_, rfl⟩
  rw [← hs'] at Y
  have hvm : s'.vm = s.vm := by rw [hs']; rfl
  have hhp : s'.heap = H := by rw [hs']; exact hT
  have hW0 : s.WarmedH s'.vm := by rw [hvm]; exact State.WarmedH.refl s
  have hE' := hE.warm hW0
  have Zx' := Zx.warm hW0
  have Zz' : zt_Z b s' s'.heap := Zz.go hW0.alike fun a ha => by
    rw [hhp]
    by_cases h9 : a < s.heap.size
    · exact hB.2.2.2.1.2.1 a h9 (fun h8 => absurd (hA a h8) (Nat.not_le.mpr ha))
    · exact absurd (hA a (hB.2.2.2.2.2 a (Nat.not_lt.mp h9))) (Nat.not_le.mpr ha)
  have h : ∀ w ∈ Bundle.ownAtoms R_TS ic E zt_names, w.before args s' = true := fun w hw => by
    have h8 := List.all_eq_true.mp F6 w hw
    rw [Bool.or_eq_true] at h8
    rcases h8 with h8 | h8
    · exact hE'.ts w (List.contains_iff_mem.mp h8)
    · have h7 := List.contains_iff_mem.mp h8
      unfold zt_seven at h7
      rcases List.mem_append.mp h7 with h7 | h7
      · simp only [List.mem_cons, List.not_mem_nil, or_false] at h7
        rcases h7 with rfl | rfl | rfl | rfl
        · exact zt_ref Zz'.1
        · exact zt_ref Zz'.2.1
        · exact Zz'.2.2.1.word
        · exact Zz'.2.2.2.word
      · obtain ⟨x, hx9, rfl⟩ := List.mem_map.mp h7
        exact va_tabs rfl rfl (Zx'.2.2 x hx9)
  have hown' : s'.vm.findClass R_TS = some m.cls := by rw [hvm]; exact hown
  obtain ⟨sa, hstr⟩ := Zx'.1 _ F2
  obtain ⟨vm₁, cX, kX, hfX, hkX, -, -, X₁, st1⟩ := Y.newCold hx (own := R_TS) (C := E) (index := ik) (n := 6) hown' (hE'.ts _ F3) (hE'.ts _ F5) (hE'.ts _ F4) (g := F0 m pc ls []) rfl (by rw [hb]; exact d0) (Nat.le_refl _) (Nat.le_refl _)
  generalize hT1 : (T.setVm vm₁).pushCell { cls := cX, slots := kX.instanceTypes.map defaultValue, vm := .none } = T1 at X₁ st1
  have hcellA : T1.heap[T.heap.size]? = some (freshCell cX kX) := by rw [← hT1]; exact State.heap_pushCell_size _ _
  have d3' : decode c.code (pc + 3) = .ok (.dup, 1) := by rw [hb]; exact d3
  have d4' : decode c.code (pc + 4) = .ok (.ldc is, 2) := by rw [hb]; exact d4
  have hcat : (Value.ref T.heap.size).category = 1 := rfl
  have hno' : ∀ q : Nat, ∀ x ∈ c.exceptionTable.toList, covers x q = false := fun q x hx9 => (hno x hx9).elim
  obtain ⟨U, hsteps, hrun, hend, hW, hsame, ce, hce, hO⟩ := X₁.ctorThrowS hx htr (own := R_TS) (cls := E) (names := zt_names) (ic := ic) hown' F1 (by decide) h (fun x hx9 => nomatch hx9) hfX hkX hcellA (by rw [hhp, hT]; exact Nat.le_refl _) (msg := .ref sa) rfl
    (g := { method := m, pc := pc + 6, locals := ls, stack := .ref sa :: .ref T.heap.size :: .ref T.heap.size :: [], locked := none }) rfl (hsz.trans hnl.symm) rfl rfl (rest := []) rfl
    (by rw [hb]; exact d6) (by rw [hb]; exact d9) (hno' _) (by show 2 + 3 < R.frames; omega) (by simp only [List.map_cons, List.map_nil, List.sum_cons, List.sum_nil, hcat, zt_names, List.length_cons, List.length_nil]; omega) hlocks
  obtain ⟨f1, f2, f3⟩ := zx_frame hsame
  rw [hhp] at f1 f2 f3
  have hWs : s.WarmedH U.vm := State.WarmedH.trans hW0 hW
  have hcl : s.vm.findClass E = some ce.cls := by
    have h9 := hO.cls
    rw [hvm] at h9
    exact h9
  have hall : s.sameButNew ({ U with vm := s.vm } : State) locs 1 6 := by
    subst hs'
    obtain ⟨g1, g2⟩ := hsame
    rw [State.setFrames_setFrames] at g1
    have h2 : (T.setVm s.vm).sameButNew ({ U with vm := s.vm } : State) [] (0 + 1) (0 + 6) := ⟨g1, g2⟩
    have h3 := Xs.same.trans h2
    rw [List.append_nil] at h3
    exact h3
  have hHz : H.size = z := hB.2.2.2.2.1
  have hUz : U.heap.size = z + 1 := by
    have h9 := (Array.getElem?_eq_some_iff.mp hce).1
    rw [hT, hHz] at h9
    rw [hHz] at f2
    omega
  have hB' := hB.more (H1 := U.heap) hUz (Nat.le_succ z) (fun a ha => f3 a (by rw [hHz]; exact ha))
  refine ⟨U, ?_, .threw T.heap.size, hrun, hend, T.heap.size, ce, locs, rfl, hce, hO.vm, hcl, hWs, hall, hB.2.2.2.1.2.2, hB'.1, hUz, hB'.2.2.2.1.F rfl⟩
  refine st1 _ ?_
  show Steps p.tables e below (T1.setTop { method := m, pc := pc + 3, locals := ls, stack := .ref T.heap.size :: [], locked := none }) _
  jvm_step X₁.here [X₁.here.top, hx, d3', Value.category]
  exact X₁.ldcString hx (own := R_TS) (text := tx) (index := is) (a := sa) hown' hstr.1 hstr.2
    (g := { method := m, pc := pc + 4, locals := ls, stack := .ref T.heap.size :: .ref T.heap.size :: [], locked := none }) rfl d4' _ hsteps
/-- a call of a method that returns -/
theorem zx_callR (X : zw_C D cA own cc nL p m c s) (Zx : zt_X s) (Zz : zt_Z b s H) (hB : zw_B D cA ad sh A H0 mi ml z H locs) {C : String} {index n : Nat} (ML : zw_MV own index Y C n) (hpl : Cond.methodLink own index Y.1 ∈ zw_Tb) (k : Nat) {ci : Nat} {fs : List (Nat × Nat)} (hk : sh k = some (.inl (ci, fs))) {T : u_T} {N : Nat} (hc : zw_cl[ci]? = some (C, T, N)) {v : Value}
    (hM : zx_M l D cA Y d b ad sh z (.ref (ad k) :: As) mi ml (.inr (some v, mi1, ml1))) (hn : As.length = n) (hsz : ls.size = nL) (hR : d + 1 ≤ R.frames ∧ 8 + (Y.2.2.1 + 11) + 40 * d ≤ R.locals) (hst : As.reverse ++ .ref (ad k) :: rest = st0) (hW : (rest.map fun v => v.category).sum ≤ 8) (hf : cells + 1 ≤ R.cells ∧ slots + 6 ≤ R.slots) (hdg : decode cc pc = .ok (.invokevirtual index, 3))
    (kk : ∀ (H1 : Heap) (locs1 : List Loc), zw_B D cA ad sh A H0 mi1 ml1 z H1 locs1 → W p l e R s m args below meth c H1 locs1 (cells + 1) (slots + 6) Q (F0 m (pc + 3) ls (v :: rest))) : W p l e R s m args below meth c H locs cells slots Q (F0 m pc ls st0) := by
  subst hst
  obtain ⟨-, hin, hsel, hcode, hini, hy, hpar⟩ := ML
  have hts : ∀ w ∈ zw_Tb, w.before args s = true := X.2.2.2.2.ts
  have hws : ∀ w ∈ [Cond.code Y.1 Y.2.1 Y.2.2.1 Y.2.2.2], ∀ (a' : Array Value) (U : State), s.WarmedH U.vm → w.before a' U = true := fun w hw a' U hW => (X.2.2.2.2.warm hW).ts w (by rw [List.mem_singleton.mp hw]; exact hcode)
  have hM' : Met l Y.1 [Cond.code Y.1 Y.2.1 Y.2.2.1 Y.2.2.2] (zc_R d 1 6) (zx_P D cA ad sh mi ml z b (.ref (ad k) :: As)) (zc_Q D cA ad sh sh z (some v) mi1 ml1 z) 1 6 (zw_A ad sh z) := hM
  have hp : PreV s H C (ad k) (zx_P D cA ad sh mi ml z b (.ref (ad k) :: As)) As := ⟨zx_blind, zw_recv X hB hk hc, fun U hU hW => ⟨⟨rfl, X.2.2.2.2.warm hW, by rw [hU]; exact hB.1, hB.2.1, by rw [hU]; exact hB.2.2.2.2.1⟩, Zx.warm hW, by rw [hU]; exact Zz.go hW.alike (fun _ _ => rfl)⟩⟩
  exact zw_after (va_runV (C := C) ⟨X.1, X.2.1, X.2.2.1, X.2.2.2.1, hts⟩ hM' ⟨⟨rfl, rfl, hR.1, hR.2, hws, List.mem_singleton.mpr rfl, hts _ hcode, hts _ hini, hy, zw_len hpar, hts _ hpl⟩, hts _ hin, hts _ hsel⟩ hp rfl hn hsz rfl (lv_room hW) hdg hf) hB kk
/-- a call of a method that throws, caught here -/
theorem zx_callE (X : zw_C D cA own cc nL p m c s) (Zx : zt_X s) (Zz : zt_Z b s H) (hB : zw_B D cA ad sh A H0 mi ml z H locs) {C : String} {index n : Nat} (ML : zw_MV own index Y C n) (hpl : Cond.methodLink own index Y.1 ∈ zw_Tb) (k : Nat) {ci : Nat} {fs : List (Nat × Nat)} (hk : sh k = some (.inl (ci, fs))) {T : u_T} {N : Nat} (hc : zw_cl[ci]? = some (C, T, N)) {E : String}
    (hM : zx_M l D cA Y d b ad sh z (.ref (ad k) :: As) mi ml (.inl E)) (hn : As.length = n) (hsz : ls.size = nL) (hR : d + 1 ≤ R.frames ∧ 8 + (Y.2.2.1 + 11) + 40 * d ≤ R.locals) (hst : As.reverse ++ .ref (ad k) :: rest = st0) (hW : (rest.map fun v => v.category).sum ≤ 8) (hf : cells + 1 ≤ R.cells ∧ slots + 6 ≤ R.slots)
    {hh : List (Nat × Nat × Nat × Nat)} (htab : c.exceptionTable.toList = tableOf hh) (pre : List (Nat × Nat × Nat × Nat)) (y : Nat × Nat × Nat × Nat) (suf : List (Nat × Nat × Nat × Nat)) (hsp : hh = pre ++ y :: suf) (hpass : ∀ w ∈ pre, w.2.2.2 ≠ 0 ∧ ∃ nm : String, Cond.classLink own w.2.2.2 nm ∈ zw_Tb ∧ (E, nm) ∈ zt_nos) (hcov : covers ⟨y.1, y.2.1, y.2.2.1, y.2.2.2⟩ pc = true) (hy0 : y.2.2.2 ≠ 0) (hlk : Cond.classLink own y.2.2.2 E ∈ zw_Tb) (hca : Cond.castable E E ∈ zw_Tb) (hdg : decode cc pc = .ok (.invokevirtual index, 3))
    (kk : ∀ (H1 : Heap) (locs1 : List Loc) (q : Addr), zw_B D cA ad sh A H0 mi ml (z + 1) H1 locs1 → W p l e R s m args below meth c H1 locs1 (cells + 1) (slots + 6) Q (F0 m y.2.2.1 ls [.ref q])) : W p l e R s m args below meth c H locs cells slots Q (F0 m pc ls st0) := by
  subst hst
  obtain ⟨-, hin, hsel, hcode, hini, hyn, hpar⟩ := ML
  have hx := X.1
  have hb := X.2.1
  have hown := X.2.2.2.1
  have hE := X.2.2.2.2
  have hts : ∀ w ∈ zw_Tb, w.before args s = true := hE.ts
  obtain ⟨cellB, hcB, hoB, hclB⟩ := zw_recv X hB hk hc
  intro T0 hT Xs
  obtain ⟨mk, methM, hnamed, hmethM, hstM, habM⟩ := Cond.instanceMethod_spec (hts _ hin)
  obtain ⟨methM', cM, hmethM', hcM, -, hlM, -, -, -, hsigM⟩ := Cond.code_spec hnamed (hts _ hcode)
  cases hmethM.symm.trans hmethM'
  obtain ⟨c2, r2, m2, q1, q2, q3, q4, kP, hkP, hkPi⟩ := Cond.selects_spec (hts _ hsel)
  cases hclB.symm.trans q1
  cases (State.methodFound?_of_named hnamed hyn).symm.trans q2
  cases hnamed.symm.trans q3
  have hselP : selectMethod e.platform s.vm cellB.cls mk = .method mk := by rw [Launch.admits_selectMethod Xs.admits]; exact q4
  obtain ⟨vm₁, X₁, hstep₁⟩ := Xs.invokevirtual hx hown (hts _ hpl) hnamed hmethM hstM hkP hkPi hyn (a := ad k) (cell := cellB) (by rw [hT]; exact hcB)
    (fun z9 h => by rw [h] at hoB; cases hoB) hselP hmethM habM hkP hkPi (g := F0 m pc ls (As.reverse ++ .ref (ad k) :: rest)) rfl (argsL := As) (rest := rest) (hn.trans (zw_len hpar _ hsigM)) rfl (by rw [hb]; exact hdg)
  obtain ⟨g, hg⟩ : ∃ g : JFrame, g = F0 m pc ls rest := ⟨_, rfl⟩
  have hgm : g.method = m := by rw [hg]
  have hW₁ : s.WarmedH vm₁ := X₁.warmed
  have h : At (T0.setVm vm₁) g.method c below := by rw [hgm]; exact X₁.here
  have hdg' : decode c.code g.pc = .ok (.invokevirtual index, 3) := by rw [hg, hb]; exact hdg
  have hn₁ := X₁.named hnamed
  obtain ⟨kY, hkY, -⟩ := className_of_methodNamed hn₁
  have hE₁ : zw_E D cA (T0.setVm vm₁) := hE.warm hW₁
  have hinitY : kY.init = .initialized := Cond.initialized_spec (args := args) (findClass_of_methodNamed hn₁) hkY (hE₁.ts _ hini)
  obtain ⟨methY, cY, hmY, hcY, -, hlY, -, -, -, -⟩ := Cond.code_spec hn₁ (hE₁.ts (args := args) _ hcode)
  have hcat : 2 * g.monitorRoom + (g.stack.map fun v => v.category).sum ≤ 8 := by rw [hg]; exact lv_room hW
  have hap : (headSpec [Cond.code Y.1 Y.2.1 Y.2.2.1 Y.2.2.2] (zc_R d 1 6)).appliesLoose Y.1 e.platform ((T0.setVm vm₁).calling g mk (Value.ref (ad k) :: As).toArray) = true :=
    Spec.appliesLoose_calling (g := g) h hdg' hn₁ hkY hinitY
      (X₁.room_calling (g := g) (R' := zc_R d 1 6) (by rw [hg]; exact hsz.trans X.2.2.1.symm) hmY hcY hR.1 (by rw [hlY]; show 2 * g.monitorRoom + (g.stack.map fun v => v.category).sum + (Y.2.2.1 + 11) + 40 * d ≤ R.locals; omega) hf.1 hf.2)
      (atoms_intro fun w hw => by rw [List.mem_singleton.mp hw]; exact hE₁.ts _ hcode)
  obtain ⟨mid, hmid⟩ := h.above
  have hfr : ((T0.setVm vm₁).setTop g).frames = (.java g :: mid) ++ below := by rw [State.frames_setTop' g h.top, hmid]; rfl
  have hPre : zx_P D cA ad sh mi ml z b (.ref (ad k) :: As) (Value.ref (ad k) :: As).toArray (T0.setVm vm₁) := ⟨⟨rfl, hE₁, by show zw_W D cA ad sh mi ml T0.heap; rw [hT]; exact hB.1, hB.2.1, by show T0.heap.size = z; rw [hT]; exact hB.2.2.2.2.1⟩, Zx.warm hW₁, by show zt_Z b (T0.setVm vm₁) T0.heap; rw [hT]; exact Zz.go hW₁.alike (fun _ _ => rfl)⟩
  obtain ⟨o, s₂, hsteps, -, hend, hq⟩ := Steps.callFree hM p X₁.admits X₁.cas X₁.clock (acts := []) hfr hap (zx_blind _ _ g mk hPre) trivial
  obtain ⟨q, ce, L, rfl, hce, hcv, hcl, hW₂, hsm, hL, hW3, hz3, hF3⟩ : zx_Q D cA ad sh z mi ml (.inl E) (Value.ref (ad k) :: As).toArray ((T0.setVm vm₁).calling g mk (Value.ref (ad k) :: As).toArray) o s₂ := hq
  rw [State.frames_setTop' g h.top] at hend
  obtain ⟨g₀, hg0⟩ := Option.isSome_iff_exists.mp h.top
  obtain ⟨r9, hr9⟩ := State.topJava?_eq_some.mp hg0
  have hr' : (({ T0.setVm vm₁ with heap := s₂.heap, slotsUsed := s₂.slotsUsed } : State).setVm s₂.vm).frames = .java g₀ :: r9 := hr9
  obtain ⟨e2, k2, k3, k4, k5, k6⟩ := id hsm
  have e3 : s₂ = ({ ((T0.setVm vm₁).calling g mk (Value.ref (ad k) :: As).toArray).setFrames s₂.frames with heap := s₂.heap, slotsUsed := s₂.slotsUsed } : State).setVm s₂.vm := by
    have h9 : s₂ = ({ s₂ with vm := ((T0.setVm vm₁).calling g mk (Value.ref (ad k) :: As).toArray).vm } : State).setVm s₂.vm := rfl
    rw [e2] at h9
    exact h9
  have hf₂ : s₂.frames = .throwing q :: .java g :: (T0.setVm vm₁).frames.tail := hend
  have hW' : (T0.setVm vm₁).WarmedH s₂.vm := hW₂
  have hs₂ : s₂ = ((({ T0.setVm vm₁ with heap := s₂.heap, slotsUsed := s₂.slotsUsed } : State).setVm s₂.vm).setTop g).pushFrame (.throwing q) := by
    refine e3.trans ?_
    rw [hf₂, State.calling_eq h.top, State.setFrames_setFrames, State.pushFrame, State.frames_setTop _ hr', State.setTop_of_frames _ hr', State.setFrames_setFrames, hr9]
    rfl
  have hsame : (T0.setVm vm₁).sameButNew ({ T0.setVm vm₁ with heap := s₂.heap, slotsUsed := s₂.slotsUsed } : State) L 1 6 := by
    refine ⟨?_, k2, k3, k4, k5, k6⟩
    obtain ⟨t, ht, -⟩ := State.frames_cons hr9
    show ({ T0.setVm vm₁ with heap := s₂.heap, slotsUsed := s₂.slotsUsed } : State) = { (T0.setVm vm₁).setFrames (T0.setVm vm₁).frames with heap := s₂.heap, slotsUsed := s₂.slotsUsed }
    rw [State.setFrames_self ht]
  have X₂ : Stand p l e R s m args below meth c (({ T0.setVm vm₁ with heap := s₂.heap, slotsUsed := s₂.slotsUsed } : State).setVm s₂.vm) (locs ++ L) (cells + 1) (slots + 6) :=
    ⟨X₁.admits, X₁.cas, X₁.clock, X₁.frames, X₁.room, X₁.hears, X₁.method, X₁.code, (X₁.here.setHeapUsed s₂.heap s₂.slotsUsed).setVm hW'.alike, X₁.tail, State.WarmedH.trans X₁.warmed hW', X₁.limits, X₁.bytes, X₁.same.trans (hsame.setVm s.vm)⟩
  have hclS : s.vm.findClass E = some ce.cls := by
    have h9 : vm₁.findClass E = some ce.cls := hcl
    rw [hW₁.alike.findClass] at h9
    exact h9
  have hmag : e.platform.magicAccessors = ({} : Platform).magicAccessors := by rw [Xs.admits.platform]
  obtain ⟨c3, c4, hc3, hc4, hasg⟩ := Cond.castable_spec (hts _ hca)
  cases Option.some.inj (hc3.symm.trans hclS)
  obtain ⟨c5, hc5, hcl5⟩ := Cond.classLink_spec hown (hts _ hlk) e.platform hmag
  cases Option.some.inj (hc4.symm.trans hc5)
  have come : Steps p.tables e below (T0.setTop (F0 m pc ls (As.reverse ++ .ref (ad k) :: rest))) (((({ T0.setVm vm₁ with heap := s₂.heap, slotsUsed := s₂.slotsUsed } : State).setVm s₂.vm).setTop g).pushFrame (.throwing q)) := by
    rw [← hs₂]
    exact hstep₁ _ fun acts => by rw [doInvoke_state]; rw [hg] at hsteps; exact hsteps
  obtain ⟨vm', X₃, st3⟩ := X₂.thenCaughtThrough q hgm come hce (by rw [hcv]; rfl) (by obtain ⟨k9, h9, -⟩ := Vm.findClass_spec hclS; exact ⟨k9, h9⟩) (tableOf pre) ⟨y.1, y.2.1, y.2.2.1, y.2.2.2⟩ (tableOf suf) (by rw [htab, hsp]; simp [tableOf])
    (fun w hw => by
      obtain ⟨w', hw', rfl⟩ := List.mem_map.mp hw
      obtain ⟨h0, nm, hl1, hl2⟩ := hpass w' hw'
      obtain ⟨c6, hc6, hcl6⟩ := Cond.classLink_spec hown (hts _ hl1) e.platform hmag
      obtain ⟨a8, b8, h1, h2, h3⟩ := Zx.2.1 _ hl2
      cases Option.some.inj (h1.symm.trans hclS)
      cases Option.some.inj (h2.symm.trans hc6)
      exact Or.inr ⟨h0, _, hcl6, h3⟩) (by rw [hg]; exact hcov) (Or.inr ⟨hy0, c4, hcl5, hasg⟩)
  obtain ⟨hF1, hF2⟩ := hF3
  have h0 : ((T0.setVm vm₁).calling g mk (Value.ref (ad k) :: As).toArray).heap = H := hT
  rw [h0] at hF1 hF2
  obtain ⟨hW0, hJ0, hA0, hS0, hsz0, hT0⟩ := hB
  have hAA : ∀ q, zw_A ad sh z q → A q := fun q h => by
    rcases h with ⟨k, p, hk, rfl⟩ | h
    · exact hA0 k p hk
    · exact hT0 q (Nat.le_trans hS0.1 (by rw [hsz0]; exact h))
  have K := kk s₂.heap (locs ++ L) q ⟨hW3, hJ0, hA0, ⟨Nat.le_trans hS0.1 hF1, fun a h1 h2 => by
      rw [hF2 a (Nat.lt_of_lt_of_le h1 hS0.1) (fun z => h2 (hAA a z))]
      exact hS0.2.1 a h1 h2, fun a ha => by
      rcases List.mem_append.mp ha with h | h
      · exact hS0.2.2 a h
      · exact hAA _ (hL a h)⟩, hz3, hT0⟩
  obtain ⟨t2, a1, b1⟩ := K ((({ T0.setVm vm₁ with heap := s₂.heap, slotsUsed := s₂.slotsUsed } : State).setVm s₂.vm).setVm vm') rfl X₃
  refine ⟨t2, ?_, b1⟩
  rw [hg] at st3
  exact st3.trans a1
end ZX
