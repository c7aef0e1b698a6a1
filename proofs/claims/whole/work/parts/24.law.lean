/-! THE LAW's HELPERS: each calls one method of the class, and answers 0 with the value in out[0], or the number of what was thrown -/
def zh_c (k : String → Int32) (r : zx_r) : Int32 := match r with
  | .inl E => k E
  | .inr _ => 0
def zh_i (mi : zw_I) (r : zx_r) : zw_I := match r with
  | .inl _ => mi
  | .inr q => q.2.1
def zh_v (v : Option Value) : Int64 := match v with
  | some (.int x) => x.toInt64
  | some (.long x) => x
  | _ => 0
def zh_l (ml : zw_L) (r : zx_r) : zw_L := match r with
  | .inl _ => ml
  | .inr q => zw_up q.2.2 30 (0 : Int32).toNatClampNeg (zh_v q.1)
def zh_z (r : zx_r) : Nat := match r with
  | .inl _ => 1
  | .inr _ => 0
def zh_k (E : String) : Int32 := if E = zt_I then 1 else if E = zt_U then 3 else 2
def zh_k1 (_ : String) : Int32 := 1
theorem zh_kI : zh_k zt_I = 1 := by decide +kernel
theorem zh_kA : zh_k zt_A = 2 := by decide +kernel
theorem zh_kU : zh_k zt_U = 3 := by decide +kernel
theorem zh_kS : zh_k zt_S = 2 := by decide +kernel
abbrev zh_H : Type := List (Nat × Nat × Nat × Nat)
def zh_M (l : Launch) (D : va_G) (cA : Nat → ClassId) (Y : zc_Y) (hh : zh_H) (d b : Nat) (ad : Nat → Nat) (sh : zw_Sh) (z : Nat) (av : List Value) (mi : zw_I) (ml : zw_L) (k : Int32) (mi1 : zw_I) (ml1 : zw_L) (z1 : Nat) : Prop :=
  Met l Y.1 [Cond.codeWith Y.1 Y.2.1 Y.2.2.1 Y.2.2.2 hh] (zc_R d 1 6) (zx_P D cA ad sh mi ml z b av) (zc_Q D cA ad sh sh z (some (.int k)) mi1 ml1 z1) 1 6 (zw_A ad sh z)
def zh_MS (own : String) (index : Nat) (Y : zc_Y) (hh : zh_H) (n : Nat) : Prop := Cond.methodLink own index Y.1 ∈ zw_Tb ∧ Cond.static Y.1 ∈ zw_Tb ∧ Cond.codeWith Y.1 Y.2.1 Y.2.2.1 Y.2.2.2 hh ∈ zw_Tb ∧ Cond.initialized Y.1.cls ∈ zw_Tb ∧
  (Y.1.cls ≠ "java/lang/invoke/MethodHandle" ∧ Y.1.cls ≠ "java/lang/invoke/VarHandle") ∧ (parseMethodDescriptor Y.1.desc).map (fun d => d.parameters.length) = some n
section ZH
variable {p : Program} {l : Launch} {e : Env} {R : Room} {s : State} {m : MethodId} {args : Array Value} {below : List Frame} {meth : Method} {c : Code} {H : Heap} {locs : List Loc} {cells slots : Nat} {Q : State → Prop}
variable {cc : ByteArray} {pc nL : Nat} {ls : Array Slot} {rest st0 : List Value} {D : va_G} {cA : Nat → ClassId} {own : String} {ad : Nat → Nat} {sh sh' : zw_Sh} {A : Nat → Prop} {H0 : Heap} {mi mi1 mi' : zw_I} {ml ml1 ml' : zw_L} {z z1 d mc ms b : Nat} {av As : List Value} {rv : Option Value} {Y : zc_Y} {hh : zh_H} {k : Int32}
theorem zh_enter (hy : plainName Y.1.cls = true) (hown : Y.1.cls = own) (hnl : (lg_sl av).length ≤ Y.2.2.1)
    (body : ∀ (p : Program) (e : Env) (s : State) (m : MethodId) (below : List Frame) (meth : Method) (c : Code), zw_C D cA own Y.2.1 Y.2.2.1 p m c s → meth.sig.returnType = Y.2.2.2 → meth.locks = false → zw_B D cA ad sh (zw_A ad sh z) s.heap mi ml z s.heap [] → zt_X s → zt_Z b s s.heap → c.exceptionTable.toList = tableOf hh →
      ∀ ls : Array Slot, lv_has ls Y.2.2.1 (lv_args 0 av) → W p l e (zc_R d 1 6) s m av.toArray below meth c s.heap [] 0 0 (MQ below (zc_Q D cA ad sh sh z (some (.int k)) mi1 ml1 z1) av.toArray s 1 6 (zw_A ad sh z)) (F0 m 0 ls [])) :
    zh_M l D cA Y hh d b ad sh z av mi ml k mi1 ml1 z1 := by
  refine va_MetW (cc := Y.2.1) (maxL := Y.2.2.1) (ret := Y.2.2.2) (hh := hh) hy rfl ?_
  intro p e s m args below meth c s₁ B hml hv
  obtain ⟨⟨rfl, hE, hW, hJ, hz⟩, hX, hZ⟩ := hv
  have hown' : s.vm.findClass own = some m.cls := by rw [← hown]; exact findClass_of_methodNamed B.named
  have htab : c.exceptionTable.toList = tableOf hh := by
    obtain ⟨m9, meth9, c9, hn9, h1, h2, -, -, h6, -⟩ := Cond.codeWith_spec (atoms_spec B.pre _ List.mem_cons_self)
    cases Option.some.inj (hn9.symm.trans B.named)
    cases Option.some.inj (h1.symm.trans B.method)
    cases Option.some.inj (h2.symm.trans (Stand.of_body B).code)
    rw [← h6, table_eq]
  rw [lg_entry_eq]
  exact body p e s m below meth c ⟨B.exec, B.bytes, hml, hown', hE⟩ B.returns B.notSynchronized ⟨hW, hJ, fun k q hk => Or.inl ⟨k, q, hk, rfl⟩, va_S.rf, hz, fun q h => Or.inr (by rw [← hz]; exact h)⟩ hX hZ htab _ (lv_entry av hnl)
theorem zh_ret (X : zw_C D cA own cc nL p m c s) (hr : meth.sig.returnType = some .int) (hlocks : meth.locks = false) (hB : zw_B D cA ad sh (zw_A ad sh z) s.heap mi' ml' z1 H locs) {v : Int32} (hv : some (Value.int v) = rv) (hm : mi' = mi1) (hl : ml' = ml1) (hc : cells ≤ 1) (hs : slots ≤ 6) (hdg : decode cc pc = .ok (.ireturn, 1)) :
    W p l e R s m args below meth c H locs cells slots (MQ below (zc_Q D cA ad sh sh z rv mi1 ml1 z1) args s 1 6 (zw_A ad sh z)) (F0 m pc ls [.int v]) := by
  intro T hT Xs
  obtain ⟨t, a1, o, b1, b2, b3, L, b4, b5⟩ := zc_iret (e := e) (R := R) (args := args) (below := below) (cells := cells) (slots := slots) (ls := ls) X hr hlocks hB hv hm hl hdg T hT Xs
  exact ⟨t, a1, o, b1, b2, b3, L, ⟨b4.1, b4.2.1, b4.2.2.mono hc hs⟩, b5⟩
theorem zh_call (X : zw_C D cA own cc nL p m c s) (Zx : zt_X s) (Zz : zt_Z b s H) (hB : zw_B D cA ad sh A H0 mi ml z H locs) {index n : Nat} (ML : zh_MS own index Y hh n)
    (hM : zh_M l D cA Y hh d b ad sh z As mi ml k mi1 ml1 z1) (hn : As.length = n) (hsz : ls.size = nL) (hR : d + 1 ≤ R.frames ∧ 8 + (Y.2.2.1 + 11) + 40 * d ≤ R.locals) (hst : As.reverse ++ rest = st0) (hW : (rest.map fun v => v.category).sum ≤ 8) (hf : cells + 1 ≤ R.cells ∧ slots + 6 ≤ R.slots) (hdg : decode cc pc = .ok (.invokestatic index, 3))
    (kk : ∀ (H1 : Heap) (locs1 : List Loc), zw_B D cA ad sh A H0 mi1 ml1 z1 H1 locs1 → W p l e R s m args below meth c H1 locs1 (cells + 1) (slots + 6) Q (F0 m (pc + 3) ls (.int k :: rest))) : W p l e R s m args below meth c H locs cells slots Q (F0 m pc ls st0) := by
  subst hst
  obtain ⟨hlink, hstt, hcode, hini, hy, hpar⟩ := ML
  have hx := X.1
  have hb := X.2.1
  have hown := X.2.2.2.1
  have hts : ∀ w ∈ zw_Tb, w.before args s = true := X.2.2.2.2.ts
  have hws : ∀ w ∈ [Cond.codeWith Y.1 Y.2.1 Y.2.2.1 Y.2.2.2 hh], ∀ (a' : Array Value) (U : State), s.WarmedH U.vm → w.before a' U = true := fun w hw a' U hW => (X.2.2.2.2.warm hW).ts w (by rw [List.mem_singleton.mp hw]; exact hcode)
  have hK : Back l R p e below s args Y.1 3 8 (PreOf R 1 6 (zx_P D cA ad sh mi ml z b As)) (PostOf (zc_Q D cA ad sh sh z (some (.int k)) mi1 ml1 z1) 1 6 (zw_A ad sh z)) :=
    va_backW (hh := hh) (bytes := Y.2.1) (maxL := Y.2.2.1) (ret := Y.2.2.2) hM zx_blind rfl rfl hR.1 hR.2 hws (List.mem_singleton.mpr rfl) (fun a' U hW => (X.2.2.2.2.warm hW).ts _ hini)
  have run : va_Run p l e R s m args below meth c H locs cells slots 1 6 (F0 m pc ls (As.reverse ++ rest)) rest (zc_Q D cA ad sh sh z (some (.int k)) mi1 ml1 z1 As.toArray) (zw_A ad sh z) := by
    intro T hT Xs
    obtain ⟨mk, methM, cM, hnamed, hmethM, -, -, -, -, -, -, hsigM⟩ := Cond.codeWith_spec (hts _ hcode)
    have hstatic : methM.isStatic = true := Cond.static_spec hnamed hmethM (hts _ hstt)
    obtain ⟨kP, hkP, -⟩ := className_of_methodNamed hnamed
    have hinitP : kP.init = .initialized := Cond.initialized_spec (findClass_of_methodNamed hnamed) hkP (hts _ hini)
    obtain ⟨vm₁, X₁, hstep₁⟩ := Xs.invokestatic hx hown (hts _ hlink) hnamed hmethM hstatic hkP hinitP hy (g := F0 m pc ls (As.reverse ++ rest)) rfl (argsL := As) (rest := rest) (hn.trans (zw_len hpar _ hsigM)) rfl (by rw [hb]; exact hdg)
    have hW₁ : s.WarmedH vm₁ := X₁.warmed
    obtain ⟨v, ⟨U', l2, c2, s2⟩, X', ⟨g', mk', t, L, e1, e2, hq, h1, hL, h2, h3⟩, hsteps⟩ := hK m meth c ⟨T.setVm vm₁, locs, cells, slots⟩ (F0 m pc ls rest) (.invokestatic index) mk As.toArray X₁ rfl (hsz.trans X.2.2.1.symm) (by rw [hb]; exact hdg) (lv_room hW) (X₁.named hnamed)
      ⟨hf.1, hf.2, ⟨rfl, X.2.2.2.2.warm hW₁, by show zw_W D cA ad sh mi ml T.heap; rw [hT]; exact hB.1, hB.2.1, by show T.heap.size = z; rw [hT]; exact hB.2.2.2.2.1⟩, Zx.warm hW₁, by show zt_Z b (T.setVm vm₁) T.heap; rw [hT]; exact Zz.go hW₁.alike (fun _ _ => rfl)⟩
    dsimp only [Pt.U, Pt.locs, Pt.cells, Pt.slots] at X' e1 e2 h1 h2 h3 hsteps
    subst h1; subst h2; subst h3
    exact ⟨v, (T.setVm vm₁).calling g' mk' As.toArray, t, U', L, hT, X', hL, e1, e2, hq, fun target h => hstep₁ _ fun acts => by rw [doInvoke_state]; exact hsteps.trans h⟩
  exact zw_after run hB kk
/-- what was written lies above what was there -/
theorem zw_drop {g : JFrame} (h : ∀ x ∈ locs, s.heap.size ≤ x.base) (kk : W p l e R s m args below meth c H [] cells slots Q g) : W p l e R s m args below meth c H locs cells slots Q g := fun T hT X =>
  kk T hT ⟨X.admits, X.cas, X.clock, X.frames, X.room, X.hears, X.method, X.code, X.here, X.tail, X.warmed, X.limits, X.bytes, X.same.1, X.same.2.1, X.same.2.2.1, X.same.2.2.2.1, X.same.2.2.2.2.1, fun a c9 h9 => by
    obtain ⟨c8, f1, f2, f3, f4⟩ := X.same.2.2.2.2.2 a c9 h9
    exact ⟨c8, f1, f2, f3, fun i _ => f4 i (fun hm => absurd (h _ hm) (Nat.not_le.mpr (Array.getElem?_eq_some_iff.mp h9).1))⟩⟩
theorem zl_A (hB : zw_B D cA ad sh (fun q => s.heap.size ≤ q) s.heap mi ml z H locs) : ∀ q, zw_A ad sh z q → s.heap.size ≤ q := fun q h => by
  rcases h with ⟨k, p, hk, rfl⟩ | h
  · exact hB.2.2.1 k p hk
  · exact Nat.le_trans hB.2.2.2.1.1 (by rw [hB.2.2.2.2.1]; exact h)
theorem zl_Z (Zz : zt_Z s.heap.size s s.heap) (hB : zw_B D cA ad sh (fun q => s.heap.size ≤ q) s.heap mi ml z H locs) : zt_Z s.heap.size s H := Zz.go (State.WarmedH.refl s).alike fun a ha => hB.2.2.2.1.2.1 a ha (Nat.not_le.mpr ha)
end ZH
/-- the law's 'cell': an element of the script, or 0 -/
def zk_P (D : va_G) (cA : Nat → ClassId) (ad : Nat → Nat) (sh : zw_Sh) (mi : zw_I) (ml : zw_L) (z b L : Nat) (xs : Nat → Int32) (av : List Value) : Array Value → State → Prop := fun v U => zc_P D cA ad sh mi ml z av v U ∧ va_X b L xs U U.heap
theorem zk_blind {D : va_G} {cA : Nat → ClassId} {ad : Nat → Nat} {sh : zw_Sh} {mi : zw_I} {ml : zw_L} {z b L : Nat} {xs : Nat → Int32} {av : List Value} : FrameBlind (zk_P D cA ad sh mi ml z b L xs av) := fun a U g mk q => ⟨zc_blind a U g mk q.1, va_X.moved (U := U.calling g mk a) (State.WarmedH.refl U).alike q.2⟩
def zk_r (L : Nat) (xs : Nat → Int32) (x : Int32) : Int32 := if nI L ≤ x then 0 else xs x.toNatClampNeg
theorem zh_01 : vp_in (0 : Int32) 1 := (vp_in_nI (by decide) (by decide) : vp_in (nI 0) 1)
