/-! MAKING CELLS: 'ad' says ahead where each cell will lie; a row asks that the heap ends just there -/
def zw_NL (own : String) (index ci N : Nat) (fs : List (Nat × Nat)) : Prop := ∃ (C : String) (T : u_T) (ty0 : Nat → FieldType), zw_cl[ci]? = some (C, T, N) ∧ (∀ w ∈ u_ws C T N, w ∈ zw_Tb) ∧ (∀ k, k < N → parseFieldDescriptor (T k).2.2.1 = some (ty0 k)) ∧ Cond.classLink own index C ∈ zw_Tb ∧ Cond.instantiable C N ∈ zw_Tb ∧ Cond.initialized C ∈ zw_Tb ∧
  ∀ j, j < N → ∃ q : Nat × Nat, fs[j]? = some q ∧ q.1 ≠ 2 ∧ defaultValue (ty0 j) = zw_fv (fun _ => 0) 0 0 q
theorem zw_fv_free {ad ad' : Nat → Nat} {x : Int32} {y : Int64} {q : Nat × Nat} (h : q.1 ≠ 2) : zw_fv ad x y q = zw_fv ad' x y q := by
  obtain ⟨a, b⟩ := q
  match a, h with
  | 0, _ => rfl
  | 1, _ => rfl
  | 2, h => exact absurd rfl h
  | a + 3, _ => rfl
/-- several new cells at the end of the heap: k first, then a grid's rows -/
theorem zw_B.growN {D : va_G} {cA : Nat → ClassId} {ad : Nat → Nat} {sh sh' : zw_Sh} {A : Nat → Prop} {H0 : Heap} {mi : zw_I} {ml : zw_L} {z : Nat} {H H1 : Heap} {locs : List Loc} (h : zw_B D cA ad sh A H0 mi ml z H locs) {k b N : Nat} (hk : ad k = z) (hr : ∀ i, i < N → ad (b + i) = z + 1 + i) (hs' : ∀ (i : Nat) (p : zw_Sp), sh' i = some p → i = k ∨ (∃ j, j < N ∧ i = b + j) ∨ sh i = some p)
    (he : ∀ p, sh' k = some p → va_at D zw_cl (ad k, zw_ent cA ad (mi k) (ml k) p) H1) (her : ∀ (i : Nat) (p : zw_Sp), i < N → sh' (b + i) = some p → va_at D zw_cl (ad (b + i), zw_ent cA ad (mi (b + i)) (ml (b + i)) p) H1) (hz : H1.size = z + 1 + N) (ho : ∀ a : Nat, a < z → H1[a]? = H[a]?) : zw_B D cA ad sh' A H0 mi ml (z + 1 + N) H1 locs := by
  obtain ⟨hW, hJ, hA, hS, hsz, hT⟩ := h
  have lt : ∀ (j : Nat) (p : zw_Sp), sh j = some p → ad j < z := fun j p hp => by rw [← hsz]; exact (hW j p hp).lt
  have hge : ∀ q : Nat, z ≤ q → A q := fun q h => hT _ (Nat.le_trans hS.1 (by rw [hsz]; exact h))
  refine ⟨fun j p hp => ?_, fun a b' x y ha hb e => ?_, fun j p hp => ?_, ⟨by rw [hz]; exact Nat.le_trans hS.1 (by rw [hsz]; omega), fun a h1 h2 => (ho a (by rw [← hsz]; exact Nat.lt_of_lt_of_le h1 hS.1)).trans (hS.2.1 a h1 h2), hS.2.2⟩, hz, hT⟩
  · rcases hs' j p hp with rfl | ⟨i, hi, rfl⟩ | hp'
    · exact he p hp
    · exact her i p hi hp
    · exact (hW j p hp').kept (ho _ (lt j p hp'))
  · rcases hs' a x ha with rfl | ⟨i, hi, rfl⟩ | ha' <;> rcases hs' b' y hb with rfl | ⟨i', hi', rfl⟩ | hb'
    · rfl
    · rw [hk, hr i' hi'] at e; omega
    · have := lt _ _ hb'; rw [hk] at e; omega
    · rw [hk, hr i hi] at e; omega
    · rw [hr i hi, hr i' hi'] at e
      have : i = i' := by omega
      rw [this]
    · have := lt _ _ hb'; rw [hr i hi] at e; omega
    · have := lt _ _ ha'; rw [hk] at e; omega
    · have := lt _ _ ha'; rw [hr i' hi'] at e; omega
    · exact hJ a b' x y ha' hb' e
  · rcases hs' j p hp with rfl | ⟨i, hi, rfl⟩ | hp'
    · exact hge _ (by rw [hk]; omega)
    · exact hge _ (by rw [hr i hi]; omega)
    · exact hA j p hp'
theorem zw_outer (c : ClassId) (N h0 : Nat) : ∀ i : Nat, Jvm.Free.Multi.outerC c N h0 i = arrV c N (fun j => if j < i then .ref (h0 + 1 + j) else .null)
  | 0 => by
    show ({ cls := c, slots := Array.replicate N .null, vm := .none } : Cell) = _
    rw [arrV_new]
    exact congrArg (arrV c N) (funext fun j => by simp)
  | i + 1 => by
    show (Jvm.Free.Multi.outerC c N h0 i).setSlot i (.ref (h0 + 1 + i)) = _
    rw [zw_outer c N h0 i, arrV_store]
    refine congrArg (arrV c N) (funext fun j => ?_)
    unfold updV
    by_cases e : j = i
    · subst e; simp
    · by_cases h : j < i
      · rw [if_neg e, if_pos (show j < i + 1 by omega)]; exact if_pos h
      · rw [if_neg e, if_neg (show ¬ j < i + 1 by omega)]; exact if_neg h
theorem zw_arrV_eq {c : ClassId} {N : Nat} {f g : Nat → Value} (h : ∀ j, j < N → f j = g j) : arrV c N f = arrV c N g := by
  have e : (Array.ofFn (n := N) fun j => f j.val) = (Array.ofFn (n := N) fun j => g j.val) := congrArg Array.ofFn (funext fun j => h j.val j.isLt)
  show ({ cls := c, slots := Array.ofFn (n := N) fun j => f j.val, vm := .none } : Cell) = { cls := c, slots := Array.ofFn (n := N) fun j => g j.val, vm := .none }
  rw [e]
section ZM
variable {p : Program} {l : Launch} {e : Env} {R : Room} {s : State} {m : MethodId} {args : Array Value} {below : List Frame} {meth : Method} {c : Code} {H : Heap} {locs : List Loc} {cells slots : Nat} {Q : State → Prop}
variable {cc : ByteArray} {pc nL : Nat} {ls : Array Slot} {rest : List Value} {D : va_G} {cA : Nat → ClassId} {own : String} {ad : Nat → Nat} {sh sh' : zw_Sh} {A : Nat → Prop} {H0 : Heap} {mi mi' : zw_I} {ml ml' : zw_L} {z : Nat}
theorem zw_new (X : zw_C D cA own cc nL p m c s) (hB : zw_B D cA ad sh A H0 mi ml z H locs) {index ci N : Nat} {fs : List (Nat × Nat)} (F : zw_NL own index ci N fs) (k : Nat) (hk : ad k = z) (h0 : ∀ j, mi k j = 0) (h1 : ∀ j, ml k j = 0) (hs : sh' k = some (.inl (ci, fs))) (hs' : ∀ i, i ≠ k → sh' i = sh i) (hcells : cells + 1 ≤ R.cells) (hslots : slots + N ≤ R.slots) (hdg : decode cc pc = .ok (.new index, 3))
    (kk : ∀ H1 : Heap, zw_B D cA ad sh' A H0 mi ml (z + 1) H1 locs → W p l e R s m args below meth c H1 locs (cells + 1) (slots + N) Q (F0 m (pc + 3) ls (.ref (ad k) :: rest))) : W p l e R s m args below meth c H locs cells slots Q (F0 m pc ls rest) := by
  subst hk
  obtain ⟨hx, hb, -, hown, hE⟩ := X
  obtain ⟨C, T, ty0, hc, hlay, hty, hcl, hins, hini, hdf⟩ := F
  have hts : ∀ w ∈ zw_Tb, w.before args s = true := hE.ts
  have hKn := hE.1.1 ci _ hc
  refine W.newcK hx hb hown (hts _ hcl) (hts _ hins) (hts _ hini) rfl hdg hcells hslots hKn.2.1 hB.2.2.2.2.1 fun H1 kC hkC e1 z1 o1 => kk H1 (hB.grow rfl hs hs' ⟨_, hc, (u_born ty0 hts hlay hKn hkC e1 hty).to fun j hj => ?_⟩ z1 o1)
  obtain ⟨q, hq, hq2, hd⟩ := hdf j hj
  show defaultValue (ty0 j) = vp_V (zw_fs ad (mi k) (ml k) fs) j
  unfold vp_V
  rw [List.getD_eq_getElem?_getD, zw_fs_get hq, h0 j, h1 j, hd, zw_fv_free hq2]
  rfl
theorem zw_newI (X : zw_C D cA own cc nL p m c s) (hB : zw_B D cA ad sh A H0 mi ml z H locs) (hw : Cond.arrayClass .int ∈ zw_Tb) (k : Nat) (hk : ad k = z) (h0 : ∀ j, mi k j = 0) {x : Int32} {N : Nat} (hx0 : ¬ x < 0) (hN : x.toNatClampNeg = N) (hbig : N ≤ 1000000) (hs : sh' k = some (.inr (0, N, 0))) (hs' : ∀ i, i ≠ k → sh' i = sh i) (hcells : cells + 1 ≤ R.cells) (hslots : slots + N ≤ R.slots) (hdg : decode cc pc = .ok (.newarray .int, 2))
    (kk : ∀ H1 : Heap, zw_B D cA ad sh' A H0 mi ml (z + 1) H1 locs → W p l e R s m args below meth c H1 locs (cells + 1) (slots + N) Q (F0 m (pc + 2) ls (.ref (ad k) :: rest))) : W p l e R s m args below meth c H locs cells slots Q (F0 m pc ls (.int x :: rest)) := by
  subst hk
  obtain ⟨hx, hb, -, hown, hE⟩ := X
  have hra : s.vm.findClass ("[" ++ (FieldType.int).toString) = some (cA 0) := (hE.1.2 0 (cA 0, .int) rfl).2
  refine va_newaK (atype := .int) hx hb (hE.ts _ hw) rfl hdg rfl hx0 hN (by show N * 4 ≤ _; omega) hcells hslots hB.2.2.2.2.1 fun H1 cA' e1 z1 o1 _ hfc => kk H1 (hB.grow rfl hs hs' ?_ z1 o1)
  cases Option.some.inj (hra.symm.trans hfc)
  show H1[ad k]? = some (arrV (cA 0) N (fun j => .int (mi k j)))
  rw [e1]
  exact congrArg (fun f => some (arrV (cA 0) N f)) (funext fun j => by rw [h0 j]; rfl)
theorem zw_newZ (X : zw_C D cA own cc nL p m c s) (hB : zw_B D cA ad sh A H0 mi ml z H locs) (hw : Cond.arrayClass .boolean ∈ zw_Tb) (k : Nat) (hk : ad k = z) (h0 : ∀ j, mi k j = 0) {x : Int32} {N : Nat} (hx0 : ¬ x < 0) (hN : x.toNatClampNeg = N) (hbig : N ≤ 1000000) (hs : sh' k = some (.inr (2, N, 0))) (hs' : ∀ i, i ≠ k → sh' i = sh i) (hcells : cells + 1 ≤ R.cells) (hslots : slots + N ≤ R.slots) (hdg : decode cc pc = .ok (.newarray .boolean, 2))
    (kk : ∀ H1 : Heap, zw_B D cA ad sh' A H0 mi ml (z + 1) H1 locs → W p l e R s m args below meth c H1 locs (cells + 1) (slots + N) Q (F0 m (pc + 2) ls (.ref (ad k) :: rest))) : W p l e R s m args below meth c H locs cells slots Q (F0 m pc ls (.int x :: rest)) := by
  subst hk
  obtain ⟨hx, hb, -, hown, hE⟩ := X
  have hra : s.vm.findClass ("[" ++ (FieldType.boolean).toString) = some (cA 2) := (hE.1.2 2 (cA 2, .boolean) rfl).2
  refine va_newaK (atype := .boolean) hx hb (hE.ts _ hw) rfl hdg rfl hx0 hN (by show N * 1 ≤ _; omega) hcells hslots hB.2.2.2.2.1 fun H1 cA' e1 z1 o1 _ hfc => kk H1 (hB.grow rfl hs hs' ?_ z1 o1)
  cases Option.some.inj (hra.symm.trans hfc)
  show H1[ad k]? = some (arrV (cA 2) N (fun j => .int (mi k j)))
  rw [e1]
  exact congrArg (fun f => some (arrV (cA 2) N f)) (funext fun j => by rw [h0 j]; rfl)
theorem zw_newJ (X : zw_C D cA own cc nL p m c s) (hB : zw_B D cA ad sh A H0 mi ml z H locs) (hw : Cond.arrayClass .long ∈ zw_Tb) (k : Nat) (hk : ad k = z) (h0 : ∀ j, ml k j = 0) {x : Int32} {N : Nat} (hx0 : ¬ x < 0) (hN : x.toNatClampNeg = N) (hbig : N ≤ 1000000) (hs : sh' k = some (.inr (1, N, 0))) (hs' : ∀ i, i ≠ k → sh' i = sh i) (hcells : cells + 1 ≤ R.cells) (hslots : slots + N ≤ R.slots) (hdg : decode cc pc = .ok (.newarray .long, 2))
    (kk : ∀ H1 : Heap, zw_B D cA ad sh' A H0 mi ml (z + 1) H1 locs → W p l e R s m args below meth c H1 locs (cells + 1) (slots + N) Q (F0 m (pc + 2) ls (.ref (ad k) :: rest))) : W p l e R s m args below meth c H locs cells slots Q (F0 m pc ls (.int x :: rest)) := by
  subst hk
  obtain ⟨hx, hb, -, hown, hE⟩ := X
  have hra : s.vm.findClass ("[" ++ (FieldType.long).toString) = some (cA 1) := (hE.1.2 1 (cA 1, .long) rfl).2
  refine va_newaK (atype := .long) hx hb (hE.ts _ hw) rfl hdg rfl hx0 hN (by show N * 8 ≤ _; omega) hcells hslots hB.2.2.2.2.1 fun H1 cA' e1 z1 o1 _ hfc => kk H1 (hB.grow rfl hs hs' ?_ z1 o1)
  cases Option.some.inj (hra.symm.trans hfc)
  show H1[ad k]? = some (arrV (cA 1) N (fun j => .long (ml k j)))
  rw [e1]
  exact congrArg (fun f => some (arrV (cA 1) N f)) (funext fun j => by rw [h0 j]; rfl)
theorem zw_multi (X : zw_C D cA own cc nL p m c s) (hB : zw_B D cA ad sh A H0 mi ml z H locs) {ty rt : Nat} {t : FieldType} (hty : (ty = 3 ∧ rt = 0 ∧ t = .int) ∨ (ty = 4 ∧ rt = 1 ∧ t = .long)) {index : Nat} (hlink : Cond.classLink own index ("[" ++ (FieldType.array t).toString) ∈ zw_Tb) (hover : Cond.arrayOver (.array t) ∈ zw_Tb) (harr : Cond.arrayClass t ∈ zw_Tb)
    (k b : Nat) {x y : Int32} {N K : Nat} (hk : ad k = z) (hr : ∀ i, i < N → ad (b + i) = z + 1 + i) (h0 : ∀ i j, i < N → mi (b + i) j = 0) (h1 : ∀ i j, i < N → ml (b + i) j = 0) (hx0 : ¬ x < 0) (hy0 : ¬ y < 0) (hN : x.toNatClampNeg = N) (hK : y.toNatClampNeg = K) (hbN : N ≤ 100000) (hbK : K ≤ 100000)
    (hs : sh' k = some (.inr (ty, N, b))) (hsr : ∀ i, i < N → sh' (b + i) = some (.inr (rt, K, 0))) (hs' : ∀ (i : Nat) (p : zw_Sp), sh' i = some p → i = k ∨ (∃ j, j < N ∧ i = b + j) ∨ sh i = some p) (hcells : cells + (1 + N) ≤ R.cells) (hslots : slots + (N + N * K) ≤ R.slots) (hdg : decode cc pc = .ok (.multianewarray index 2, 4))
    (kk : ∀ H1 : Heap, zw_B D cA ad sh' A H0 mi ml (z + 1 + N) H1 locs → W p l e R s m args below meth c H1 locs (cells + 1 + N) (slots + N + N * K) Q (F0 m (pc + 4) ls (.ref (ad k) :: rest))) : W p l e R s m args below meth c H locs cells slots Q (F0 m pc ls (.int y :: .int x :: rest)) := by
  subst hN
  subst hK
  obtain ⟨hx, hb, -, hown, hE⟩ := X
  have hts : ∀ w ∈ zw_Tb, w.before args s = true := hE.ts
  have fO : s.vm.findClass ("[" ++ (FieldType.array t).toString) = some (cA ty) := by
    rcases hty with ⟨rfl, rfl, rfl⟩ | ⟨rfl, rfl, rfl⟩
    · exact (hE.1.2 3 (cA 3, .array .int) rfl).2
    · exact (hE.1.2 4 (cA 4, .array .long) rfl).2
  have fI : s.vm.findClass (FieldType.array t).toString = some (cA rt) := by
    rcases hty with ⟨rfl, rfl, rfl⟩ | ⟨rfl, rfl, rfl⟩
    · exact (hE.1.2 0 (cA 0, .int) rfl).2
    · exact (hE.1.2 1 (cA 1, .long) rfl).2
  intro T hT Xs
  obtain ⟨vm₁, cO, cI, -, gO, gI, -, -, X', step⟩ := Xs.multianewarray2F hx hown (hts _ hlink) (hts _ hover) (hts _ harr) (g := F0 m pc ls (.int y :: .int x :: rest)) rfl (by rw [hb]; exact hdg) rfl hx0 hy0 (by omega) (by rcases hty with ⟨-, -, rfl⟩ | ⟨-, -, rfl⟩ <;> simp only [componentBytes] <;> omega) (by omega) (by rcases hty with ⟨-, -, rfl⟩ | ⟨-, -, rfl⟩ <;> rfl) (by rcases hty with ⟨-, -, rfl⟩ | ⟨-, -, rfl⟩ <;> rfl) hcells hslots
  cases Option.some.inj (fO.symm.trans gO)
  cases Option.some.inj (fI.symm.trans gI)
  generalize hF : Jvm.Free.Multi.fill (T.setVm vm₁) (cA ty) (cA rt) x.toNatClampNeg y.toNatClampNeg (defaultValue t) x.toNatClampNeg = F at X' step
  have hTh : (T.setVm vm₁).heap = H := hT
  obtain ⟨f1, f2, -, -⟩ := Jvm.Free.Multi.fill_facts (T.setVm vm₁) (cA ty) (cA rt) x.toNatClampNeg y.toNatClampNeg (defaultValue t) x.toNatClampNeg
  rw [hF, hTh] at f1 f2
  have hsz : H.size = z := hB.2.2.2.2.1
  have hold : ∀ q : Nat, q < z → F.heap[q]? = H[q]? := fun q hq => by
    have := Jvm.Free.Multi.fill_old (T.setVm vm₁) (cA ty) (cA rt) x.toNatClampNeg y.toNatClampNeg (defaultValue t) (a := q) (by rw [hTh, hsz]; exact hq) x.toNatClampNeg
    rw [hF, hTh] at this
    exact this
  have hrow : ∀ j : Nat, j < x.toNatClampNeg → F.heap[z + 1 + j]? = some (arrV (cA rt) y.toNatClampNeg (fun _ => defaultValue t)) := fun j hj => by
    have := Jvm.Free.Multi.fill_inner (T.setVm vm₁) (cA ty) (cA rt) x.toNatClampNeg y.toNatClampNeg (defaultValue t) x.toNatClampNeg j hj
    rw [hF, hTh, hsz] at this
    rw [this, ← arrV_new]
    rfl
  rw [hsz] at f1 f2
  have hTs : T.heap.size = ad k := by rw [hT, hsz, hk]
  have B' : zw_B D cA ad sh' A H0 mi ml (z + 1 + x.toNatClampNeg) F.heap locs := by
    refine hB.growN hk hr hs' (fun p hp => ?_) (fun i p hi hp => ?_) f1 hold
    · cases hs.symm.trans hp
      have e : Jvm.Free.Multi.outerC (cA ty) x.toNatClampNeg z x.toNatClampNeg = arrV (cA ty) x.toNatClampNeg (fun j => .ref (ad (b + j))) := by
        rw [zw_outer]
        exact zw_arrV_eq fun j hj => by rw [if_pos hj, hr j hj]
      rw [e] at f2
      rcases hty with ⟨rfl, rfl, rfl⟩ | ⟨rfl, rfl, rfl⟩
      · show F.heap[ad k]? = some (arrV (cA 3) _ (fun j => .ref (ad (b + j))))
        rw [hk]; exact f2
      · show F.heap[ad k]? = some (arrV (cA 4) _ (fun j => .ref (ad (b + j))))
        rw [hk]; exact f2
    · cases (hsr i hi).symm.trans hp
      have e := hrow i hi
      rcases hty with ⟨rfl, rfl, rfl⟩ | ⟨rfl, rfl, rfl⟩
      · show F.heap[ad (b + i)]? = some (arrV (cA 0) _ (fun j => .int (mi (b + i) j)))
        rw [hr i hi, e]
        exact congrArg (fun f => some (arrV (cA 0) _ f)) (funext fun j => by rw [h0 i j hi]; rfl)
      · show F.heap[ad (b + i)]? = some (arrV (cA 1) _ (fun j => .long (ml (b + i) j)))
        rw [hr i hi, e]
        exact congrArg (fun f => some (arrV (cA 1) _ f)) (funext fun j => by rw [h1 i j hi]; rfl)
  obtain ⟨t9, a1, b1⟩ := kk F.heap B' F rfl X'
  refine ⟨t9, step t9 ?_, b1⟩
  rw [hTs]
  exact a1
end ZM
