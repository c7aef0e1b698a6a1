/-! THE WORLD OF THIS CLAIM: cells by numbers k; 'ad k' is where cell k lies, 'sh k' what kind it is, 'mi k j' and 'ml k j' the ints and longs in it. References never change once a cell is made, so they stand in the kinds. -/
abbrev zw_cl : List vw_C := vwCl
def zw_nest (w : Cond) : Bool := match w with
  | .fieldLinkNest .. => true
  | .methodLinkNest .. => true
  | .arrayOver _ => true
  | .castable .. => true
  | _ => false
def zw_ok (w : Cond) : Bool := goodWord w || zw_nest w
/-- the words that stay true as the tables warm -/
def zw_Tb : List Cond := lw_tbl.filter zw_ok
theorem zw_in {w : Cond} (h : w ∈ lw_tbl) (hok : zw_ok w = true) : w ∈ zw_Tb := List.mem_filter.mpr ⟨h, hok⟩
theorem zw_Tb_ok : ∀ w ∈ zw_Tb, zw_ok w = true := fun w h => (List.mem_filter.mp h).2
theorem zw_warm {w : Cond} (hok : zw_ok w = true) {s U : State} (hW : s.WarmedH U.vm) (h : va_Nw w s) : va_Nw w U := by
  unfold zw_ok at hok
  rw [Bool.or_eq_true] at hok
  rcases hok with hg | hn
  · exact word_at hW (good_of_word hg) h
  · unfold zw_nest at hn
    split at hn
    · exact va_Nw.warmF hW h
    · exact va_Nw.warmM hW h
    · exact Cond.overAtom_setVm (args := #[]) hW.alike _ rfl h
    · exact va_tabs rfl (rfl : (s.setVm U.vm).vm = U.vm) (by rw [Cond.castable_setVm hW.alike]; exact h)
    · cases hn
theorem zw_use {w : Cond} (hok : zw_ok w = true) {s : State} {args : Array Value} (h : va_Nw w s) : w.before args s = true := by
  unfold zw_ok at hok
  rw [Bool.or_eq_true] at hok
  rcases hok with hg | hn
  · exact word_at (U := s) (State.WarmedH.refl s) (good_of_word hg) h
  · unfold zw_nest at hn
    split at hn
    · exact va_Nw.use rfl h
    · exact va_Nw.use rfl h
    · exact h
    · exact va_Nw.use rfl h
    · cases hn
abbrev zw_I : Type := Nat → Nat → Int32
abbrev zw_L : Type := Nat → Nat → Int64
/-- an object: the number of its class, its fields' kinds (0 int, 1 long, 2 the cell r, 3 null); an array: its kind (0 int, 1 long, 2 boolean, 3 int[][], 4 long[][]), its length, the number of its first row -/
abbrev zw_Sp : Type := (Nat × List (Nat × Nat)) ⊕ (Nat × Nat × Nat)
abbrev zw_Sh : Type := Nat → Option zw_Sp
def zw_up {α : Type} (f : Nat → Nat → α) (k j : Nat) (v : α) : Nat → Nat → α := fun a b => if a = k ∧ b = j then v else f a b
theorem zw_up_self {α : Type} (f : Nat → Nat → α) (k j : Nat) (v : α) : zw_up f k j v k j = v := by simp [zw_up]
theorem zw_up_ne1 {α : Type} (f : Nat → Nat → α) {k j a : Nat} (b : Nat) (v : α) (h : a ≠ k) : zw_up f k j v a b = f a b := by simp [zw_up, h]
theorem zw_up_ne2 {α : Type} (f : Nat → Nat → α) {k j b : Nat} (a : Nat) (v : α) (h : b ≠ j) : zw_up f k j v a b = f a b := by simp [zw_up, h]
theorem zw_up_row {α : Type} (f : Nat → Nat → α) {k j a : Nat} (v : α) (h : a ≠ k) : zw_up f k j v a = f a := by
  funext b
  simp [zw_up, h]
theorem zw_up_off {α : Type} (f : Nat → Nat → α) {k j a b : Nat} (v : α) (h : a ≠ k ∨ b ≠ j) : zw_up f k j v a b = f a b := by
  rcases h with h | h
  · exact zw_up_ne1 f b v h
  · exact zw_up_ne2 f a v h
def zw_fv (ad : Nat → Nat) (x : Int32) (y : Int64) (q : Nat × Nat) : Value := match q.1 with
  | 0 => .int x
  | 1 => .long y
  | 2 => .ref (ad q.2)
  | _ => .null
def zw_fs (ad : Nat → Nat) (mi : Nat → Int32) (ml : Nat → Int64) (fs : List (Nat × Nat)) : List Value := fs.mapIdx (fun j q => zw_fv ad (mi j) (ml j) q)
theorem zw_fs_get {ad : Nat → Nat} {mi : Nat → Int32} {ml : Nat → Int64} {fs : List (Nat × Nat)} {j : Nat} {q : Nat × Nat} (h : fs[j]? = some q) : (zw_fs ad mi ml fs)[j]? = some (zw_fv ad (mi j) (ml j) q) := by
  simp [zw_fs, List.getElem?_mapIdx, h]
theorem zw_fs_len {ad : Nat → Nat} {mi : Nat → Int32} {ml : Nat → Int64} {fs : List (Nat × Nat)} : (zw_fs ad mi ml fs).length = fs.length := by simp [zw_fs]
theorem zw_fs_set {ad : Nat → Nat} {mi mi' : Nat → Int32} {ml ml' : Nat → Int64} {fs : List (Nat × Nat)} {j : Nat} {q : Nat × Nat} {v : Value} (hl : j < fs.length) (hv : zw_fv ad (mi' j) (ml' j) q = v) (hm : ∀ i, i ≠ j → mi' i = mi i) (hml : ∀ i, i ≠ j → ml' i = ml i) :
    (zw_fs ad mi ml fs).set j v = zw_fs ad mi' ml' (fs.set j q) := by
  apply List.ext_getElem?
  intro i
  by_cases h : i = j
  · subst h
    rw [List.getElem?_set_self (by rw [zw_fs_len]; exact hl), zw_fs_get (List.getElem?_set_self hl), hv]
  · rw [List.getElem?_set_ne (Ne.symm h)]
    simp only [zw_fs, List.getElem?_mapIdx, List.getElem?_set_ne (Ne.symm h)]
    cases fs[i]? with
    | none => rfl
    | some x => simp [hm i h, hml i h]
def zw_av (ad : Nat → Nat) (mi : Nat → Int32) (ml : Nat → Int64) (ty base : Nat) : (Nat → Int32) ⊕ (Nat → Int64) ⊕ (Nat → UInt32) ⊕ (Nat → UInt64) ⊕ (Nat → Option Nat) := match ty with
  | 1 => .inr (.inl ml)
  | 3 => .inr (.inr (.inr (.inr (fun i => some (ad (base + i))))))
  | 4 => .inr (.inr (.inr (.inr (fun i => some (ad (base + i))))))
  | _ => .inl mi
def zw_ent (cA : Nat → ClassId) (ad : Nat → Nat) (mi : Nat → Int32) (ml : Nat → Int64) (q : zw_Sp) : va_E := match q with
  | .inl o => .inr (o.1, zw_fs ad mi ml o.2)
  | .inr a => .inl (cA a.1, a.2.1, zw_av ad mi ml a.1 a.2.2)
def zw_W (D : va_G) (cA : Nat → ClassId) (ad : Nat → Nat) (sh : zw_Sh) (mi : zw_I) (ml : zw_L) (H : Heap) : Prop := ∀ (k : Nat) (q : zw_Sp), sh k = some q → va_at D zw_cl (ad k, zw_ent cA ad (mi k) (ml k) q) H
def zw_J (ad : Nat → Nat) (sh : zw_Sh) : Prop := ∀ (j k : Nat) (p q : zw_Sp), sh j = some p → sh k = some q → ad j = ad k → j = k
/-- which cells a method may change: its world's, and those from z on -/
def zw_A (ad : Nat → Nat) (sh : zw_Sh) (z : Nat) : Nat → Prop := fun q => (∃ (k : Nat) (p : zw_Sp), sh k = some p ∧ q = ad k) ∨ z ≤ q
def zw_tys (cA : Nat → ClassId) : List (ClassId × FieldType) := [(cA 0, .int), (cA 1, .long), (cA 2, .boolean), (cA 3, .array .int), (cA 4, .array .long)]
/-- what the tables say: the classes, the array classes, every word -/
def zw_E (D : va_G) (cA : Nat → ClassId) (U : State) : Prop := va_K D zw_cl (zw_tys cA) U ∧ ∀ w ∈ zw_Tb, va_Nw w U
theorem zw_E.in {D : va_G} {cA : Nat → ClassId} {U : State} (h : zw_E D cA U) {w : Cond} (hw : w ∈ zw_Tb) : va_Nw w U := h.2 w hw
theorem zw_E.warm {D : va_G} {cA : Nat → ClassId} {s U : State} (h : zw_E D cA s) (hW : s.WarmedH U.vm) : zw_E D cA U := ⟨va_K.moved hW.alike h.1, fun w hw => zw_warm (zw_Tb_ok w hw) hW (h.2 w hw)⟩
theorem zw_E.ts {D : va_G} {cA : Nat → ClassId} {s : State} {args : Array Value} (h : zw_E D cA s) : ∀ w ∈ zw_Tb, w.before args s = true := fun w hw => zw_use (zw_Tb_ok w hw) (h.2 w hw)
/-- what stands in a method's body: the machine, the code, the class, the tables -/
def zw_C (D : va_G) (cA : Nat → ClassId) (own : String) (cc : ByteArray) (nL : Nat) (p : Program) (m : MethodId) (c : Code) (s : State) : Prop :=
  p.tables.exec = Jvm.exec ∧ c.code = cc ∧ c.maxLocals = nL ∧ s.vm.findClass own = some m.cls ∧ zw_E D cA s
/-- the world and what has changed since H0 -/
def zw_B (D : va_G) (cA : Nat → ClassId) (ad : Nat → Nat) (sh : zw_Sh) (A : Nat → Prop) (H0 : Heap) (mi : zw_I) (ml : zw_L) (z : Nat) (H : Heap) (locs : List Loc) : Prop :=
  zw_W D cA ad sh mi ml H ∧ zw_J ad sh ∧ (∀ (k : Nat) (q : zw_Sp), sh k = some q → A (ad k)) ∧ va_S A H0 H locs ∧ H.size = z ∧ ∀ q : Nat, H0.size ≤ q → A q
theorem zw_B.at {D : va_G} {cA : Nat → ClassId} {ad : Nat → Nat} {sh : zw_Sh} {A : Nat → Prop} {H0 : Heap} {mi : zw_I} {ml : zw_L} {z : Nat} {H : Heap} {locs : List Loc} (h : zw_B D cA ad sh A H0 mi ml z H locs) {k : Nat} {q : zw_Sp} (hk : sh k = some q) : va_at D zw_cl (ad k, zw_ent cA ad (mi k) (ml k) q) H := h.1 k q hk
theorem zw_B.one {D : va_G} {cA : Nat → ClassId} {ad : Nat → Nat} {sh : zw_Sh} {A : Nat → Prop} {H0 : Heap} {mi : zw_I} {ml : zw_L} {z : Nat} {H : Heap} {locs : List Loc} (h : zw_B D cA ad sh A H0 mi ml z H locs) {k : Nat} {q : zw_Sp} (hk : sh k = some q) : va_P D zw_cl [(ad k, zw_ent cA ad (mi k) (ml k) q)] H := fun i x hx => by
  have hi : i < 1 := (List.getElem?_eq_some_iff.mp hx).1
  rw [show i = 0 by omega] at hx
  cases hx
  exact h.1 k q hk
/-- one cell changes, in what it holds or in its kind -/
theorem zw_B.step {D : va_G} {cA : Nat → ClassId} {ad : Nat → Nat} {sh sh' : zw_Sh} {A : Nat → Prop} {H0 : Heap} {mi mi' : zw_I} {ml ml' : zw_L} {z : Nat} {H H1 : Heap} {locs : List Loc} (h : zw_B D cA ad sh A H0 mi ml z H locs) {k i : Nat} {q q' : zw_Sp} (hk : sh k = some q) (hs : sh' k = some q') (hs' : ∀ i, i ≠ k → sh' i = sh i)
    (hm : ∀ i, i ≠ k → mi' i = mi i) (hml : ∀ i, i ≠ k → ml' i = ml i) (he : va_at D zw_cl (ad k, zw_ent cA ad (mi' k) (ml' k) q') H1) (hz : H1.size = H.size) (ho : ∀ a : Nat, a ≠ ad k → H1[a]? = H[a]?) : zw_B D cA ad sh' A H0 mi' ml' z H1 (locs ++ [⟨ad k, i⟩]) := by
  obtain ⟨hW, hJ, hA, hS, hsz, hT⟩ := h
  have back : ∀ (j : Nat) (p : zw_Sp), sh' j = some p → ∃ p', sh j = some p' := fun j p hp => by
    by_cases e : j = k
    · exact ⟨q, by rw [e]; exact hk⟩
    · exact ⟨p, by rw [← hs' j e]; exact hp⟩
  refine ⟨fun j p hp => ?_, fun a b x y ha hb e => ?_, fun j p hp => ?_, hS.put hz ho (hA k q hk), hz.trans hsz, hT⟩
  · by_cases e : j = k
    · subst e
      cases hs.symm.trans hp
      exact he
    · have hp' := (hs' j e).symm.trans hp
      rw [hm j e, hml j e]
      exact (hW j p hp').kept (ho _ (fun h => e (hJ j k p q hp' hk h)))
  · obtain ⟨x', hx'⟩ := back a x ha
    obtain ⟨y', hy'⟩ := back b y hb
    exact hJ a b x' y' hx' hy' e
  · obtain ⟨p', hp'⟩ := back j p hp
    exact hA j p' hp'
/-- a new cell, at the end of the heap -/
theorem zw_B.grow {D : va_G} {cA : Nat → ClassId} {ad : Nat → Nat} {sh sh' : zw_Sh} {A : Nat → Prop} {H0 : Heap} {mi : zw_I} {ml : zw_L} {z : Nat} {H H1 : Heap} {locs : List Loc} (h : zw_B D cA ad sh A H0 mi ml z H locs) {k : Nat} {q : zw_Sp} (hk : ad k = z) (hs : sh' k = some q) (hs' : ∀ i, i ≠ k → sh' i = sh i)
    (he : va_at D zw_cl (ad k, zw_ent cA ad (mi k) (ml k) q) H1) (hz : H1.size = z + 1) (ho : ∀ a : Nat, a < z → H1[a]? = H[a]?) : zw_B D cA ad sh' A H0 mi ml (z + 1) H1 locs := by
  obtain ⟨hW, hJ, hA, hS, hsz, hT⟩ := h
  have lt : ∀ (j : Nat) (p : zw_Sp), sh j = some p → ad j < z := fun j p hp => by rw [← hsz]; exact (hW j p hp).lt
  have hAk : A (ad k) := hT _ (by rw [hk, ← hsz]; exact hS.1)
  refine ⟨fun j p hp => ?_, fun a b x y ha hb e => ?_, fun j p hp => ?_, ⟨by rw [hz, ← hsz]; exact Nat.le_succ_of_le hS.1, fun a h1 h2 => (ho a (by rw [← hsz]; exact Nat.lt_of_lt_of_le h1 hS.1)).trans (hS.2.1 a h1 h2), hS.2.2⟩, hz, hT⟩
  · by_cases e : j = k
    · subst e
      cases hs.symm.trans hp
      exact he
    · have hp' := (hs' j e).symm.trans hp
      exact (hW j p hp').kept (ho _ (lt j p hp'))
  · by_cases ea : a = k <;> by_cases eb : b = k
    · rw [ea, eb]
    · have := lt b y ((hs' b eb).symm.trans hb)
      rw [ea, hk] at e
      omega
    · have := lt a x ((hs' a ea).symm.trans ha)
      rw [eb, hk] at e
      omega
    · exact hJ a b x y ((hs' a ea).symm.trans ha) ((hs' b eb).symm.trans hb) e
  · by_cases e : j = k
    · rw [e]; exact hAk
    · exact hA j p ((hs' j e).symm.trans hp)
/-- cells elsewhere are made: the world stays -/
theorem zw_B.more {D : va_G} {cA : Nat → ClassId} {ad : Nat → Nat} {sh : zw_Sh} {A : Nat → Prop} {H0 : Heap} {mi : zw_I} {ml : zw_L} {z z' : Nat} {H H1 : Heap} {locs : List Loc} (h : zw_B D cA ad sh A H0 mi ml z H locs) (hz : H1.size = z') (hle : z ≤ z') (ho : ∀ a : Nat, a < z → H1[a]? = H[a]?) : zw_B D cA ad sh A H0 mi ml z' H1 locs := by
  obtain ⟨hW, hJ, hA, hS, hsz, hT⟩ := h
  refine ⟨fun j p hp => (hW j p hp).kept (ho _ (by rw [← hsz]; exact (hW j p hp).lt)), hJ, hA, ⟨Nat.le_trans hS.1 (by rw [hz, hsz]; exact hle), fun a h1 h2 => (ho a (by rw [← hsz]; exact Nat.lt_of_lt_of_le h1 hS.1)).trans (hS.2.1 a h1 h2), hS.2.2⟩, hz, hT⟩
/-- the kinds only matter where they stand -/
theorem zw_B.kinds {D : va_G} {cA : Nat → ClassId} {ad : Nat → Nat} {sh sh' : zw_Sh} {A : Nat → Prop} {H0 : Heap} {mi : zw_I} {ml : zw_L} {z : Nat} {H : Heap} {locs : List Loc} (h : zw_B D cA ad sh A H0 mi ml z H locs) (hs : ∀ (k : Nat) (q : zw_Sp), sh' k = some q → sh k = some q) : zw_B D cA ad sh' A H0 mi ml z H locs :=
  ⟨fun j p hp => h.1 j p (hs j p hp), fun a b x y ha hb e => h.2.1 a b x y (hs a x ha) (hs b y hb) e, fun j p hp => h.2.2.1 j p (hs j p hp), h.2.2.2⟩
/-- a field as an instruction names it: pool index of the class 'own'; it is field j of class number ci -/
def zw_FL (own : String) (index ci j : Nat) : Prop := ∃ (C : String) (T : u_T) (N : Nat), zw_cl[ci]? = some (C, T, N) ∧ j < N ∧ (∀ w ∈ u_ws C T N, w ∈ zw_Tb) ∧ (Cond.fieldLink own index (T j).1 (T j).2.1 (T j).2.2.1 ∈ zw_Tb ∨ ∃ host : String, Cond.fieldLinkNest own index (T j).1 (T j).2.1 (T j).2.2.1 host ∈ zw_Tb)
/-- .. and what a write needs -/
def zw_FP (own : String) (index ci j : Nat) (ty : FieldType) (fin : Bool) : Prop := ∃ (C : String) (T : u_T) (N : Nat) (ty0 : Nat → FieldType), zw_cl[ci]? = some (C, T, N) ∧ j < N ∧ (∀ w ∈ u_ws C T N, w ∈ zw_Tb) ∧ (∀ k, k < N → parseFieldDescriptor (T k).2.2.1 = some (ty0 k)) ∧ ty0 j = ty ∧ (∀ a, a < N → ∀ b, b < N → a ≠ b → (T a).2.1 ≠ (T b).2.1) ∧ (T j).2.2.2 = fin ∧
  ((Cond.fieldLink own index (T j).1 (T j).2.1 (T j).2.2.1 ∈ zw_Tb ∧ (fin = true → (T j).1 = own)) ∨ (fin = false ∧ ∃ host : String, Cond.fieldLinkNest own index (T j).1 (T j).2.1 (T j).2.2.1 host ∈ zw_Tb))
section ZW
variable {p : Program} {l : Launch} {e : Env} {R : Room} {s : State} {m : MethodId} {args : Array Value} {below : List Frame} {meth : Method} {c : Code} {H : Heap} {locs : List Loc} {cells slots : Nat} {Q : State → Prop}
variable {cc : ByteArray} {pc nL : Nat} {ls : Array Slot} {rest : List Value} {D : va_G} {cA : Nat → ClassId} {own : String} {ad : Nat → Nat} {sh sh' : zw_Sh} {A : Nat → Prop} {H0 : Heap} {mi mi' : zw_I} {ml ml' : zw_L} {z : Nat}
theorem zw_get (X : zw_C D cA own cc nL p m c s) (hB : zw_B D cA ad sh A H0 mi ml z H locs) {index ci j : Nat} (F : zw_FL own index ci j) (k : Nat) {fs : List (Nat × Nat)} (hk : sh k = some (.inl (ci, fs))) {q : Nat × Nat} (hj : fs[j]? = some q) {v : Value} (hv : zw_fv ad (mi k j) (ml k j) q = v) (hdg : decode cc pc = .ok (.getfield index, 3))
    (kk : W p l e R s m args below meth c H locs cells slots Q (F0 m (pc + 3) ls (v :: rest))) : W p l e R s m args below meth c H locs cells slots Q (F0 m pc ls (.ref (ad k) :: rest)) := by
  obtain ⟨hx, hb, -, hown, hE⟩ := X
  obtain ⟨C, T, N, hc, hjN, hlay, hlink⟩ := F
  have hP := hB.one hk
  have hv' : (zw_fs ad (mi k) (ml k) fs)[j]? = some v := by rw [zw_fs_get hj, hv]
  have hts : ∀ w ∈ zw_Tb, w.before args s = true := hE.ts
  rcases hlink with h | ⟨host, h⟩
  · exact va_get hx hb hts hlay hown hE.1 hP 0 rfl hc j hjN (hts _ h) (fun _ h9 => h9) hv' hdg kk
  · exact va_getN hx hb hts hlay hown hE.1 hP 0 rfl hc j hjN (hts _ h) (fun _ h9 => h9) hv' hdg kk
theorem zw_put (X : zw_C D cA own cc nL p m c s) (hB : zw_B D cA ad sh A H0 mi ml z H locs) {index ci j : Nat} {ty : FieldType} {fin : Bool} (F : zw_FP own index ci j ty fin) (hin : fin = true → meth.name = "<init>") (k : Nat) {fs : List (Nat × Nat)} (hk : sh k = some (.inl (ci, fs))) (hl : j < fs.length) {v : Value} (hn : narrow ty v = v) (hfit : fits ty v = true)
    {q' : Nat × Nat} (hv : zw_fv ad (mi' k j) (ml' k j) q' = v) (hm : ∀ a b, a ≠ k ∨ b ≠ j → mi' a b = mi a b) (hml : ∀ a b, a ≠ k ∨ b ≠ j → ml' a b = ml a b) (hs : sh' k = some (.inl (ci, fs.set j q'))) (hs' : ∀ i, i ≠ k → sh' i = sh i) (hdg : decode cc pc = .ok (.putfield index, 3))
    (kk : ∀ (H1 : Heap) (locs1 : List Loc), zw_B D cA ad sh' A H0 mi' ml' z H1 locs1 → W p l e R s m args below meth c H1 locs1 cells slots Q (F0 m (pc + 3) ls rest)) : W p l e R s m args below meth c H locs cells slots Q (F0 m pc ls (v :: .ref (ad k) :: rest)) := by
  obtain ⟨hx, hb, -, hown, hE⟩ := X
  obtain ⟨C, T, N, ty0, hc, hjN, hlay, hty, htj, hnm, hfin, hlink⟩ := F
  have hts : ∀ w ∈ zw_Tb, w.before args s = true := hE.ts
  have hap := va_apart (own := own) (D := D) (cl := zw_cl) (tys := zw_tys cA) (ci := ci) hts hlay ty0 hty hnm hE.1 hc
  have hd : parseFieldDescriptor (T j).2.2.1 = some ty := by rw [← htj]; exact hty j hjN
  obtain ⟨r, h1, cell, q1, q2, q3, q4⟩ := hB.at hk
  have hr : r = (C, T, N) := Option.some.inj (h1.symm.trans hc)
  subst hr
  obtain ⟨hS, hfc, kC, hkC, hkind⟩ := hE.1.1 ci _ hc
  obtain ⟨cf, kf, fi, f, hi, hsl⟩ := hS j hjN
  have hlj := hts _ (hlay _ (u_in_lay hjN))
  have hst := (u_facts hfc hkC (u_lays hts hlay hjN) hi).1
  have hlt : f.slot < cell.slots.size := by rw [hsl]; exact k2_hasslot (q4 j hjN)
  have fin' : ∀ H' : Heap, H'[ad k]? = some (cell.setSlot f.slot v) → H'.size = H.size → (∀ q, q ≠ ad k → H'[q]? = H[q]?) → zw_B D cA ad sh' A H0 mi' ml' z H' (locs ++ [⟨ad k, f.slot⟩]) := fun H' e1 e2 e3 => by
    rw [hsl] at e1 ⊢
    refine hB.step hk hs hs' (fun i hi => funext fun b => hm i b (Or.inl hi)) (fun i hi => funext fun b => hml i b (Or.inl hi)) ?_ e2 e3
    have e4 := zw_fs_set (ad := ad) (mi := mi k) (mi' := mi' k) (ml := ml k) (ml' := ml' k) hl hv (fun i hi => hm k i (Or.inr hi)) (fun i hi => hml k i (Or.inr hi))
    show va_at D zw_cl (ad k, .inr (ci, zw_fs ad (mi' k) (ml' k) (fs.set j q'))) H'
    rw [← e4]
    exact ⟨_, hc, t_OB.to (V := updV (vp_V (zw_fs ad (mi k) (ml k) fs)) j v) ⟨_, e1, q2, q3, t_set q4 hap hjN v⟩ (fun i _ => vp_updV_set (by rw [zw_fs_len]; exact hl) v i)⟩
  rcases hlink with ⟨h, hdecl⟩ | ⟨h0, host, h⟩
  · cases fin with
    | false =>
      unfold u_lay at hlj
      rw [if_neg (by rw [hfin]; decide)] at hlj
      have h6 := u_store hfc hkC hkind hlj hi hd hn hfit
      exact W.putK hx hb (f := f) ⟨hown, hts _ h, ⟨_, _, _, hi⟩, hst⟩ (by rw [q2]; exact h6) q1 q3 hlt rfl rfl hdg fun H' e1 e2 e3 => kk H' _ (fin' H' e1 e2 e3)
    | true =>
      unfold u_lay at hlj
      rw [if_pos hfin] at hlj
      have hcf : m.cls = cf := by
        obtain ⟨_, _, c', _, _, _, -, -, hf', -, -, -, hown2, -⟩ := Cond.laysFinal_spec hlj
        have e1 : c' = cf := by have := hi.symm.trans hf'; simp at this; exact this.1.symm
        rw [hdecl rfl] at hown2
        rw [← e1]; exact Option.some.inj (hown.symm.trans hown2)
      have h6 := u_fits hfc hkC hkind (Or.inr hlj) hi hd hn hfit
      exact W.putFinK hx hb hown (hts _ h) hi hst hcf (hin rfl) (by rw [q2]; exact h6) q1 q3 hlt rfl rfl hdg fun H' e1 e2 e3 => kk H' _ (fin' H' e1 e2 e3)
  · subst h0
    unfold u_lay at hlj
    rw [if_neg (by rw [hfin]; decide)] at hlj
    have h6 := u_store hfc hkC hkind hlj hi hd hn hfit
    exact va_WputK hx hb (f := f) hown (hts _ h) hi hst (by rw [q2]; exact h6) q1 q3 hlt rfl rfl hdg fun H' e1 e2 e3 => kk H' _ (fin' H' e1 e2 e3)
/-- an int field is written -/
theorem zw_putI (X : zw_C D cA own cc nL p m c s) (hB : zw_B D cA ad sh A H0 mi ml z H locs) {index ci j : Nat} {fin : Bool} (F : zw_FP own index ci j .int fin) (hin : fin = true → meth.name = "<init>") (k : Nat) {fs : List (Nat × Nat)} (hk : sh k = some (.inl (ci, fs))) {r : Nat} (hj : fs[j]? = some (0, r)) {x : Int32} (hdg : decode cc pc = .ok (.putfield index, 3))
    (kk : ∀ (H1 : Heap) (locs1 : List Loc), zw_B D cA ad sh A H0 (zw_up mi k j x) ml z H1 locs1 → W p l e R s m args below meth c H1 locs1 cells slots Q (F0 m (pc + 3) ls rest)) : W p l e R s m args below meth c H locs cells slots Q (F0 m pc ls (.int x :: .ref (ad k) :: rest)) := by
  have hl : j < fs.length := (List.getElem?_eq_some_iff.mp hj).1
  have he : fs.set j (0, r) = fs := by
    apply List.ext_getElem?
    intro i
    by_cases h : i = j
    · subst h
      rw [List.getElem?_set_self hl, hj]
    · rw [List.getElem?_set_ne (Ne.symm h)]
  exact zw_put X hB F hin k hk hl rfl rfl (q' := (0, r)) (by show Value.int (zw_up mi k j x k j) = _; rw [zw_up_self]) (fun a b h => zw_up_off mi x h) (fun _ _ _ => rfl) (by rw [he]; exact hk) (fun _ _ => rfl) hdg kk
theorem zw_iald (X : zw_C D cA own cc nL p m c s) (hB : zw_B D cA ad sh A H0 mi ml z H locs) (k : Nat) {n b : Nat} (hk : sh k = some (.inr (0, n, b))) {x : Int32} (hin : vp_in x n) (hdg : decode cc pc = .ok (.iaload, 1))
    (kk : W p l e R s m args below meth c H locs cells slots Q (F0 m (pc + 1) ls (.int (mi k x.toNatClampNeg) :: rest))) : W p l e R s m args below meth c H locs cells slots Q (F0 m pc ls (.int x :: .ref (ad k) :: rest)) :=
  va_iald X.1 X.2.1 X.2.2.2.2.1 (hB.one hk) 0 0 rfl rfl hin hdg kk
theorem zw_zald (X : zw_C D cA own cc nL p m c s) (hB : zw_B D cA ad sh A H0 mi ml z H locs) (k : Nat) {n b : Nat} (hk : sh k = some (.inr (2, n, b))) {x : Int32} (hin : vp_in x n) (hdg : decode cc pc = .ok (.baload, 1))
    (kk : W p l e R s m args below meth c H locs cells slots Q (F0 m (pc + 1) ls (.int (mi k x.toNatClampNeg) :: rest))) : W p l e R s m args below meth c H locs cells slots Q (F0 m pc ls (.int x :: .ref (ad k) :: rest)) :=
  va_zald X.1 X.2.1 X.2.2.2.2.1 (hB.one hk) 0 2 rfl rfl hin hdg kk
theorem zw_lald (X : zw_C D cA own cc nL p m c s) (hB : zw_B D cA ad sh A H0 mi ml z H locs) (k : Nat) {n b : Nat} (hk : sh k = some (.inr (1, n, b))) {x : Int32} (hin : vp_in x n) (hdg : decode cc pc = .ok (.laload, 1))
    (kk : W p l e R s m args below meth c H locs cells slots Q (F0 m (pc + 1) ls (.long (ml k x.toNatClampNeg) :: rest))) : W p l e R s m args below meth c H locs cells slots Q (F0 m pc ls (.int x :: .ref (ad k) :: rest)) :=
  va_lald X.1 X.2.1 X.2.2.2.2.1 (hB.one hk) 0 1 rfl rfl hin hdg kk
/-- a row of a grid: kind 3 (ints) or 4 (longs) -/
theorem zw_aald (X : zw_C D cA own cc nL p m c s) (hB : zw_B D cA ad sh A H0 mi ml z H locs) (k : Nat) {ty n b : Nat} (hty : ty = 3 ∨ ty = 4) (hk : sh k = some (.inr (ty, n, b))) {x : Int32} (hin : vp_in x n) (hdg : decode cc pc = .ok (.aaload, 1))
    (kk : W p l e R s m args below meth c H locs cells slots Q (F0 m (pc + 1) ls (.ref (ad (b + x.toNatClampNeg)) :: rest))) : W p l e R s m args below meth c H locs cells slots Q (F0 m pc ls (.int x :: .ref (ad k) :: rest)) := by
  have hlt : x.toNatClampNeg < n := Nat.not_le.mp fun q => hin (Or.inr q)
  have hc := hB.at hk
  obtain ⟨hx, hb, -, -, hE⟩ := X
  rcases hty with rfl | rfl
  · have hc' : H[ad k]? = some (arrV (cA 3) n (fun j => va_rf (some (ad (b + j))))) := hc
    exact W.aald (v := .ref (ad (b + x.toNatClampNeg))) hx hb hc' ((hE.1.2 3 (cA 3, .array .int) rfl).1 n _) rfl (fun q => by cases q) (by rw [arrV_size]; exact hin) (by rw [arrV_read _ _ hlt]; rfl) rfl rfl hdg kk
  · have hc' : H[ad k]? = some (arrV (cA 4) n (fun j => va_rf (some (ad (b + j))))) := hc
    exact W.aald (v := .ref (ad (b + x.toNatClampNeg))) hx hb hc' ((hE.1.2 4 (cA 4, .array .long) rfl).1 n _) rfl (fun q => by cases q) (by rw [arrV_size]; exact hin) (by rw [arrV_read _ _ hlt]; rfl) rfl rfl hdg kk
theorem zw_alen (X : zw_C D cA own cc nL p m c s) (hB : zw_B D cA ad sh A H0 mi ml z H locs) (k : Nat) {ty n b : Nat} (hty : ty < 5) (hk : sh k = some (.inr (ty, n, b))) (hdg : decode cc pc = .ok (.arraylength, 1))
    (kk : W p l e R s m args below meth c H locs cells slots Q (F0 m (pc + 1) ls (.int (nI n) :: rest))) : W p l e R s m args below meth c H locs cells slots Q (F0 m pc ls (.ref (ad k) :: rest)) := by
  have h : ∃ t : FieldType, (zw_tys cA)[ty]? = some (cA ty, t) := by
    match ty, hty with
    | 0, _ => exact ⟨_, rfl⟩
    | 1, _ => exact ⟨_, rfl⟩
    | 2, _ => exact ⟨_, rfl⟩
    | 3, _ => exact ⟨_, rfl⟩
    | 4, _ => exact ⟨_, rfl⟩
    | n + 5, h => omega
  obtain ⟨t, ht⟩ := h
  exact va_alen (v := nI n) X.1 X.2.1 X.2.2.2.2.1 (hB.one hk) 0 ty rfl ht rfl hdg kk
theorem zw_iast (X : zw_C D cA own cc nL p m c s) (hB : zw_B D cA ad sh A H0 mi ml z H locs) (k : Nat) {n b : Nat} (hk : sh k = some (.inr (0, n, b))) {x y : Int32} (hin : vp_in x n) (hdg : decode cc pc = .ok (.iastore, 1))
    (kk : ∀ (H1 : Heap) (locs1 : List Loc), zw_B D cA ad sh A H0 (zw_up mi k x.toNatClampNeg y) ml z H1 locs1 → W p l e R s m args below meth c H1 locs1 cells slots Q (F0 m (pc + 1) ls rest)) : W p l e R s m args below meth c H locs cells slots Q (F0 m pc ls (.int y :: .int x :: .ref (ad k) :: rest)) := by
  have hc : H[ad k]? = some (arrV (cA 0) n (fun j => .int (mi k j))) := hB.at hk
  obtain ⟨hx, hb, -, -, hE⟩ := X
  refine W.iast hx hb hc ((hE.1.2 0 (cA 0, .int) rfl).1 n _) (fun q => by cases q) (by rw [arrV_size]; exact hin) rfl rfl hdg fun H1 e1 e2 e3 => kk H1 _ ?_
  refine hB.step hk hk (fun _ _ => rfl) (fun i hi => zw_up_row mi y hi) (fun _ _ => rfl) ?_ e2 e3
  show H1[ad k]? = some (arrV (cA 0) n (fun j => .int (zw_up mi k x.toNatClampNeg y k j)))
  rw [e1, arrV_store]
  refine congrArg (fun f => some (arrV (cA 0) n f)) (funext fun j => ?_)
  simp only [updV, zw_up, true_and]
  split <;> rfl
theorem zw_last (X : zw_C D cA own cc nL p m c s) (hB : zw_B D cA ad sh A H0 mi ml z H locs) (k : Nat) {n b : Nat} (hk : sh k = some (.inr (1, n, b))) {x : Int32} {y : Int64} (hin : vp_in x n) (hdg : decode cc pc = .ok (.lastore, 1))
    (kk : ∀ (H1 : Heap) (locs1 : List Loc), zw_B D cA ad sh A H0 mi (zw_up ml k x.toNatClampNeg y) z H1 locs1 → W p l e R s m args below meth c H1 locs1 cells slots Q (F0 m (pc + 1) ls rest)) : W p l e R s m args below meth c H locs cells slots Q (F0 m pc ls (.long y :: .int x :: .ref (ad k) :: rest)) := by
  have hc : H[ad k]? = some (arrV (cA 1) n (fun j => .long (ml k j))) := hB.at hk
  obtain ⟨hx, hb, -, -, hE⟩ := X
  refine W.last hx hb hc ((hE.1.2 1 (cA 1, .long) rfl).1 n _) (fun q => by cases q) (by rw [arrV_size]; exact hin) rfl rfl hdg fun H1 e1 e2 e3 => kk H1 _ ?_
  refine hB.step hk hk (fun _ _ => rfl) (fun _ _ => rfl) (fun i hi => zw_up_row ml y hi) ?_ e2 e3
  show H1[ad k]? = some (arrV (cA 1) n (fun j => .long (zw_up ml k x.toNatClampNeg y k j)))
  rw [e1, arrV_store]
  refine congrArg (fun f => some (arrV (cA 1) n f)) (funext fun j => ?_)
  simp only [updV, zw_up, true_and]
  split <;> rfl
theorem zw_getI (X : zw_C D cA own cc nL p m c s) (hB : zw_B D cA ad sh A H0 mi ml z H locs) {index ci j : Nat} (F : zw_FL own index ci j) (k : Nat) {fs : List (Nat × Nat)} (hk : sh k = some (.inl (ci, fs))) {r : Nat} (hj : fs[j]? = some (0, r)) (hdg : decode cc pc = .ok (.getfield index, 3))
    (kk : W p l e R s m args below meth c H locs cells slots Q (F0 m (pc + 3) ls (.int (mi k j) :: rest))) : W p l e R s m args below meth c H locs cells slots Q (F0 m pc ls (.ref (ad k) :: rest)) := zw_get X hB F k hk hj rfl hdg kk
theorem zw_getL (X : zw_C D cA own cc nL p m c s) (hB : zw_B D cA ad sh A H0 mi ml z H locs) {index ci j : Nat} (F : zw_FL own index ci j) (k : Nat) {fs : List (Nat × Nat)} (hk : sh k = some (.inl (ci, fs))) {r : Nat} (hj : fs[j]? = some (1, r)) (hdg : decode cc pc = .ok (.getfield index, 3))
    (kk : W p l e R s m args below meth c H locs cells slots Q (F0 m (pc + 3) ls (.long (ml k j) :: rest))) : W p l e R s m args below meth c H locs cells slots Q (F0 m pc ls (.ref (ad k) :: rest)) := zw_get X hB F k hk hj rfl hdg kk
theorem zw_getR (X : zw_C D cA own cc nL p m c s) (hB : zw_B D cA ad sh A H0 mi ml z H locs) {index ci j : Nat} (F : zw_FL own index ci j) (k : Nat) {fs : List (Nat × Nat)} (hk : sh k = some (.inl (ci, fs))) {r : Nat} (hj : fs[j]? = some (2, r)) (hdg : decode cc pc = .ok (.getfield index, 3))
    (kk : W p l e R s m args below meth c H locs cells slots Q (F0 m (pc + 3) ls (.ref (ad r) :: rest))) : W p l e R s m args below meth c H locs cells slots Q (F0 m pc ls (.ref (ad k) :: rest)) := zw_get X hB F k hk hj rfl hdg kk
theorem zw_zast (X : zw_C D cA own cc nL p m c s) (hB : zw_B D cA ad sh A H0 mi ml z H locs) (k : Nat) {n b : Nat} (hk : sh k = some (.inr (2, n, b))) {x y : Int32} (hy : narrow .boolean (.int y) = .int y) (hin : vp_in x n) (hdg : decode cc pc = .ok (.bastore, 1))
    (kk : ∀ (H1 : Heap) (locs1 : List Loc), zw_B D cA ad sh A H0 (zw_up mi k x.toNatClampNeg y) ml z H1 locs1 → W p l e R s m args below meth c H1 locs1 cells slots Q (F0 m (pc + 1) ls rest)) : W p l e R s m args below meth c H locs cells slots Q (F0 m pc ls (.int y :: .int x :: .ref (ad k) :: rest)) := by
  have hc : H[ad k]? = some (arrV (cA 2) n (fun j => .int (mi k j))) := hB.at hk
  obtain ⟨hx, hb, -, -, hE⟩ := X
  refine W.zast hx hb hc ((hE.1.2 2 (cA 2, .boolean) rfl).1 n _) (fun q => by cases q) (by rw [arrV_size]; exact hin) rfl rfl hdg fun H1 e1 e2 e3 => kk H1 _ ?_
  refine hB.step hk hk (fun _ _ => rfl) (fun i hi => zw_up_row mi y hi) (fun _ _ => rfl) ?_ e2 e3
  show H1[ad k]? = some (arrV (cA 2) n (fun j => .int (zw_up mi k x.toNatClampNeg y k j)))
  rw [e1, hy, arrV_store]
  refine congrArg (fun f => some (arrV (cA 2) n f)) (funext fun j => ?_)
  simp only [updV, zw_up, true_and]
  split <;> rfl
end ZW
