/-! CONSTRUCTORS: kinds change as cells are made and filled -/
def zs_up (sh : zw_Sh) (k : Nat) (q : zw_Sp) : zw_Sh := fun i => if i = k then some q else sh i
def zs_upg (sh : zw_Sh) (b N : Nat) (q : zw_Sp) : zw_Sh := fun i => if b ≤ i ∧ i < b + N then some q else sh i
theorem zs_self {sh : zw_Sh} {k : Nat} {q : zw_Sp} : zs_up sh k q k = some q := if_pos rfl
theorem zs_ne {sh : zw_Sh} {k i : Nat} {q : zw_Sp} (h : i ≠ k) : zs_up sh k q i = sh i := if_neg h
theorem zs_gself {sh : zw_Sh} {b N i : Nat} {q : zw_Sp} (h : i < N) : zs_upg sh b N q (b + i) = some q := if_pos ⟨Nat.le_add_right b i, Nat.add_lt_add_left h b⟩
theorem zs_gne {sh : zw_Sh} {b N i : Nat} {q : zw_Sp} (h : i < b ∨ b + N ≤ i) : zs_upg sh b N q i = sh i := if_neg (by omega)
theorem zs_gcase {sh : zw_Sh} {k b N : Nat} {q r : zw_Sp} (i : Nat) (p : zw_Sp) (h : zs_upg (zs_up sh k q) b N r i = some p) : i = k ∨ (∃ j, j < N ∧ i = b + j) ∨ sh i = some p := by
  unfold zs_upg at h
  split at h
  · rename_i c
    exact Or.inr (Or.inl ⟨i - b, by omega, by omega⟩)
  · by_cases e : i = k
    · exact Or.inl e
    · rw [zs_ne e] at h
      exact Or.inr (Or.inr h)
theorem zw_B.to {D : va_G} {cA : Nat → ClassId} {ad : Nat → Nat} {sh : zw_Sh} {A : Nat → Prop} {H0 : Heap} {mi : zw_I} {ml : zw_L} {z z' : Nat} {H : Heap} {locs : List Loc} (h : zw_B D cA ad sh A H0 mi ml z H locs) (e : z = z') : zw_B D cA ad sh A H0 mi ml z' H locs := e ▸ h
theorem nI_nneg {n : Nat} (h : n ≤ 1000) : ¬ nI n < 0 := by
  intro c
  rw [show (0 : Int32) = nI 0 from rfl, Int32.lt_iff_toInt_lt, nI_toInt (by omega), nI_toInt (by omega)] at c
  omega
section ZN
variable {p : Program} {l : Launch} {e : Env} {R : Room} {s : State} {m : MethodId} {args : Array Value} {below : List Frame} {meth : Method} {c : Code} {H : Heap} {locs : List Loc} {cells slots : Nat} {Q : State → Prop}
variable {cc : ByteArray} {pc nL : Nat} {ls : Array Slot} {D : va_G} {cA : Nat → ClassId} {own : String} {ad : Nat → Nat} {sh sh' : zw_Sh} {mi1 mi' : zw_I} {ml1 ml' : zw_L} {z z1 mc ms : Nat} {rv : Option Value}
theorem zc_vretW (X : zw_C D cA own cc nL p m c s) (hr : meth.sig.returnType = none) (hlocks : meth.locks = false) (hB : zw_B D cA ad sh' (zw_A ad sh z) s.heap mi' ml' z1 H locs) (hv : none = rv) (hm : mi' = mi1) (hl : ml' = ml1) (hc : cells ≤ mc) (hs : slots ≤ ms) (hdg : decode cc pc = .ok (.return_, 1)) :
    W p l e R s m args below meth c H locs cells slots (MQ below (zc_Q D cA ad sh sh' z rv mi1 ml1 z1) args s mc ms (zw_A ad sh z)) (F0 m pc ls []) := by
  intro T hT Xs
  obtain ⟨t, a1, o, b1, b2, b3, L, b4, b5⟩ := zc_vret (e := e) (R := R) (args := args) (below := below) (cells := cells) (slots := slots) (ls := ls) X hr hlocks hB hv hm hl hdg T hT Xs
  exact ⟨t, a1, o, b1, b2, b3, L, ⟨b4.1, b4.2.1, b4.2.2.mono hc hs⟩, b5⟩
/-- more is counted than was made -/
theorem zw_wide {g : JFrame} {k n : Nat} (h1 : cells ≤ k) (h2 : slots ≤ n) (kk : W p l e R s m args below meth c H locs k n Q g) : W p l e R s m args below meth c H locs cells slots Q g := fun T hT X =>
  kk T hT ⟨X.admits, X.cas, X.clock, X.frames, X.room, X.hears, X.method, X.code, X.here, X.tail, X.warmed, X.limits, X.bytes, X.same.mono h1 h2⟩
end ZN
