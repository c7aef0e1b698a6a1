/-! THE START: what the tables say, out of the words; the walk up to the loop -/
theorem zs_word {args : Array Value} {s : State} {w : Cond} (hok : zw_ok w = true) (h : w.before args s = true) : va_Nw w s := by
  unfold zw_ok at hok
  rw [Bool.or_eq_true] at hok
  rcases hok with hg | hn
  · exact word_at (U := s) (State.WarmedH.refl s) (good_of_word hg) h
  · unfold zw_nest at hn
    split at hn
    · exact va_Nw.of rfl h
    · exact va_Nw.of rfl h
    · exact h
    · exact va_Nw.of rfl h
    · cases hn
theorem zs_E {args : Array Value} {s : State} (hts : ∀ w ∈ lw_tbl, w.before args s = true) : ∃ (D : va_G) (cA : Nat → ClassId), zw_E D cA s := by
  have hz : ∀ w ∈ zw_Tb, w.before args s = true := fun w hw => hts w (List.mem_filter.mp hw).1
  obtain ⟨c0, i0, k0⟩ := u_known (C := R_Course) (T := T_Course) (N := 15) (n := 15) hts ly0_Course (hts _ (by decide +kernel))
  obtain ⟨c1, i1, k1⟩ := u_known (C := R_Crew) (T := T_Crew) (N := 3) (n := 3) hts ly0_Crew (hts _ (by decide +kernel))
  obtain ⟨c2, i2, k2⟩ := u_known (C := R_Failings) (T := T_Failings) (N := 6) (n := 6) hts ly0_Failings (hts _ (by decide +kernel))
  obtain ⟨c3, i3, k3⟩ := u_known (C := R_Line) (T := T_Line) (N := 3) (n := 3) hts ly0_Line (hts _ (by decide +kernel))
  obtain ⟨c4, i4, k4⟩ := u_known (C := R_Needs) (T := T_Needs) (N := 4) (n := 4) hts ly0_Needs (hts _ (by decide +kernel))
  obtain ⟨c5, i5, k5⟩ := u_known (C := R_Plan) (T := T_Plan) (N := 8) (n := 8) hts ly0_Plan (hts _ (by decide +kernel))
  obtain ⟨c6, i6, k6⟩ := u_known (C := R_TS) (T := T_TS) (N := 4) (n := 4) hts ly0_TS (hts _ (by decide +kernel))
  obtain ⟨c7, i7, k7⟩ := u_known (C := R_Model) (T := T_Model) (N := 36) (n := 36) hts ly0_Model (hts _ (by decide +kernel))
  obtain ⟨a0, q0, p0, f0, g0, t0⟩ := Cond.arrayClass_spec (hz _ kw_int)
  obtain ⟨a1, q1, p1, f1, g1, t1⟩ := Cond.arrayClass_spec (hz _ kw_long)
  obtain ⟨a2, q2, p2, f2, g2, t2⟩ := Cond.arrayClass_spec (hz _ kw_boolean)
  obtain ⟨p3, a3, q3, -, g3, t3, f3⟩ := Cond.arrayOver_specA (hz _ kv_int)
  obtain ⟨p4, a4, q4, -, g4, t4, f4⟩ := Cond.arrayOver_specA (hz _ kv_long)
  refine ⟨(fun c => match c with | 0 => c0 | 1 => c1 | 2 => c2 | 3 => c3 | 4 => c4 | 5 => c5 | 6 => c6 | _ => c7, fun c => match c with | 0 => i0 | 1 => i1 | 2 => i2 | 3 => i3 | 4 => i4 | 5 => i5 | 6 => i6 | _ => i7), fun k => match k with | 0 => a0 | 1 => a1 | 2 => a2 | 3 => a3 | _ => a4, ⟨fun c q h => ?_, fun k q h => ?_⟩, fun w hw => zs_word (zw_Tb_ok w hw) (hz w hw)⟩
  · match c, h with
    | 0, h => cases h; exact k0
    | 1, h => cases h; exact k1
    | 2, h => cases h; exact k2
    | 3, h => cases h; exact k3
    | 4, h => cases h; exact k4
    | 5, h => cases h; exact k5
    | 6, h => cases h; exact k6
    | 7, h => cases h; exact k7
    | n + 8, h => cases h
  · match k, h with
    | 0, h => cases h; exact ⟨fun N z => ⟨(fun k h => by cases h), q0, g0, p0, t0⟩, f0⟩
    | 1, h => cases h; exact ⟨fun N z => ⟨(fun k h => by cases h), q1, g1, p1, t1⟩, f1⟩
    | 2, h => cases h; exact ⟨fun N z => ⟨(fun k h => by cases h), q2, g2, p2, t2⟩, f2⟩
    | 3, h => cases h; exact ⟨fun N z => ⟨(fun k h => by cases h), q3, g3, p3, t3⟩, f3⟩
    | 4, h => cases h; exact ⟨fun N z => ⟨(fun k h => by cases h), q4, g4, p4, t4⟩, f4⟩
    | n + 5, h => cases h
theorem zs_X {b : Nat} {s : State} {D : va_G} {cA : Nat → ClassId} (hE : zw_E D cA s) (hts : ∀ w ∈ lw_tbl, w.before #[Value.ref b] s = true) (hgv : (Jvm.Cond.and given_1 narrow_1).before #[Value.ref b] s = true) : zt_X s := by
  have hcur : s.vm.findClass R_TS = some (D.1 6) := (hE.1.1 6 _ rfl).2.1
  have hs := flat_of_before _ hgv
  refine ⟨fun q hq => ?_, fun q hq => ?_, fun x hx => va_any rfl (hts _ ((by decide +kernel : ∀ x ∈ zt_decl, Cond.declares x ∈ lw_tbl) x hx))⟩
  · have h := hts _ ((by decide +kernel : ∀ q ∈ zt_strs, Cond.stringRef R_TS q.1 q.2 ∈ lw_tbl) q hq)
    obtain ⟨k, cf, i, a, -, -, -, -, -, he⟩ := Cond.stringRef_spec hcur h
    exact ⟨a, vk_R.of h he⟩
  · simp only [zt_nos, List.mem_cons, List.not_mem_nil, or_false] at hq
    rcases hq with rfl | rfl | rfl | rfl
    · exact va_Nc.of (hs (Cond.not (.castable zt_A zt_I)) (by decide +kernel))
    · exact va_Nc.of (hs (Cond.not (.castable zt_U zt_I)) (by decide +kernel))
    · exact va_Nc.of (hs (Cond.not (.castable zt_U zt_A)) (by decide +kernel))
    · exact va_Nc.of (hs (Cond.not (.castable zt_S zt_I)) (by decide +kernel))
theorem zs_Z {b : Nat} {s : State} (hts : ∀ w ∈ lw_tbl, w.before #[Value.ref b] s = true) (hgv : (Jvm.Cond.and given_1 narrow_1).before #[Value.ref b] s = true) : zt_Z s.heap.size s s.heap := by
  have hs := flat_of_before _ hgv
  have hini := hts (.initialized Bundle.tN) (by decide +kernel)
  have l1 := hts (.laysStatic Bundle.tN "UNASSIGNED_STACK" Bundle.steD) (by decide +kernel)
  have l2 := hts (.laysStatic Bundle.tN "SUPPRESSED_SENTINEL" Bundle.listD) (by decide +kernel)
  exact ⟨va_Zqof l1 hini (hs (.isRef (.static Bundle.tN "UNASSIGNED_STACK" Bundle.steD)) (by decide +kernel)) (fun a ha => Nat.not_le.mpr ha), va_Zqof l2 hini (hs (.isRef (.static Bundle.tN "SUPPRESSED_SENTINEL" Bundle.listD)) (by decide +kernel)) (fun a ha => Nat.not_le.mpr ha), zt_L.of l1, zt_L.of l2⟩
theorem zs_tr {l : Launch} (h : l.flags = flags0) : l.stackTraces = false := by
  unfold Launch.stackTraces
  rw [h]
  decide +kernel
theorem p_near_n (x : Int32) (h : Nat) (hh : h ≤ 1000) (h1 : 1 ≤ h) : ∃ n : Nat, 1 ≤ n ∧ n ≤ h ∧ p_nearest x 1 (nI h) = nI n := by
  unfold p_nearest
  rcases pk_ix x (n := h + 1) (by omega) with c | c | ⟨j, hj, rfl⟩
  · refine ⟨1, Nat.le_refl _, h1, ?_⟩
    have e1 : x < nI h := by
      rw [Int32.lt_iff_toInt_lt] at c ⊢
      rw [nI_toInt (by omega)]
      have : (0 : Int32).toInt = 0 := rfl
      omega
    rw [if_pos e1, if_neg ?_]
    · rfl
    · intro h9
      rw [Int32.lt_iff_toInt_lt] at c h9
      have e2 : (0 : Int32).toInt = 0 := rfl
      have e3 : (1 : Int32).toInt = 1 := rfl
      omega
  · refine ⟨h, h1, Nat.le_refl _, ?_⟩
    have e1 : ¬ x < nI h := by
      rw [Int32.le_iff_toInt_le, nI_toInt (by omega)] at c
      rw [Int32.lt_iff_toInt_lt, nI_toInt (by omega)]
      omega
    rw [if_neg e1]
    by_cases c1 : (1 : Int32) < nI h
    · rw [if_pos c1]
    · rw [if_neg c1]
      have h9 : ¬ 1 < h := fun q => c1 (nI_lt (a := 1) q (by omega))
      rw [show h = 1 by omega]
      rfl
  · by_cases c1 : j < h
    · rw [if_pos (nI_lt c1 (by omega))]
      by_cases c2 : 1 < j
      · rw [if_pos (show (1 : Int32) < nI j from nI_lt (a := 1) c2 (by omega))]
        exact ⟨j, by omega, by omega, rfl⟩
      · rw [if_neg (show ¬ (1 : Int32) < nI j from nI_nlt (a := 1) (by omega) (by omega))]
        exact ⟨1, by omega, by omega, rfl⟩
    · rw [if_neg (nI_nlt (by omega) (by omega))]
      by_cases c2 : 1 < h
      · rw [if_pos (show (1 : Int32) < nI h from nI_lt (a := 1) c2 (by omega))]
        exact ⟨h, by omega, by omega, rfl⟩
      · rw [if_neg (show ¬ (1 : Int32) < nI h from nI_nlt (a := 1) (by omega) (by omega))]
        exact ⟨1, by omega, by omega, rfl⟩
theorem q_near_eq (x : Int32) (h : Nat) (hh : h ≤ 1000) (h1 : 1 ≤ h) : q_near x (nI h) = p_nearest x 1 (nI h) := by
  unfold q_near p_nearest
  have e1 : (1 : Int32).toInt = 1 := rfl
  have eh : (nI h).toInt = (h : Int) := nI_toInt (by omega)
  by_cases c1 : x < nI h
  · rw [if_pos c1]
    have c1' := Int32.lt_iff_toInt_lt.mp c1
    by_cases c2 : (1 : Int32) < x
    · have c2' := Int32.lt_iff_toInt_lt.mp c2
      rw [if_pos c2, if_pos (Int32.le_iff_toInt_le.mpr (by omega)), if_pos (Int32.le_iff_toInt_le.mpr (by omega))]
    · rw [if_neg c2]
      by_cases c3 : (1 : Int32) ≤ x
      · have c3' := Int32.le_iff_toInt_le.mp c3
        have c2' : ¬ (1 : Int32).toInt < x.toInt := fun q => c2 (Int32.lt_iff_toInt_lt.mpr q)
        rw [if_pos c3, if_pos (Int32.le_iff_toInt_le.mpr (by omega))]
        exact Int32.toInt_inj.mp (by omega)
      · rw [if_neg c3]
  · rw [if_neg c1]
    have c1' : ¬ x.toInt < (nI h).toInt := fun q => c1 (Int32.lt_iff_toInt_lt.mpr q)
    rw [if_pos (show (1 : Int32) ≤ x from Int32.le_iff_toInt_le.mpr (by omega))]
    have e3 : (if x ≤ nI h then x else nI h) = nI h := by
      by_cases c3 : x ≤ nI h
      · have c3' := Int32.le_iff_toInt_le.mp c3
        rw [if_pos c3]
        exact Int32.toInt_inj.mp (by omega)
      · rw [if_neg c3]
    rw [e3]
    by_cases c2 : (1 : Int32) < nI h
    · rw [if_pos c2]
    · rw [if_neg c2]
      have c2' : ¬ (1 : Int32).toInt < (nI h).toInt := fun q => c2 (Int32.lt_iff_toInt_lt.mpr q)
      exact Int32.toInt_inj.mp (by omega)
theorem q_clr1_off2 {a b : Nat} (h : a ≠ 35) : ∀ (f : Nat) (k : Int32) (mi : zw_I) (ml : zw_L), (q_clr1 f k mi ml).2 a b = ml a b
  | 0, _, _, _ => rfl
  | f + 1, k, mi, ml => by
    rw [q_clr1]
    split
    · rfl
    · rw [q_clr1_off2 h f, zw_up_ne1 _ _ _ h]
section ZK
variable {p : Program} {l : Launch} {e : Env} {R : Room} {s : State} {m : MethodId} {args : Array Value} {below : List Frame} {meth : Method} {c : Code} {H : Heap} {locs : List Loc} {cells slots : Nat} {Q : State → Prop}
variable {cc : ByteArray} {pc nL : Nat} {ls : Array Slot} {rest : List Value} {D : va_G} {cA : Nat → ClassId} {own : String} {ad : Nat → Nat} {sh : zw_Sh} {A : Nat → Prop} {mi : zw_I} {ml : zw_L} {z b L : Nat} {xs : Nat → Int32}
theorem zk_call (X : zw_C D cA own cc nL p m c s) (hX : va_X b L xs s s.heap) (hbl : b < s.heap.size) (hbA : ¬ A b) (hB : zw_B D cA ad sh A s.heap mi ml z H locs) {index n : Nat} (ML : zw_MS own index Y_Law_cell n) (hpl : Cond.methodLink own index Y_Law_cell.1 ∈ zw_Tb) {x : Int32}
    (hin : ¬ nI L ≤ x → vp_in x L) (hn : 2 = n) (hsz : ls.size = nL) (hR : 0 + 1 ≤ R.frames ∧ 8 + (2 + 11) + 40 * 0 ≤ R.locals) (hW : (rest.map fun v => v.category).sum ≤ 8) (hf : cells + 0 ≤ R.cells ∧ slots + 0 ≤ R.slots) (hdg : decode cc pc = .ok (.invokestatic index, 3))
    (kk : ∀ (H1 : Heap) (locs1 : List Loc), zw_B D cA ad sh A s.heap mi ml z H1 locs1 → W p l e R s m args below meth c H1 locs1 (cells + 0) (slots + 0) Q (F0 m (pc + 3) ls (.int (zk_r L xs x) :: rest))) : W p l e R s m args below meth c H locs cells slots Q (F0 m pc ls (.int x :: .ref b :: rest)) := by
  obtain ⟨-, hstt, hcode, hini, hy, hpar⟩ := ML
  have hts : ∀ w ∈ zw_Tb, w.before args s = true := X.2.2.2.2.ts
  have hws : ∀ w ∈ [Cond.code Y_Law_cell.1 Y_Law_cell.2.1 Y_Law_cell.2.2.1 Y_Law_cell.2.2.2], ∀ (a' : Array Value) (U : State), s.WarmedH U.vm → w.before a' U = true := fun w hw a' U hW => (X.2.2.2.2.warm hW).ts w (by rw [List.mem_singleton.mp hw]; exact hcode)
  have hq : H[b]? = s.heap[b]? := hB.2.2.2.1.2.1 b hbl hbA
  have hbz : ¬ zw_A ad sh z b := fun h => by
    rcases h with ⟨k, p, hk, rfl⟩ | h
    · exact hbA (hB.2.2.1 k p hk)
    · have := hB.2.2.2.1.1
      rw [hB.2.2.2.2.1] at this
      omega
  have hp : PreS s H (zk_P D cA ad sh mi ml z b L xs [.ref b, .int x]) [.ref b, .int x] := ⟨zk_blind, fun U hU hW => ⟨⟨rfl, X.2.2.2.2.warm hW, by rw [hU]; exact hB.1, hB.2.1, by rw [hU]; exact hB.2.2.2.2.1⟩, by rw [hU]; exact va_X.moved hW.alike (hX.kept hq)⟩⟩
  have hM := c_Law_cell (l := l) (D := D) (cA := cA) (ad := ad) (sh := sh) (b := b) (L := L) (xs := xs) z hbz mi ml x hin
  exact zw_after (va_runS ⟨X.1, X.2.1, X.2.2.1, X.2.2.2.1, hts⟩ hM ⟨⟨rfl, rfl, hR.1, hR.2, hws, List.mem_singleton.mpr rfl, hts _ hcode, hts _ hini, hy, zw_len hpar, hts _ hpl⟩, hts _ hstt⟩ hp rfl hn hsz rfl (lv_room hW) hdg hf) hB kk
end ZK
