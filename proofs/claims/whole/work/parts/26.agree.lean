def R_law : String := "TileSharesLaw"
def lw_P (b : Addr) (xs : List Int32) (args : Array Value) (s : State) : Prop := args = #[.ref b] ∧ s.IntsAt b xs ∧ xs.length ≤ 3074 ∧ (Jvm.Cond.and given_1 narrow_1).before args s = true
def lw_Q (_ : Array Value) (s : State) (o : Outcome) (t : State) : Prop := o = .returned (some (.int 1)) ∧ Framed s o t [] 601024 7293000
def lw_Z (below : List Frame) (a : Array Value) (s : State) : State → Prop := fun t => ∃ o, t.status = .running ∧ Ended t below o ∧ lw_Q a s o t
/-- the law's own end, with 1 on the stack, nothing written that was there before, its room as the claim has it -/
theorem lw_ret {p : Program} {l : Launch} {e : Env} {s : State} {m : MethodId} {below : List Frame} {meth : Method} {c : Code} {b : Nat} (hx : p.tables.exec = Jvm.exec) (hb : c.code = code) (hr : meth.sig.returnType = ret) (hlocks : meth.locks = false) {pc : Nat} {H : Heap} {ls : Array Slot} (hdg : decode code pc = .ok (.ireturn, 1)) : W p l e room_1 s m #[Value.ref b] below meth c H [] 601024 7293000 (lw_Z below #[Value.ref b] s) (F0 m pc ls [.int 1]) := by
  intro T hT X
  obtain ⟨fs, hret, hrun, hended, hW, hframe⟩ := X.leave (v := some (.int 1)) (hlocks := hlocks) (fun h => by rw [hr] at h; cases h)
  have hmeth' : T.vm.method? m = some meth := X.method'
  refine ⟨T.setFrames fs, ?_, .returned (some (.int 1)), hrun, hended, rfl, ⟨_, rfl⟩, hW, hframe⟩
  jvm_step X.here [X.here.top, hx, hb, hdg, hmeth', hr, ret, narrow_b1]
  (try refine ⟨rfl, ?_⟩); (try refine ⟨rfl, ?_⟩)
  first | (intro acts; rw [hret _ acts rfl rfl rfl]) | rw [hret _ _ rfl rfl rfl]
  exact Steps.refl _
/-- what holds at the law's entry: the machine, the code, the tables' words (any of lw_tbl by 'hts w (by decide +kernel)'), the script of L ints xs at the cell b, what the Statement gives of the start (any of its parts by flat_of_before) -/
def lw_At (p : Program) (s : State) (m : MethodId) (meth : Method) (c : Code) (b L : Nat) (xs : Nat → Int32) : Prop :=
  p.tables.exec = Jvm.exec ∧ c.code = code ∧ meth.sig.returnType = ret ∧ c.maxLocals = 8 ∧ s.vm.findClass R_law = some m.cls ∧ (∀ w ∈ lw_tbl, w.before #[Value.ref b] s = true) ∧ va_X b L xs s s.heap ∧ b < s.heap.size ∧ meth.locks = false ∧ (Jvm.Cond.and given_1 narrow_1).before #[Value.ref b] s = true
def zl_runX (n : Nat) (mi : zw_I) (ml : zw_L) (wk : Int32) (x : Int64) : Prop := ∃ (w : Nat) (G : zw_I → Prop), (¬ p_within wk 1 16 = 0 → w ≤ 16 ∧ wk = nI w) ∧ zi n mi ∧ zg_K n G ∧ (¬ p_within wk 1 16 = 0 → G (p_prep n wk mi ml).1) ∧ (p_prep n wk mi ml).1 5 11 = 0 ∧ (∀ (wk : Int32) (mi : zw_I) (ml : zw_L), (p_tick n wk mi ml).2.1 5 11 = mi 5 11) ∧ ∀ i : Nat, i < n → vp_in ((p_go n wk x mi ml).2.1 7 i) 21
def zl_runM (n : Nat) (mi : zw_I) (ml : zw_L) (wk : Int32) : Prop := ∃ (w8 w : Nat) (G : zw_I → Prop), mi 32 1 = nI n ∧ w8 ≤ 8 ∧ mi 32 15 = nI w8 ∧ (¬ p_within wk 1 16 = 0 → w ≤ 16 ∧ wk = nI w) ∧ zq_K n w G ∧ (¬ p_within wk 1 16 = 0 → G (q_begin wk (zw_up mi 32 0 0) ml).1 ∧ (q_begin wk (zw_up mi 32 0 0) ml).1 32 30 = 0)
theorem zl_cmp {x y : Int64} (h : x = y) : lg_cmp x y = 0 := by
  subst h
  unfold lg_cmp
  simp
theorem zl_in {L j t : Nat} (hL : L ≤ 3074) (hj : j ≤ 3080) (ht : t ≤ 5) (h : ¬ nI L - 6 < nI j) : vp_in (nI j + nI t) L := by
  rw [nI_add]
  have e1 : (nI L - 6).toInt = (L : Int) - 6 := by
    rw [show (6 : Int32) = nI 6 from rfl, Int32.toInt_sub, nI_toInt (by omega), nI_toInt (by omega)]
    rw [Int.bmod_def]
    omega
  rw [Int32.lt_iff_toInt_lt, e1, nI_toInt (by omega)] at h
  exact vp_in_nI (by omega) (by omega)
theorem zl_in0 {L j : Nat} (hL : L ≤ 3074) (hj : j ≤ 3080) (h : ¬ nI L - 6 < nI j) : vp_in (nI j) L ∧ j + 6 ≤ L := by
  have h0 := zl_in (t := 0) hL hj (by omega) h
  rw [nI_add] at h0
  refine ⟨h0, ?_⟩
  have h5 := zl_in (t := 5) hL hj (by omega) h
  rw [nI_add, vp_in_iff, nI_toInt (by omega)] at h5
  omega
-- what the law asks of class and reference, call by call, of a relation J between what both hold
def zl_A_share (n : Nat) (J : zw_I → zw_L → Prop) : Prop := ∀ (mi : zw_I) (ml : zw_L) (x : Int32) (st : Int32) (ce : Int32) (t : Int64), J mi ml → (∀ x : Int32, ¬ p_isShare mi x = 0 → vp_in x n) ∧ (¬ q_isShare (zh_i mi (p_share mi ml x st ce t)) x = 0 → vp_in x 16) ∧ ((q_share (zh_i mi (p_share mi ml x st ce t)) (zh_l ml (p_share mi ml x st ce t)) x st ce t).2.1) 32 0 = zh_c zh_k (p_share mi ml x st ce t) ∧ (zh_c zh_k (p_share mi ml x st ce t) = 0 → ((q_share (zh_i mi (p_share mi ml x st ce t)) (zh_l ml (p_share mi ml x st ce t)) x st ce t).2.2) 30 (0 : Int32).toNatClampNeg = ((q_share (zh_i mi (p_share mi ml x st ce t)) (zh_l ml (p_share mi ml x st ce t)) x st ce t).1).toInt64) ∧ J ((q_share (zh_i mi (p_share mi ml x st ce t)) (zh_l ml (p_share mi ml x st ce t)) x st ce t).2.1) ((q_share (zh_i mi (p_share mi ml x st ce t)) (zh_l ml (p_share mi ml x st ce t)) x st ce t).2.2)
def zl_A_need (n : Nat) (J : zw_I → zw_L → Prop) : Prop := ∀ (mi : zw_I) (ml : zw_L) (x : Int32) (s0 : Int32) (o : Int32) (m0 : Int32), J mi ml → (∀ x : Int32, ¬ p_isShare mi x = 0 → vp_in x n) ∧ (¬ p_isShare mi x = 0 → mi 10 x.toNatClampNeg < 6 → vp_in (mi 10 x.toNatClampNeg) 6) ∧ (¬ q_isShare (zh_i mi (p_need mi ml x s0 o m0)) x = 0 → vp_in x 16) ∧ (¬ q_isShare (zh_i mi (p_need mi ml x s0 o m0)) x = 0 → ¬ (zh_i mi (p_need mi ml x s0 o m0)) 36 x.toNatClampNeg = 6 → vp_in (6 * x + (zh_i mi (p_need mi ml x s0 o m0)) 36 x.toNatClampNeg) 96) ∧ ((q_need (zh_i mi (p_need mi ml x s0 o m0)) x s0 o m0).2) 32 0 = zh_c zh_k (p_need mi ml x s0 o m0) ∧ (zh_c zh_k (p_need mi ml x s0 o m0) = 0 → (zh_l ml (p_need mi ml x s0 o m0)) 30 (0 : Int32).toNatClampNeg = ((q_need (zh_i mi (p_need mi ml x s0 o m0)) x s0 o m0).1).toInt64) ∧ J ((q_need (zh_i mi (p_need mi ml x s0 o m0)) x s0 o m0).2) (zh_l ml (p_need mi ml x s0 o m0))
def zl_A_free (n : Nat) (J : zw_I → zw_L → Prop) : Prop := ∀ (mi : zw_I) (ml : zw_L) (x : Int32), J mi ml → (∀ x : Int32, ¬ p_isShare mi x = 0 → vp_in x n) ∧ (¬ q_isShare (zh_i mi (p_free mi ml x)) x = 0 → vp_in x 16) ∧ ((q_free (zh_i mi (p_free mi ml x)) x).2) 32 0 = zh_c zh_k (p_free mi ml x) ∧ (zh_c zh_k (p_free mi ml x) = 0 → (zh_l ml (p_free mi ml x)) 30 (0 : Int32).toNatClampNeg = ((q_free (zh_i mi (p_free mi ml x)) x).1).toInt64) ∧ J ((q_free (zh_i mi (p_free mi ml x)) x).2) (zh_l ml (p_free mi ml x))
def zl_A_failing (n : Nat) (J : zw_I → zw_L → Prop) : Prop := ∀ (mi : zw_I) (ml : zw_L) (w : Int32) (x : Int32) (s0 : Int32) (t : Int32), J mi ml → (mi 3 5 < 8 → vp_in (mi 3 5) 8) ∧ (¬ (zh_i mi (p_failing mi ml w x s0 t)) 32 15 = 8 → vp_in ((zh_i mi (p_failing mi ml w x s0 t)) 32 15) 8) ∧ ((q_failing (zh_i mi (p_failing mi ml w x s0 t)) w x s0 t).2) 32 0 = zh_c zh_k (p_failing mi ml w x s0 t) ∧ (zh_c zh_k (p_failing mi ml w x s0 t) = 0 → (zh_l ml (p_failing mi ml w x s0 t)) 30 (0 : Int32).toNatClampNeg = ((q_failing (zh_i mi (p_failing mi ml w x s0 t)) w x s0 t).1).toInt64) ∧ J ((q_failing (zh_i mi (p_failing mi ml w x s0 t)) w x s0 t).2) (zh_l ml (p_failing mi ml w x s0 t))
def zl_A_stop (n : Nat) (J : zw_I → zw_L → Prop) : Prop := ∀ (mi : zw_I) (ml : zw_L) (x : Int32), J mi ml → ((q_stop (zh_i mi (p_stop mi ml x)) x).2) 32 0 = zh_c zh_k (p_stop mi ml x) ∧ (zh_c zh_k (p_stop mi ml x) = 0 → (zh_l ml (p_stop mi ml x)) 30 (0 : Int32).toNatClampNeg = ((q_stop (zh_i mi (p_stop mi ml x)) x).1).toInt64) ∧ J ((q_stop (zh_i mi (p_stop mi ml x)) x).2) (zh_l ml (p_stop mi ml x))
def zl_A_run (n : Nat) (J : zw_I → zw_L → Prop) : Prop := ∀ (mi : zw_I) (ml : zw_L) (wk : Int32) (x : Int64), J mi ml → (zl_runX n mi ml wk x) ∧ (zl_runM n (zh_i mi (p_run n mi ml wk x)) (zh_l ml (p_run n mi ml wk x)) wk) ∧ ((q_run wk x (zh_i mi (p_run n mi ml wk x)) (zh_l ml (p_run n mi ml wk x))).2.1) 32 0 = zh_c zh_k1 (p_run n mi ml wk x) ∧ (zh_c zh_k1 (p_run n mi ml wk x) = 0 → ((q_run wk x (zh_i mi (p_run n mi ml wk x)) (zh_l ml (p_run n mi ml wk x))).2.2) 30 (0 : Int32).toNatClampNeg = ((q_run wk x (zh_i mi (p_run n mi ml wk x)) (zh_l ml (p_run n mi ml wk x))).1).toInt64) ∧ J ((q_run wk x (zh_i mi (p_run n mi ml wk x)) (zh_l ml (p_run n mi ml wk x))).2.1) ((q_run wk x (zh_i mi (p_run n mi ml wk x)) (zh_l ml (p_run n mi ml wk x))).2.2)
def zl_A_at (n : Nat) (J : zw_I → zw_L → Prop) : Prop := ∀ (mi : zw_I) (ml : zw_L) (x : Int32), J mi ml → (∀ x : Int32, ¬ p_isShare mi x = 0 → vp_in x n) ∧ (¬ q_isShare (zh_i mi (p_at mi ml x)) x = 0 → vp_in x 16) ∧ ((q_at (zh_i mi (p_at mi ml x)) (zh_l ml (p_at mi ml x)) x).2) 32 0 = zh_c zh_k (p_at mi ml x) ∧ (zh_c zh_k (p_at mi ml x) = 0 → (zh_l ml (p_at mi ml x)) 30 (0 : Int32).toNatClampNeg = ((q_at (zh_i mi (p_at mi ml x)) (zh_l ml (p_at mi ml x)) x).1)) ∧ J ((q_at (zh_i mi (p_at mi ml x)) (zh_l ml (p_at mi ml x)) x).2) (zh_l ml (p_at mi ml x))
def zl_A_order (n : Nat) (J : zw_I → zw_L → Prop) : Prop := ∀ (mi : zw_I) (ml : zw_L) (x : Int32), J mi ml → (¬ p_within x 0 (mi 5 8 - 1) = 0 → vp_in x n) ∧ (¬ p_within x 0 ((zh_i mi (p_order mi ml x)) 32 29 - 1) = 0 → vp_in x 16) ∧ ((q_order (zh_i mi (p_order mi ml x)) x).2) 32 0 = zh_c zh_k (p_order mi ml x) ∧ (zh_c zh_k (p_order mi ml x) = 0 → (zh_l ml (p_order mi ml x)) 30 (0 : Int32).toNatClampNeg = ((q_order (zh_i mi (p_order mi ml x)) x).1).toInt64) ∧ J ((q_order (zh_i mi (p_order mi ml x)) x).2) (zh_l ml (p_order mi ml x))
def zl_A_begun (n : Nat) (J : zw_I → zw_L → Prop) : Prop := ∀ (mi : zw_I) (ml : zw_L) (x : Int32), J mi ml → (∀ x : Int32, ¬ p_isShare mi x = 0 → vp_in x n) ∧ (¬ q_isShare (zh_i mi (p_begun mi ml x)) x = 0 → vp_in x 16) ∧ ((q_begun (zh_i mi (p_begun mi ml x)) x).2) 32 0 = zh_c zh_k (p_begun mi ml x) ∧ (zh_c zh_k (p_begun mi ml x) = 0 → (zh_l ml (p_begun mi ml x)) 30 (0 : Int32).toNatClampNeg = ((q_begun (zh_i mi (p_begun mi ml x)) x).1).toInt64) ∧ J ((q_begun (zh_i mi (p_begun mi ml x)) x).2) (zh_l ml (p_begun mi ml x))
def zl_A_waited (n : Nat) (J : zw_I → zw_L → Prop) : Prop := ∀ (mi : zw_I) (ml : zw_L) (x : Int32) (y : Int32), J mi ml → (∀ x : Int32, ¬ p_isShare mi x = 0 → vp_in x n) ∧ (∀ u : Int32, ¬ q_isShare (zh_i mi (p_waited mi ml x y)) u = 0 → vp_in u 16) ∧ ((q_waited (zh_i mi (p_waited mi ml x y)) x y).2) 32 0 = zh_c zh_k (p_waited mi ml x y) ∧ (zh_c zh_k (p_waited mi ml x y) = 0 → (zh_l ml (p_waited mi ml x y)) 30 (0 : Int32).toNatClampNeg = ((q_waited (zh_i mi (p_waited mi ml x y)) x y).1).toInt64) ∧ J ((q_waited (zh_i mi (p_waited mi ml x y)) x y).2) (zh_l ml (p_waited mi ml x y))
def zl_A_sh (n : Nat) (J : zw_I → zw_L → Prop) : Prop := ∀ (mi : zw_I) (ml : zw_L), J mi ml → mi 1 0 = nI n ∧ mi 32 1 = nI n
def zl_A_told (n : Nat) (J : zw_I → zw_L → Prop) : Prop := ∀ (mi : zw_I) (ml : zw_L) (x : Int32), J mi ml → p_told n mi x = q_told (zw_up mi 32 0 0) x ∧ J (zw_up mi 32 0 0) ml
def zl_A_clear (n : Nat) (J : zw_I → zw_L → Prop) : Prop := ∀ (mi : zw_I) (ml : zw_L), J mi ml → (p_reset n (n + 1) 0 mi ml).1 1 0 = nI n ∧ (p_reset n (n + 1) 0 mi ml).1 3 5 = 0 ∧ J (q_clear (p_clear n mi ml).1 (p_clear n mi ml).2).1 (q_clear (p_clear n mi ml).1 (p_clear n mi ml).2).2
def zl_Ag (n : Nat) (J : zw_I → zw_L → Prop) : Prop := zl_A_share n J ∧ zl_A_need n J ∧ zl_A_free n J ∧ zl_A_failing n J ∧ zl_A_stop n J ∧ zl_A_run n J ∧ zl_A_at n J ∧ zl_A_order n J ∧ zl_A_begun n J ∧ zl_A_waited n J ∧ zl_A_sh n J ∧ zl_A_told n J ∧ zl_A_clear n J
theorem zl_Ag.share {n : Nat} {J : zw_I → zw_L → Prop} (h : zl_Ag n J) : zl_A_share n J := h.1
theorem zl_Ag.need {n : Nat} {J : zw_I → zw_L → Prop} (h : zl_Ag n J) : zl_A_need n J := h.2.1
theorem zl_Ag.free {n : Nat} {J : zw_I → zw_L → Prop} (h : zl_Ag n J) : zl_A_free n J := h.2.2.1
theorem zl_Ag.failing {n : Nat} {J : zw_I → zw_L → Prop} (h : zl_Ag n J) : zl_A_failing n J := h.2.2.2.1
theorem zl_Ag.stop {n : Nat} {J : zw_I → zw_L → Prop} (h : zl_Ag n J) : zl_A_stop n J := h.2.2.2.2.1
theorem zl_Ag.run {n : Nat} {J : zw_I → zw_L → Prop} (h : zl_Ag n J) : zl_A_run n J := h.2.2.2.2.2.1
theorem zl_Ag.at {n : Nat} {J : zw_I → zw_L → Prop} (h : zl_Ag n J) : zl_A_at n J := h.2.2.2.2.2.2.1
theorem zl_Ag.order {n : Nat} {J : zw_I → zw_L → Prop} (h : zl_Ag n J) : zl_A_order n J := h.2.2.2.2.2.2.2.1
theorem zl_Ag.begun {n : Nat} {J : zw_I → zw_L → Prop} (h : zl_Ag n J) : zl_A_begun n J := h.2.2.2.2.2.2.2.2.1
theorem zl_Ag.waited {n : Nat} {J : zw_I → zw_L → Prop} (h : zl_Ag n J) : zl_A_waited n J := h.2.2.2.2.2.2.2.2.2.1
theorem zl_Ag.sh {n : Nat} {J : zw_I → zw_L → Prop} (h : zl_Ag n J) : zl_A_sh n J := h.2.2.2.2.2.2.2.2.2.2.1
theorem zl_Ag.told {n : Nat} {J : zw_I → zw_L → Prop} (h : zl_Ag n J) : zl_A_told n J := h.2.2.2.2.2.2.2.2.2.2.2.1
theorem zl_Ag.clear {n : Nat} {J : zw_I → zw_L → Prop} (h : zl_Ag n J) : zl_A_clear n J := h.2.2.2.2.2.2.2.2.2.2.2.2
