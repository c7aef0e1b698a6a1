section
-- ===== PART A: goes FIRST, ahead of the names: the tables' words, and 'selects' of the private methods out of them =====
/-- a private method of a class that the tables say can be made, by its rows of tables_1 -/
def lw_okq (q : MethodName × Nat) : Prop := (q.1.cls ≠ "java/lang/invoke/MethodHandle" ∧ q.1.cls ≠ "java/lang/invoke/VarHandle") ∧ Cond.instantiable q.1.cls q.2 ∈ tables_1 ∧ Cond.privateMethod q.1 ∈ tables_1 ∧ Cond.instanceMethod q.1 ∈ tables_1
theorem lw_p0 : lw_okq (⟨"TileShares", "countValues", "()I"⟩, 4) := ⟨⟨by decide +kernel, by decide +kernel⟩, List.mem_of_getElem? (i := 18) (by decide +kernel), List.mem_of_getElem? (i := 258) (by decide +kernel), List.mem_of_getElem? (i := 259) (by decide +kernel)⟩
theorem lw_p1 : lw_okq (⟨"TileShares", "isShare", "(I)Z"⟩, 4) := ⟨⟨by decide +kernel, by decide +kernel⟩, List.mem_of_getElem? (i := 18) (by decide +kernel), List.mem_of_getElem? (i := 295) (by decide +kernel), List.mem_of_getElem? (i := 296) (by decide +kernel)⟩
theorem lw_p2 : lw_okq (⟨"java/lang/Throwable", "fillInStackTrace", "(I)Ljava/lang/Throwable;"⟩, 6) := ⟨⟨by decide +kernel, by decide +kernel⟩, List.mem_of_getElem? (i := 341) (by decide +kernel), List.mem_of_getElem? (i := 339) (by decide +kernel), List.mem_of_getElem? (i := 340) (by decide +kernel)⟩
theorem lw_p3 : lw_okq (⟨"TileShares$Course", "endByState", "()I"⟩, 15) := ⟨⟨by decide +kernel, by decide +kernel⟩, List.mem_of_getElem? (i := 138) (by decide +kernel), List.mem_of_getElem? (i := 459) (by decide +kernel), List.mem_of_getElem? (i := 460) (by decide +kernel)⟩
theorem lw_p4 : lw_okq (⟨"TileShares$Course", "isStuck", "()Z"⟩, 15) := ⟨⟨by decide +kernel, by decide +kernel⟩, List.mem_of_getElem? (i := 138) (by decide +kernel), List.mem_of_getElem? (i := 467) (by decide +kernel), List.mem_of_getElem? (i := 468) (by decide +kernel)⟩
theorem lw_p5 : lw_okq (⟨"TileShares$Course", "canTake", "()Z"⟩, 15) := ⟨⟨by decide +kernel, by decide +kernel⟩, List.mem_of_getElem? (i := 138) (by decide +kernel), List.mem_of_getElem? (i := 471) (by decide +kernel), List.mem_of_getElem? (i := 472) (by decide +kernel)⟩
theorem lw_p6 : lw_okq (⟨"TileShares$Course", "shareToWaitFor", "(I)I"⟩, 15) := ⟨⟨by decide +kernel, by decide +kernel⟩, List.mem_of_getElem? (i := 138) (by decide +kernel), List.mem_of_getElem? (i := 479) (by decide +kernel), List.mem_of_getElem? (i := 480) (by decide +kernel)⟩
theorem lw_p7 : lw_okq (⟨"TileShares$Course", "tick", "(I)Z"⟩, 15) := ⟨⟨by decide +kernel, by decide +kernel⟩, List.mem_of_getElem? (i := 138) (by decide +kernel), List.mem_of_getElem? (i := 493) (by decide +kernel), List.mem_of_getElem? (i := 494) (by decide +kernel)⟩
theorem lw_p8 : lw_okq (⟨"TileShares$Course", "take", "(I)Z"⟩, 15) := ⟨⟨by decide +kernel, by decide +kernel⟩, List.mem_of_getElem? (i := 138) (by decide +kernel), List.mem_of_getElem? (i := 497) (by decide +kernel), List.mem_of_getElem? (i := 498) (by decide +kernel)⟩
theorem lw_p9 : lw_okq (⟨"TileShares$Line", "wrapped", "(I)I"⟩, 3) := ⟨⟨by decide +kernel, by decide +kernel⟩, List.mem_of_getElem? (i := 144) (by decide +kernel), List.mem_of_getElem? (i := 505) (by decide +kernel), List.mem_of_getElem? (i := 506) (by decide +kernel)⟩
theorem lw_p10 : lw_okq (⟨"TileShares$Course", "fail", "(II)V"⟩, 15) := ⟨⟨by decide +kernel, by decide +kernel⟩, List.mem_of_getElem? (i := 138) (by decide +kernel), List.mem_of_getElem? (i := 514) (by decide +kernel), List.mem_of_getElem? (i := 515) (by decide +kernel)⟩
theorem lw_p11 : lw_okq (⟨"TileShares$Course", "doStep", "(II)V"⟩, 15) := ⟨⟨by decide +kernel, by decide +kernel⟩, List.mem_of_getElem? (i := 138) (by decide +kernel), List.mem_of_getElem? (i := 526) (by decide +kernel), List.mem_of_getElem? (i := 527) (by decide +kernel)⟩
theorem lw_p12 : lw_okq (⟨"TileShares", "putValues", "()V"⟩, 4) := ⟨⟨by decide +kernel, by decide +kernel⟩, List.mem_of_getElem? (i := 18) (by decide +kernel), List.mem_of_getElem? (i := 534) (by decide +kernel), List.mem_of_getElem? (i := 535) (by decide +kernel)⟩
theorem lw_p13 : lw_okq (⟨"TileSharesModel", "isShare", "(I)Z"⟩, 36) := ⟨⟨by decide +kernel, by decide +kernel⟩, List.mem_of_getElem? (i := 585) (by decide +kernel), List.mem_of_getElem? (i := 712) (by decide +kernel), List.mem_of_getElem? (i := 713) (by decide +kernel)⟩
theorem lw_p14 : lw_okq (⟨"TileSharesModel", "begin", "(I)V"⟩, 36) := ⟨⟨by decide +kernel, by decide +kernel⟩, List.mem_of_getElem? (i := 585) (by decide +kernel), List.mem_of_getElem? (i := 739) (by decide +kernel), List.mem_of_getElem? (i := 740) (by decide +kernel)⟩
theorem lw_p15 : lw_okq (⟨"TileSharesModel", "ending", "(I)I"⟩, 36) := ⟨⟨by decide +kernel, by decide +kernel⟩, List.mem_of_getElem? (i := 585) (by decide +kernel), List.mem_of_getElem? (i := 743) (by decide +kernel), List.mem_of_getElem? (i := 744) (by decide +kernel)⟩
def lw_privs_1 : List (MethodName × Nat) := [(⟨"TileShares", "countValues", "()I"⟩, 4), (⟨"TileShares", "isShare", "(I)Z"⟩, 4), (⟨"java/lang/Throwable", "fillInStackTrace", "(I)Ljava/lang/Throwable;"⟩, 6), (⟨"TileShares$Course", "endByState", "()I"⟩, 15), (⟨"TileShares$Course", "isStuck", "()Z"⟩, 15), (⟨"TileShares$Course", "canTake", "()Z"⟩, 15), (⟨"TileShares$Course", "shareToWaitFor", "(I)I"⟩, 15), (⟨"TileShares$Course", "tick", "(I)Z"⟩, 15), (⟨"TileShares$Course", "take", "(I)Z"⟩, 15), (⟨"TileShares$Line", "wrapped", "(I)I"⟩, 3), (⟨"TileShares$Course", "fail", "(II)V"⟩, 15), (⟨"TileShares$Course", "doStep", "(II)V"⟩, 15), (⟨"TileShares", "putValues", "()V"⟩, 4), (⟨"TileSharesModel", "isShare", "(I)Z"⟩, 36), (⟨"TileSharesModel", "begin", "(I)V"⟩, 36), (⟨"TileSharesModel", "ending", "(I)I"⟩, 36)]
theorem lw_r1 : ∀ q ∈ lw_privs_1, lw_okq q := List.forall_mem_cons.mpr ⟨lw_p0, List.forall_mem_cons.mpr ⟨lw_p1, List.forall_mem_cons.mpr ⟨lw_p2, List.forall_mem_cons.mpr ⟨lw_p3, List.forall_mem_cons.mpr ⟨lw_p4, List.forall_mem_cons.mpr ⟨lw_p5, List.forall_mem_cons.mpr ⟨lw_p6, List.forall_mem_cons.mpr ⟨lw_p7, List.forall_mem_cons.mpr ⟨lw_p8, List.forall_mem_cons.mpr ⟨lw_p9, List.forall_mem_cons.mpr ⟨lw_p10, List.forall_mem_cons.mpr ⟨lw_p11, List.forall_mem_cons.mpr ⟨lw_p12, List.forall_mem_cons.mpr ⟨lw_p13, List.forall_mem_cons.mpr ⟨lw_p14, List.forall_mem_cons.mpr ⟨lw_p15, fun _ h => absurd h List.not_mem_nil⟩⟩⟩⟩⟩⟩⟩⟩⟩⟩⟩⟩⟩⟩⟩⟩
theorem lw_p16 : lw_okq (⟨"TileSharesModel", "isFinished", "(I)Z"⟩, 36) := ⟨⟨by decide +kernel, by decide +kernel⟩, List.mem_of_getElem? (i := 585) (by decide +kernel), List.mem_of_getElem? (i := 747) (by decide +kernel), List.mem_of_getElem? (i := 748) (by decide +kernel)⟩
theorem lw_p17 : lw_okq (⟨"TileSharesModel", "isStuck", "(I)Z"⟩, 36) := ⟨⟨by decide +kernel, by decide +kernel⟩, List.mem_of_getElem? (i := 585) (by decide +kernel), List.mem_of_getElem? (i := 751) (by decide +kernel), List.mem_of_getElem? (i := 752) (by decide +kernel)⟩
theorem lw_p18 : lw_okq (⟨"TileSharesModel", "canTake", "()Z"⟩, 36) := ⟨⟨by decide +kernel, by decide +kernel⟩, List.mem_of_getElem? (i := 585) (by decide +kernel), List.mem_of_getElem? (i := 755) (by decide +kernel), List.mem_of_getElem? (i := 756) (by decide +kernel)⟩
theorem lw_p19 : lw_okq (⟨"TileSharesModel", "waitsFor", "(I)I"⟩, 36) := ⟨⟨by decide +kernel, by decide +kernel⟩, List.mem_of_getElem? (i := 585) (by decide +kernel), List.mem_of_getElem? (i := 759) (by decide +kernel), List.mem_of_getElem? (i := 760) (by decide +kernel)⟩
theorem lw_p20 : lw_okq (⟨"TileSharesModel", "tick", "(I)V"⟩, 36) := ⟨⟨by decide +kernel, by decide +kernel⟩, List.mem_of_getElem? (i := 585) (by decide +kernel), List.mem_of_getElem? (i := 765) (by decide +kernel), List.mem_of_getElem? (i := 766) (by decide +kernel)⟩
theorem lw_p21 : lw_okq (⟨"TileSharesModel", "take", "(I)V"⟩, 36) := ⟨⟨by decide +kernel, by decide +kernel⟩, List.mem_of_getElem? (i := 585) (by decide +kernel), List.mem_of_getElem? (i := 769) (by decide +kernel), List.mem_of_getElem? (i := 770) (by decide +kernel)⟩
theorem lw_p22 : lw_okq (⟨"TileSharesModel", "fails", "(II)Z"⟩, 36) := ⟨⟨by decide +kernel, by decide +kernel⟩, List.mem_of_getElem? (i := 585) (by decide +kernel), List.mem_of_getElem? (i := 773) (by decide +kernel), List.mem_of_getElem? (i := 774) (by decide +kernel)⟩
theorem lw_p23 : lw_okq (⟨"TileSharesModel", "doStep", "(II)V"⟩, 36) := ⟨⟨by decide +kernel, by decide +kernel⟩, List.mem_of_getElem? (i := 585) (by decide +kernel), List.mem_of_getElem? (i := 777) (by decide +kernel), List.mem_of_getElem? (i := 778) (by decide +kernel)⟩
def lw_privs_2 : List (MethodName × Nat) := [(⟨"TileSharesModel", "isFinished", "(I)Z"⟩, 36), (⟨"TileSharesModel", "isStuck", "(I)Z"⟩, 36), (⟨"TileSharesModel", "canTake", "()Z"⟩, 36), (⟨"TileSharesModel", "waitsFor", "(I)I"⟩, 36), (⟨"TileSharesModel", "tick", "(I)V"⟩, 36), (⟨"TileSharesModel", "take", "(I)V"⟩, 36), (⟨"TileSharesModel", "fails", "(II)Z"⟩, 36), (⟨"TileSharesModel", "doStep", "(II)V"⟩, 36)]
theorem lw_r2 : ∀ q ∈ lw_privs_2, lw_okq q := List.forall_mem_cons.mpr ⟨lw_p16, List.forall_mem_cons.mpr ⟨lw_p17, List.forall_mem_cons.mpr ⟨lw_p18, List.forall_mem_cons.mpr ⟨lw_p19, List.forall_mem_cons.mpr ⟨lw_p20, List.forall_mem_cons.mpr ⟨lw_p21, List.forall_mem_cons.mpr ⟨lw_p22, List.forall_mem_cons.mpr ⟨lw_p23, fun _ h => absurd h List.not_mem_nil⟩⟩⟩⟩⟩⟩⟩⟩
def lw_privs : List (MethodName × Nat) := lw_privs_1 ++ (lw_privs_2)
def lw_tbl : List Cond := k2_sels lw_privs ++ tables_1
theorem lw_privs_ok : ∀ q ∈ lw_privs, lw_okq q := by
  show ∀ q ∈ lw_privs_1 ++ (lw_privs_2), lw_okq q
  exact List.forall_mem_append.mpr ⟨lw_r1, lw_r2⟩
-- ===== end of PART A; names, written by a program of ours =====
def R_Course : String := "TileShares$Course"
def T_Course : u_T := fun k => match k with
  | 0 => ("TileShares$Course", "plan", "LTileShares$Plan;", true)
  | 1 => ("TileShares$Course", "line", "LTileShares$Line;", true)
  | 2 => ("TileShares$Course", "crew", "LTileShares$Crew;", true)
  | 3 => ("TileShares$Course", "done", "[I", true)
  | 4 => ("TileShares$Course", "values", "[[J", true)
  | 5 => ("TileShares$Course", "beginnings", "[I", true)
  | 6 => ("TileShares$Course", "waits", "[[I", true)
  | 7 => ("TileShares$Course", "finished", "[I", true)
  | 8 => ("TileShares$Course", "finishedCount", "I", false)
  | 9 => ("TileShares$Course", "cellsInUse", "I", false)
  | 10 => ("TileShares$Course", "mostCells", "I", false)
  | 11 => ("TileShares$Course", "ticks", "I", false)
  | 12 => ("TileShares$Course", "idleTicks", "I", false)
  | 13 => ("TileShares$Course", "waitTicks", "I", false)
  | _ => ("TileShares$Course", "stepsDone", "I", false)
def ty_Course : Nat → FieldType := fun k => match k with
  | 0 => .object "TileShares$Plan"
  | 1 => .object "TileShares$Line"
  | 2 => .object "TileShares$Crew"
  | 3 => .array .int
  | 4 => .array (.array .long)
  | 5 => .array .int
  | 6 => .array (.array .int)
  | 7 => .array .int
  | 8 => .int
  | 9 => .int
  | 10 => .int
  | 11 => .int
  | 12 => .int
  | 13 => .int
  | _ => .int
def R_Crew : String := "TileShares$Crew"
def T_Crew : u_T := fun k => match k with
  | 0 => ("TileShares$Crew", "living", "[I", true)
  | 1 => ("TileShares$Crew", "held", "[I", true)
  | _ => ("TileShares$Crew", "count", "I", false)
def ty_Crew : Nat → FieldType := fun k => match k with
  | 0 => .array .int
  | 1 => .array .int
  | _ => .int
def R_Failings : String := "TileShares$Failings"
def T_Failings : u_T := fun k => match k with
  | 0 => ("TileShares$Failings", "worker", "[I", true)
  | 1 => ("TileShares$Failings", "share", "[I", true)
  | 2 => ("TileShares$Failings", "step", "[I", true)
  | 3 => ("TileShares$Failings", "times", "[I", true)
  | 4 => ("TileShares$Failings", "timesLeft", "[I", true)
  | _ => ("TileShares$Failings", "count", "I", false)
def ty_Failings : Nat → FieldType := fun k => match k with
  | 0 => .array .int
  | 1 => .array .int
  | 2 => .array .int
  | 3 => .array .int
  | 4 => .array .int
  | _ => .int
def R_Line : String := "TileShares$Line"
def T_Line : u_T := fun k => match k with
  | 0 => ("TileShares$Line", "ring", "[I", true)
  | 1 => ("TileShares$Line", "head", "I", false)
  | _ => ("TileShares$Line", "length", "I", false)
def ty_Line : Nat → FieldType := fun k => match k with
  | 0 => .array .int
  | 1 => .int
  | _ => .int
def R_Needs : String := "TileShares$Needs"
def T_Needs : u_T := fun k => match k with
  | 0 => ("TileShares$Needs", "count", "[I", true)
  | 1 => ("TileShares$Needs", "step", "[[I", true)
  | 2 => ("TileShares$Needs", "other", "[[I", true)
  | _ => ("TileShares$Needs", "least", "[[I", true)
def ty_Needs : Nat → FieldType := fun k => match k with
  | 0 => .array .int
  | 1 => .array (.array .int)
  | 2 => .array (.array .int)
  | _ => .array (.array .int)
def R_Plan : String := "TileShares$Plan"
def T_Plan : u_T := fun k => match k with
  | 0 => ("TileShares$Plan", "shares", "I", true)
  | 1 => ("TileShares$Plan", "room", "I", true)
  | 2 => ("TileShares$Plan", "steps", "[I", true)
  | 3 => ("TileShares$Plan", "cells", "[I", true)
  | 4 => ("TileShares$Plan", "starts", "[J", true)
  | 5 => ("TileShares$Plan", "needs", "LTileShares$Needs;", true)
  | 6 => ("TileShares$Plan", "failings", "LTileShares$Failings;", true)
  | _ => ("TileShares$Plan", "stopAt", "I", false)
def ty_Plan : Nat → FieldType := fun k => match k with
  | 0 => .int
  | 1 => .int
  | 2 => .array .int
  | 3 => .array .int
  | 4 => .array .long
  | 5 => .object "TileShares$Needs"
  | 6 => .object "TileShares$Failings"
  | _ => .int
def R_TS : String := "TileShares"
def T_TS : u_T := fun k => match k with
  | 0 => ("TileShares", "plan", "LTileShares$Plan;", true)
  | 1 => ("TileShares", "course", "LTileShares$Course;", true)
  | 2 => ("TileShares", "hasValue", "[Z", true)
  | _ => ("TileShares", "putValue", "[J", true)
def ty_TS : Nat → FieldType := fun k => match k with
  | 0 => .object "TileShares$Plan"
  | 1 => .object "TileShares$Course"
  | 2 => .array .boolean
  | _ => .array .long
def R_Model : String := "TileSharesModel"
def T_Model : u_T := fun k => match k with
  | 0 => ("TileSharesModel", "code", "I", false)
  | 1 => ("TileSharesModel", "shares", "I", true)
  | 2 => ("TileSharesModel", "room", "I", true)
  | 3 => ("TileSharesModel", "steps", "[I", true)
  | 4 => ("TileSharesModel", "cells", "[I", true)
  | 5 => ("TileSharesModel", "starts", "[J", true)
  | 6 => ("TileSharesModel", "needCounts", "[I", true)
  | 7 => ("TileSharesModel", "needSteps", "[I", true)
  | 8 => ("TileSharesModel", "needOthers", "[I", true)
  | 9 => ("TileSharesModel", "needMany", "[I", true)
  | 10 => ("TileSharesModel", "failWorkers", "[I", true)
  | 11 => ("TileSharesModel", "failShares", "[I", true)
  | 12 => ("TileSharesModel", "failSteps", "[I", true)
  | 13 => ("TileSharesModel", "failTimes", "[I", true)
  | 14 => ("TileSharesModel", "failLeft", "[I", true)
  | 15 => ("TileSharesModel", "failings", "I", false)
  | 16 => ("TileSharesModel", "stop", "I", false)
  | 17 => ("TileSharesModel", "hasValue", "[Z", true)
  | 18 => ("TileSharesModel", "values", "[J", true)
  | 19 => ("TileSharesModel", "behind", "[J", true)
  | 20 => ("TileSharesModel", "done", "[I", true)
  | 21 => ("TileSharesModel", "works", "[I", true)
  | 22 => ("TileSharesModel", "queue", "[I", true)
  | 23 => ("TileSharesModel", "queued", "I", false)
  | 24 => ("TileSharesModel", "used", "I", false)
  | 25 => ("TileSharesModel", "living", "I", false)
  | 26 => ("TileSharesModel", "order", "[I", true)
  | 27 => ("TileSharesModel", "begun", "[I", true)
  | 28 => ("TileSharesModel", "waited", "[I", true)
  | 29 => ("TileSharesModel", "finished", "I", false)
  | 30 => ("TileSharesModel", "ticks", "I", false)
  | 31 => ("TileSharesModel", "idle", "I", false)
  | 32 => ("TileSharesModel", "waits", "I", false)
  | 33 => ("TileSharesModel", "stepsDone", "I", false)
  | 34 => ("TileSharesModel", "most", "I", false)
  | _ => ("TileSharesModel", "livedAtEnd", "I", false)
def ty_Model : Nat → FieldType := fun k => match k with
  | 0 => .int
  | 1 => .int
  | 2 => .int
  | 3 => .array .int
  | 4 => .array .int
  | 5 => .array .long
  | 6 => .array .int
  | 7 => .array .int
  | 8 => .array .int
  | 9 => .array .int
  | 10 => .array .int
  | 11 => .array .int
  | 12 => .array .int
  | 13 => .array .int
  | 14 => .array .int
  | 15 => .int
  | 16 => .int
  | 17 => .array .boolean
  | 18 => .array .long
  | 19 => .array .long
  | 20 => .array .int
  | 21 => .array .int
  | 22 => .array .int
  | 23 => .int
  | 24 => .int
  | 25 => .int
  | 26 => .array .int
  | 27 => .array .int
  | 28 => .array .int
  | 29 => .int
  | 30 => .int
  | 31 => .int
  | 32 => .int
  | 33 => .int
  | 34 => .int
  | _ => .int
def R_Law : String := "TileSharesLaw"
abbrev vwCl : List vw_C := [(R_Course, T_Course, 15), (R_Crew, T_Crew, 3), (R_Failings, T_Failings, 6), (R_Line, T_Line, 3), (R_Needs, T_Needs, 4), (R_Plan, T_Plan, 8), (R_TS, T_TS, 4), (R_Model, T_Model, 36)]
theorem nm_Course : ∀ a, a < 15 → ∀ b, b < 15 → a ≠ b → (T_Course a).2.1 ≠ (T_Course b).2.1 := by decide +kernel
theorem ty_Course_ok : ∀ k, k < 15 → parseFieldDescriptor (T_Course k).2.2.1 = some (ty_Course k) := by decide +kernel
theorem ly0_Course : ∀ w ∈ u_ws R_Course T_Course 15, w ∈ lw_tbl := by decide +kernel
theorem nm_Crew : ∀ a, a < 3 → ∀ b, b < 3 → a ≠ b → (T_Crew a).2.1 ≠ (T_Crew b).2.1 := by decide +kernel
theorem ty_Crew_ok : ∀ k, k < 3 → parseFieldDescriptor (T_Crew k).2.2.1 = some (ty_Crew k) := by decide +kernel
theorem ly0_Crew : ∀ w ∈ u_ws R_Crew T_Crew 3, w ∈ lw_tbl := by decide +kernel
theorem nm_Failings : ∀ a, a < 6 → ∀ b, b < 6 → a ≠ b → (T_Failings a).2.1 ≠ (T_Failings b).2.1 := by decide +kernel
theorem ty_Failings_ok : ∀ k, k < 6 → parseFieldDescriptor (T_Failings k).2.2.1 = some (ty_Failings k) := by decide +kernel
theorem ly0_Failings : ∀ w ∈ u_ws R_Failings T_Failings 6, w ∈ lw_tbl := by decide +kernel
theorem nm_Line : ∀ a, a < 3 → ∀ b, b < 3 → a ≠ b → (T_Line a).2.1 ≠ (T_Line b).2.1 := by decide +kernel
theorem ty_Line_ok : ∀ k, k < 3 → parseFieldDescriptor (T_Line k).2.2.1 = some (ty_Line k) := by decide +kernel
theorem ly0_Line : ∀ w ∈ u_ws R_Line T_Line 3, w ∈ lw_tbl := by decide +kernel
theorem nm_Needs : ∀ a, a < 4 → ∀ b, b < 4 → a ≠ b → (T_Needs a).2.1 ≠ (T_Needs b).2.1 := by decide +kernel
theorem ty_Needs_ok : ∀ k, k < 4 → parseFieldDescriptor (T_Needs k).2.2.1 = some (ty_Needs k) := by decide +kernel
theorem ly0_Needs : ∀ w ∈ u_ws R_Needs T_Needs 4, w ∈ lw_tbl := by decide +kernel
theorem nm_Plan : ∀ a, a < 8 → ∀ b, b < 8 → a ≠ b → (T_Plan a).2.1 ≠ (T_Plan b).2.1 := by decide +kernel
theorem ty_Plan_ok : ∀ k, k < 8 → parseFieldDescriptor (T_Plan k).2.2.1 = some (ty_Plan k) := by decide +kernel
theorem ly0_Plan : ∀ w ∈ u_ws R_Plan T_Plan 8, w ∈ lw_tbl := by decide +kernel
theorem nm_TS : ∀ a, a < 4 → ∀ b, b < 4 → a ≠ b → (T_TS a).2.1 ≠ (T_TS b).2.1 := by decide +kernel
theorem ty_TS_ok : ∀ k, k < 4 → parseFieldDescriptor (T_TS k).2.2.1 = some (ty_TS k) := by decide +kernel
theorem ly0_TS : ∀ w ∈ u_ws R_TS T_TS 4, w ∈ lw_tbl := by decide +kernel
theorem nm_Model : ∀ a, a < 36 → ∀ b, b < 36 → a ≠ b → (T_Model a).2.1 ≠ (T_Model b).2.1 := by decide +kernel
theorem ty_Model_ok : ∀ k, k < 36 → parseFieldDescriptor (T_Model k).2.2.1 = some (ty_Model k) := by decide +kernel
theorem ly0_Model : ∀ w ∈ u_ws R_Model T_Model 36, w ∈ lw_tbl := by decide +kernel
end
section
/-! THE WORLD OF THIS CLAIM: cells by numbers k; 'ad k' is where cell k lies, 'sh k' what kind it is, 'mi k j' and 'ml k j' the ints and longs in it. References never change once a cell is made, so they stand in the kinds. -/
abbrev zw_cl : List vw_C := vwCl
def zw_nest (w : Cond) : Bool := match w with
  | .fieldLinkNest .. => true
  | .methodLinkNest .. => true
  | .arrayOver _ => true
  | .castable .. => true
  | _ => false
def zw_ok (w : Cond) : Bool := goodWord w || zw_nest w
/-- the words that stay true as the tables warm -/
def zw_Tb : List Cond := lw_tbl.filter zw_ok
theorem zw_in {w : Cond} (h : w ∈ lw_tbl) (hok : zw_ok w = true) : w ∈ zw_Tb := List.mem_filter.mpr ⟨h, hok⟩
theorem zw_Tb_ok : ∀ w ∈ zw_Tb, zw_ok w = true := fun w h => (List.mem_filter.mp h).2
theorem zw_warm {w : Cond} (hok : zw_ok w = true) {s U : State} (hW : s.WarmedH U.vm) (h : va_Nw w s) : va_Nw w U := by
  unfold zw_ok at hok
  rw [Bool.or_eq_true] at hok
  rcases hok with hg | hn
  · exact word_at hW (good_of_word hg) h
  · unfold zw_nest at hn
    split at hn
    · exact va_Nw.warmF hW h
    · exact va_Nw.warmM hW h
    · exact Cond.overAtom_setVm (args := #[]) hW.alike _ rfl h
    · exact va_tabs rfl (rfl : (s.setVm U.vm).vm = U.vm) (by rw [Cond.castable_setVm hW.alike]; exact h)
    · cases hn
theorem zw_use {w : Cond} (hok : zw_ok w = true) {s : State} {args : Array Value} (h : va_Nw w s) : w.before args s = true := by
  unfold zw_ok at hok
  rw [Bool.or_eq_true] at hok
  rcases hok with hg | hn
  · exact word_at (U := s) (State.WarmedH.refl s) (good_of_word hg) h
  · unfold zw_nest at hn
    split at hn
    · exact va_Nw.use rfl h
    · exact va_Nw.use rfl h
    · exact h
    · exact va_Nw.use rfl h
    · cases hn
abbrev zw_I : Type := Nat → Nat → Int32
abbrev zw_L : Type := Nat → Nat → Int64
/-- an object: the number of its class, its fields' kinds (0 int, 1 long, 2 the cell r, 3 null); an array: its kind (0 int, 1 long, 2 boolean, 3 int[][], 4 long[][]), its length, the number of its first row -/
abbrev zw_Sp : Type := (Nat × List (Nat × Nat)) ⊕ (Nat × Nat × Nat)
abbrev zw_Sh : Type := Nat → Option zw_Sp
def zw_up {α : Type} (f : Nat → Nat → α) (k j : Nat) (v : α) : Nat → Nat → α := fun a b => if a = k ∧ b = j then v else f a b
theorem zw_up_self {α : Type} (f : Nat → Nat → α) (k j : Nat) (v : α) : zw_up f k j v k j = v := by simp [zw_up]
theorem zw_up_ne1 {α : Type} (f : Nat → Nat → α) {k j a : Nat} (b : Nat) (v : α) (h : a ≠ k) : zw_up f k j v a b = f a b := by simp [zw_up, h]
theorem zw_up_ne2 {α : Type} (f : Nat → Nat → α) {k j b : Nat} (a : Nat) (v : α) (h : b ≠ j) : zw_up f k j v a b = f a b := by simp [zw_up, h]
theorem zw_up_row {α : Type} (f : Nat → Nat → α) {k j a : Nat} (v : α) (h : a ≠ k) : zw_up f k j v a = f a := by
  funext b
  simp [zw_up, h]
theorem zw_up_off {α : Type} (f : Nat → Nat → α) {k j a b : Nat} (v : α) (h : a ≠ k ∨ b ≠ j) : zw_up f k j v a b = f a b := by
  rcases h with h | h
  · exact zw_up_ne1 f b v h
  · exact zw_up_ne2 f a v h
def zw_fv (ad : Nat → Nat) (x : Int32) (y : Int64) (q : Nat × Nat) : Value := match q.1 with
  | 0 => .int x
  | 1 => .long y
  | 2 => .ref (ad q.2)
  | _ => .null
def zw_fs (ad : Nat → Nat) (mi : Nat → Int32) (ml : Nat → Int64) (fs : List (Nat × Nat)) : List Value := fs.mapIdx (fun j q => zw_fv ad (mi j) (ml j) q)
theorem zw_fs_get {ad : Nat → Nat} {mi : Nat → Int32} {ml : Nat → Int64} {fs : List (Nat × Nat)} {j : Nat} {q : Nat × Nat} (h : fs[j]? = some q) : (zw_fs ad mi ml fs)[j]? = some (zw_fv ad (mi j) (ml j) q) := by
  simp [zw_fs, List.getElem?_mapIdx, h]
theorem zw_fs_len {ad : Nat → Nat} {mi : Nat → Int32} {ml : Nat → Int64} {fs : List (Nat × Nat)} : (zw_fs ad mi ml fs).length = fs.length := by simp [zw_fs]
theorem zw_fs_set {ad : Nat → Nat} {mi mi' : Nat → Int32} {ml ml' : Nat → Int64} {fs : List (Nat × Nat)} {j : Nat} {q : Nat × Nat} {v : Value} (hl : j < fs.length) (hv : zw_fv ad (mi' j) (ml' j) q = v) (hm : ∀ i, i ≠ j → mi' i = mi i) (hml : ∀ i, i ≠ j → ml' i = ml i) :
    (zw_fs ad mi ml fs).set j v = zw_fs ad mi' ml' (fs.set j q) := by
  apply List.ext_getElem?
  intro i
  by_cases h : i = j
  · subst h
    rw [List.getElem?_set_self (by rw [zw_fs_len]; exact hl), zw_fs_get (List.getElem?_set_self hl), hv]
  · rw [List.getElem?_set_ne (Ne.symm h)]
    simp only [zw_fs, List.getElem?_mapIdx, List.getElem?_set_ne (Ne.symm h)]
    cases fs[i]? with
    | none => rfl
    | some x => simp [hm i h, hml i h]
def zw_av (ad : Nat → Nat) (mi : Nat → Int32) (ml : Nat → Int64) (ty base : Nat) : (Nat → Int32) ⊕ (Nat → Int64) ⊕ (Nat → UInt32) ⊕ (Nat → UInt64) ⊕ (Nat → Option Nat) := match ty with
  | 1 => .inr (.inl ml)
  | 3 => .inr (.inr (.inr (.inr (fun i => some (ad (base + i))))))
  | 4 => .inr (.inr (.inr (.inr (fun i => some (ad (base + i))))))
  | _ => .inl mi
def zw_ent (cA : Nat → ClassId) (ad : Nat → Nat) (mi : Nat → Int32) (ml : Nat → Int64) (q : zw_Sp) : va_E := match q with
  | .inl o => .inr (o.1, zw_fs ad mi ml o.2)
  | .inr a => .inl (cA a.1, a.2.1, zw_av ad mi ml a.1 a.2.2)
def zw_W (D : va_G) (cA : Nat → ClassId) (ad : Nat → Nat) (sh : zw_Sh) (mi : zw_I) (ml : zw_L) (H : Heap) : Prop := ∀ (k : Nat) (q : zw_Sp), sh k = some q → va_at D zw_cl (ad k, zw_ent cA ad (mi k) (ml k) q) H
def zw_J (ad : Nat → Nat) (sh : zw_Sh) : Prop := ∀ (j k : Nat) (p q : zw_Sp), sh j = some p → sh k = some q → ad j = ad k → j = k
/-- which cells a method may change: its world's, and those from z on -/
def zw_A (ad : Nat → Nat) (sh : zw_Sh) (z : Nat) : Nat → Prop := fun q => (∃ (k : Nat) (p : zw_Sp), sh k = some p ∧ q = ad k) ∨ z ≤ q
def zw_tys (cA : Nat → ClassId) : List (ClassId × FieldType) := [(cA 0, .int), (cA 1, .long), (cA 2, .boolean), (cA 3, .array .int), (cA 4, .array .long)]
/-- what the tables say: the classes, the array classes, every word -/
def zw_E (D : va_G) (cA : Nat → ClassId) (U : State) : Prop := va_K D zw_cl (zw_tys cA) U ∧ ∀ w ∈ zw_Tb, va_Nw w U
theorem zw_E.in {D : va_G} {cA : Nat → ClassId} {U : State} (h : zw_E D cA U) {w : Cond} (hw : w ∈ zw_Tb) : va_Nw w U := h.2 w hw
theorem zw_E.warm {D : va_G} {cA : Nat → ClassId} {s U : State} (h : zw_E D cA s) (hW : s.WarmedH U.vm) : zw_E D cA U := ⟨va_K.moved hW.alike h.1, fun w hw => zw_warm (zw_Tb_ok w hw) hW (h.2 w hw)⟩
theorem zw_E.ts {D : va_G} {cA : Nat → ClassId} {s : State} {args : Array Value} (h : zw_E D cA s) : ∀ w ∈ zw_Tb, w.before args s = true := fun w hw => zw_use (zw_Tb_ok w hw) (h.2 w hw)
/-- what stands in a method's body: the machine, the code, the class, the tables -/
def zw_C (D : va_G) (cA : Nat → ClassId) (own : String) (cc : ByteArray) (nL : Nat) (p : Program) (m : MethodId) (c : Code) (s : State) : Prop :=
  p.tables.exec = Jvm.exec ∧ c.code = cc ∧ c.maxLocals = nL ∧ s.vm.findClass own = some m.cls ∧ zw_E D cA s
/-- the world and what has changed since H0 -/
def zw_B (D : va_G) (cA : Nat → ClassId) (ad : Nat → Nat) (sh : zw_Sh) (A : Nat → Prop) (H0 : Heap) (mi : zw_I) (ml : zw_L) (z : Nat) (H : Heap) (locs : List Loc) : Prop :=
  zw_W D cA ad sh mi ml H ∧ zw_J ad sh ∧ (∀ (k : Nat) (q : zw_Sp), sh k = some q → A (ad k)) ∧ va_S A H0 H locs ∧ H.size = z ∧ ∀ q : Nat, H0.size ≤ q → A q
theorem zw_B.at {D : va_G} {cA : Nat → ClassId} {ad : Nat → Nat} {sh : zw_Sh} {A : Nat → Prop} {H0 : Heap} {mi : zw_I} {ml : zw_L} {z : Nat} {H : Heap} {locs : List Loc} (h : zw_B D cA ad sh A H0 mi ml z H locs) {k : Nat} {q : zw_Sp} (hk : sh k = some q) : va_at D zw_cl (ad k, zw_ent cA ad (mi k) (ml k) q) H := h.1 k q hk
theorem zw_B.one {D : va_G} {cA : Nat → ClassId} {ad : Nat → Nat} {sh : zw_Sh} {A : Nat → Prop} {H0 : Heap} {mi : zw_I} {ml : zw_L} {z : Nat} {H : Heap} {locs : List Loc} (h : zw_B D cA ad sh A H0 mi ml z H locs) {k : Nat} {q : zw_Sp} (hk : sh k = some q) : va_P D zw_cl [(ad k, zw_ent cA ad (mi k) (ml k) q)] H := fun i x hx => by
  have hi : i < 1 := (List.getElem?_eq_some_iff.mp hx).1
  rw [show i = 0 by omega] at hx
  cases hx
  exact h.1 k q hk
/-- one cell changes, in what it holds or in its kind -/
theorem zw_B.step {D : va_G} {cA : Nat → ClassId} {ad : Nat → Nat} {sh sh' : zw_Sh} {A : Nat → Prop} {H0 : Heap} {mi mi' : zw_I} {ml ml' : zw_L} {z : Nat} {H H1 : Heap} {locs : List Loc} (h : zw_B D cA ad sh A H0 mi ml z H locs) {k i : Nat} {q q' : zw_Sp} (hk : sh k = some q) (hs : sh' k = some q') (hs' : ∀ i, i ≠ k → sh' i = sh i)
    (hm : ∀ i, i ≠ k → mi' i = mi i) (hml : ∀ i, i ≠ k → ml' i = ml i) (he : va_at D zw_cl (ad k, zw_ent cA ad (mi' k) (ml' k) q') H1) (hz : H1.size = H.size) (ho : ∀ a : Nat, a ≠ ad k → H1[a]? = H[a]?) : zw_B D cA ad sh' A H0 mi' ml' z H1 (locs ++ [⟨ad k, i⟩]) := by
  obtain ⟨hW, hJ, hA, hS, hsz, hT⟩ := h
  have back : ∀ (j : Nat) (p : zw_Sp), sh' j = some p → ∃ p', sh j = some p' := fun j p hp => by
    by_cases e : j = k
    · exact ⟨q, by rw [e]; exact hk⟩
    · exact ⟨p, by rw [← hs' j e]; exact hp⟩
  refine ⟨fun j p hp => ?_, fun a b x y ha hb e => ?_, fun j p hp => ?_, hS.put hz ho (hA k q hk), hz.trans hsz, hT⟩
  · by_cases e : j = k
    · subst e
      cases hs.symm.trans hp
      exact he
    · have hp' := (hs' j e).symm.trans hp
      rw [hm j e, hml j e]
      exact (hW j p hp').kept (ho _ (fun h => e (hJ j k p q hp' hk h)))
  · obtain ⟨x', hx'⟩ := back a x ha
    obtain ⟨y', hy'⟩ := back b y hb
    exact hJ a b x' y' hx' hy' e
  · obtain ⟨p', hp'⟩ := back j p hp
    exact hA j p' hp'
/-- a new cell, at the end of the heap -/
theorem zw_B.grow {D : va_G} {cA : Nat → ClassId} {ad : Nat → Nat} {sh sh' : zw_Sh} {A : Nat → Prop} {H0 : Heap} {mi : zw_I} {ml : zw_L} {z : Nat} {H H1 : Heap} {locs : List Loc} (h : zw_B D cA ad sh A H0 mi ml z H locs) {k : Nat} {q : zw_Sp} (hk : ad k = z) (hs : sh' k = some q) (hs' : ∀ i, i ≠ k → sh' i = sh i)
    (he : va_at D zw_cl (ad k, zw_ent cA ad (mi k) (ml k) q) H1) (hz : H1.size = z + 1) (ho : ∀ a : Nat, a < z → H1[a]? = H[a]?) : zw_B D cA ad sh' A H0 mi ml (z + 1) H1 locs := by
  obtain ⟨hW, hJ, hA, hS, hsz, hT⟩ := h
  have lt : ∀ (j : Nat) (p : zw_Sp), sh j = some p → ad j < z := fun j p hp => by rw [← hsz]; exact (hW j p hp).lt
  have hAk : A (ad k) := hT _ (by rw [hk, ← hsz]; exact hS.1)
  refine ⟨fun j p hp => ?_, fun a b x y ha hb e => ?_, fun j p hp => ?_, ⟨by rw [hz, ← hsz]; exact Nat.le_succ_of_le hS.1, fun a h1 h2 => (ho a (by rw [← hsz]; exact Nat.lt_of_lt_of_le h1 hS.1)).trans (hS.2.1 a h1 h2), hS.2.2⟩, hz, hT⟩
  · by_cases e : j = k
    · subst e
      cases hs.symm.trans hp
      exact he
    · have hp' := (hs' j e).symm.trans hp
      exact (hW j p hp').kept (ho _ (lt j p hp'))
  · by_cases ea : a = k <;> by_cases eb : b = k
    · rw [ea, eb]
    · have := lt b y ((hs' b eb).symm.trans hb)
      rw [ea, hk] at e
      omega
    · have := lt a x ((hs' a ea).symm.trans ha)
      rw [eb, hk] at e
      omega
    · exact hJ a b x y ((hs' a ea).symm.trans ha) ((hs' b eb).symm.trans hb) e
  · by_cases e : j = k
    · rw [e]; exact hAk
    · exact hA j p ((hs' j e).symm.trans hp)
/-- cells elsewhere are made: the world stays -/
theorem zw_B.more {D : va_G} {cA : Nat → ClassId} {ad : Nat → Nat} {sh : zw_Sh} {A : Nat → Prop} {H0 : Heap} {mi : zw_I} {ml : zw_L} {z z' : Nat} {H H1 : Heap} {locs : List Loc} (h : zw_B D cA ad sh A H0 mi ml z H locs) (hz : H1.size = z') (hle : z ≤ z') (ho : ∀ a : Nat, a < z → H1[a]? = H[a]?) : zw_B D cA ad sh A H0 mi ml z' H1 locs := by
  obtain ⟨hW, hJ, hA, hS, hsz, hT⟩ := h
  refine ⟨fun j p hp => (hW j p hp).kept (ho _ (by rw [← hsz]; exact (hW j p hp).lt)), hJ, hA, ⟨Nat.le_trans hS.1 (by rw [hz, hsz]; exact hle), fun a h1 h2 => (ho a (by rw [← hsz]; exact Nat.lt_of_lt_of_le h1 hS.1)).trans (hS.2.1 a h1 h2), hS.2.2⟩, hz, hT⟩
/-- the kinds only matter where they stand -/
theorem zw_B.kinds {D : va_G} {cA : Nat → ClassId} {ad : Nat → Nat} {sh sh' : zw_Sh} {A : Nat → Prop} {H0 : Heap} {mi : zw_I} {ml : zw_L} {z : Nat} {H : Heap} {locs : List Loc} (h : zw_B D cA ad sh A H0 mi ml z H locs) (hs : ∀ (k : Nat) (q : zw_Sp), sh' k = some q → sh k = some q) : zw_B D cA ad sh' A H0 mi ml z H locs :=
  ⟨fun j p hp => h.1 j p (hs j p hp), fun a b x y ha hb e => h.2.1 a b x y (hs a x ha) (hs b y hb) e, fun j p hp => h.2.2.1 j p (hs j p hp), h.2.2.2⟩
/-- a field as an instruction names it: pool index of the class 'own'; it is field j of class number ci -/
def zw_FL (own : String) (index ci j : Nat) : Prop := ∃ (C : String) (T : u_T) (N : Nat), zw_cl[ci]? = some (C, T, N) ∧ j < N ∧ (∀ w ∈ u_ws C T N, w ∈ zw_Tb) ∧ (Cond.fieldLink own index (T j).1 (T j).2.1 (T j).2.2.1 ∈ zw_Tb ∨ ∃ host : String, Cond.fieldLinkNest own index (T j).1 (T j).2.1 (T j).2.2.1 host ∈ zw_Tb)
/-- .. and what a write needs -/
def zw_FP (own : String) (index ci j : Nat) (ty : FieldType) (fin : Bool) : Prop := ∃ (C : String) (T : u_T) (N : Nat) (ty0 : Nat → FieldType), zw_cl[ci]? = some (C, T, N) ∧ j < N ∧ (∀ w ∈ u_ws C T N, w ∈ zw_Tb) ∧ (∀ k, k < N → parseFieldDescriptor (T k).2.2.1 = some (ty0 k)) ∧ ty0 j = ty ∧ (∀ a, a < N → ∀ b, b < N → a ≠ b → (T a).2.1 ≠ (T b).2.1) ∧ (T j).2.2.2 = fin ∧
  ((Cond.fieldLink own index (T j).1 (T j).2.1 (T j).2.2.1 ∈ zw_Tb ∧ (fin = true → (T j).1 = own)) ∨ (fin = false ∧ ∃ host : String, Cond.fieldLinkNest own index (T j).1 (T j).2.1 (T j).2.2.1 host ∈ zw_Tb))
section ZW
variable {p : Program} {l : Launch} {e : Env} {R : Room} {s : State} {m : MethodId} {args : Array Value} {below : List Frame} {meth : Method} {c : Code} {H : Heap} {locs : List Loc} {cells slots : Nat} {Q : State → Prop}
variable {cc : ByteArray} {pc nL : Nat} {ls : Array Slot} {rest : List Value} {D : va_G} {cA : Nat → ClassId} {own : String} {ad : Nat → Nat} {sh sh' : zw_Sh} {A : Nat → Prop} {H0 : Heap} {mi mi' : zw_I} {ml ml' : zw_L} {z : Nat}
theorem zw_get (X : zw_C D cA own cc nL p m c s) (hB : zw_B D cA ad sh A H0 mi ml z H locs) {index ci j : Nat} (F : zw_FL own index ci j) (k : Nat) {fs : List (Nat × Nat)} (hk : sh k = some (.inl (ci, fs))) {q : Nat × Nat} (hj : fs[j]? = some q) {v : Value} (hv : zw_fv ad (mi k j) (ml k j) q = v) (hdg : decode cc pc = .ok (.getfield index, 3))
    (kk : W p l e R s m args below meth c H locs cells slots Q (F0 m (pc + 3) ls (v :: rest))) : W p l e R s m args below meth c H locs cells slots Q (F0 m pc ls (.ref (ad k) :: rest)) := by
  obtain ⟨hx, hb, -, hown, hE⟩ := X
  obtain ⟨C, T, N, hc, hjN, hlay, hlink⟩ := F
  have hP := hB.one hk
  have hv' : (zw_fs ad (mi k) (ml k) fs)[j]? = some v := by rw [zw_fs_get hj, hv]
  have hts : ∀ w ∈ zw_Tb, w.before args s = true := hE.ts
  rcases hlink with h | ⟨host, h⟩
  · exact va_get hx hb hts hlay hown hE.1 hP 0 rfl hc j hjN (hts _ h) (fun _ h9 => h9) hv' hdg kk
  · exact va_getN hx hb hts hlay hown hE.1 hP 0 rfl hc j hjN (hts _ h) (fun _ h9 => h9) hv' hdg kk
theorem zw_put (X : zw_C D cA own cc nL p m c s) (hB : zw_B D cA ad sh A H0 mi ml z H locs) {index ci j : Nat} {ty : FieldType} {fin : Bool} (F : zw_FP own index ci j ty fin) (hin : fin = true → meth.name = "<init>") (k : Nat) {fs : List (Nat × Nat)} (hk : sh k = some (.inl (ci, fs))) (hl : j < fs.length) {v : Value} (hn : narrow ty v = v) (hfit : fits ty v = true)
    {q' : Nat × Nat} (hv : zw_fv ad (mi' k j) (ml' k j) q' = v) (hm : ∀ a b, a ≠ k ∨ b ≠ j → mi' a b = mi a b) (hml : ∀ a b, a ≠ k ∨ b ≠ j → ml' a b = ml a b) (hs : sh' k = some (.inl (ci, fs.set j q'))) (hs' : ∀ i, i ≠ k → sh' i = sh i) (hdg : decode cc pc = .ok (.putfield index, 3))
    (kk : ∀ (H1 : Heap) (locs1 : List Loc), zw_B D cA ad sh' A H0 mi' ml' z H1 locs1 → W p l e R s m args below meth c H1 locs1 cells slots Q (F0 m (pc + 3) ls rest)) : W p l e R s m args below meth c H locs cells slots Q (F0 m pc ls (v :: .ref (ad k) :: rest)) := by
  obtain ⟨hx, hb, -, hown, hE⟩ := X
  obtain ⟨C, T, N, ty0, hc, hjN, hlay, hty, htj, hnm, hfin, hlink⟩ := F
  have hts : ∀ w ∈ zw_Tb, w.before args s = true := hE.ts
  have hap := va_apart (own := own) (D := D) (cl := zw_cl) (tys := zw_tys cA) (ci := ci) hts hlay ty0 hty hnm hE.1 hc
  have hd : parseFieldDescriptor (T j).2.2.1 = some ty := by rw [← htj]; exact hty j hjN
  obtain ⟨r, h1, cell, q1, q2, q3, q4⟩ := hB.at hk
  have hr : r = (C, T, N) := Option.some.inj (h1.symm.trans hc)
  subst hr
  obtain ⟨hS, hfc, kC, hkC, hkind⟩ := hE.1.1 ci _ hc
  obtain ⟨cf, kf, fi, f, hi, hsl⟩ := hS j hjN
  have hlj := hts _ (hlay _ (u_in_lay hjN))
  have hst := (u_facts hfc hkC (u_lays hts hlay hjN) hi).1
  have hlt : f.slot < cell.slots.size := by rw [hsl]; exact k2_hasslot (q4 j hjN)
  have fin' : ∀ H' : Heap, H'[ad k]? = some (cell.setSlot f.slot v) → H'.size = H.size → (∀ q, q ≠ ad k → H'[q]? = H[q]?) → zw_B D cA ad sh' A H0 mi' ml' z H' (locs ++ [⟨ad k, f.slot⟩]) := fun H' e1 e2 e3 => by
    rw [hsl] at e1 ⊢
    refine hB.step hk hs hs' (fun i hi => funext fun b => hm i b (Or.inl hi)) (fun i hi => funext fun b => hml i b (Or.inl hi)) ?_ e2 e3
    have e4 := zw_fs_set (ad := ad) (mi := mi k) (mi' := mi' k) (ml := ml k) (ml' := ml' k) hl hv (fun i hi => hm k i (Or.inr hi)) (fun i hi => hml k i (Or.inr hi))
    show va_at D zw_cl (ad k, .inr (ci, zw_fs ad (mi' k) (ml' k) (fs.set j q'))) H'
    rw [← e4]
    exact ⟨_, hc, t_OB.to (V := updV (vp_V (zw_fs ad (mi k) (ml k) fs)) j v) ⟨_, e1, q2, q3, t_set q4 hap hjN v⟩ (fun i _ => vp_updV_set (by rw [zw_fs_len]; exact hl) v i)⟩
  rcases hlink with ⟨h, hdecl⟩ | ⟨h0, host, h⟩
  · cases fin with
    | false =>
      unfold u_lay at hlj
      rw [if_neg (by rw [hfin]; decide)] at hlj
      have h6 := u_store hfc hkC hkind hlj hi hd hn hfit
      exact W.putK hx hb (f := f) ⟨hown, hts _ h, ⟨_, _, _, hi⟩, hst⟩ (by rw [q2]; exact h6) q1 q3 hlt rfl rfl hdg fun H' e1 e2 e3 => kk H' _ (fin' H' e1 e2 e3)
    | true =>
      unfold u_lay at hlj
      rw [if_pos hfin] at hlj
      have hcf : m.cls = cf := by
        obtain ⟨_, _, c', _, _, _, -, -, hf', -, -, -, hown2, -⟩ := Cond.laysFinal_spec hlj
        have e1 : c' = cf := by have := hi.symm.trans hf'; simp at this; exact this.1.symm
        rw [hdecl rfl] at hown2
        rw [← e1]; exact Option.some.inj (hown.symm.trans hown2)
      have h6 := u_fits hfc hkC hkind (Or.inr hlj) hi hd hn hfit
      exact W.putFinK hx hb hown (hts _ h) hi hst hcf (hin rfl) (by rw [q2]; exact h6) q1 q3 hlt rfl rfl hdg fun H' e1 e2 e3 => kk H' _ (fin' H' e1 e2 e3)
  · subst h0
    unfold u_lay at hlj
    rw [if_neg (by rw [hfin]; decide)] at hlj
    have h6 := u_store hfc hkC hkind hlj hi hd hn hfit
    exact va_WputK hx hb (f := f) hown (hts _ h) hi hst (by rw [q2]; exact h6) q1 q3 hlt rfl rfl hdg fun H' e1 e2 e3 => kk H' _ (fin' H' e1 e2 e3)
/-- an int field is written -/
theorem zw_putI (X : zw_C D cA own cc nL p m c s) (hB : zw_B D cA ad sh A H0 mi ml z H locs) {index ci j : Nat} {fin : Bool} (F : zw_FP own index ci j .int fin) (hin : fin = true → meth.name = "<init>") (k : Nat) {fs : List (Nat × Nat)} (hk : sh k = some (.inl (ci, fs))) {r : Nat} (hj : fs[j]? = some (0, r)) {x : Int32} (hdg : decode cc pc = .ok (.putfield index, 3))
    (kk : ∀ (H1 : Heap) (locs1 : List Loc), zw_B D cA ad sh A H0 (zw_up mi k j x) ml z H1 locs1 → W p l e R s m args below meth c H1 locs1 cells slots Q (F0 m (pc + 3) ls rest)) : W p l e R s m args below meth c H locs cells slots Q (F0 m pc ls (.int x :: .ref (ad k) :: rest)) := by
  have hl : j < fs.length := (List.getElem?_eq_some_iff.mp hj).1
  have he : fs.set j (0, r) = fs := by
    apply List.ext_getElem?
    intro i
    by_cases h : i = j
    · subst h
      rw [List.getElem?_set_self hl, hj]
    · rw [List.getElem?_set_ne (Ne.symm h)]
  exact zw_put X hB F hin k hk hl rfl rfl (q' := (0, r)) (by show Value.int (zw_up mi k j x k j) = _; rw [zw_up_self]) (fun a b h => zw_up_off mi x h) (fun _ _ _ => rfl) (by rw [he]; exact hk) (fun _ _ => rfl) hdg kk
theorem zw_iald (X : zw_C D cA own cc nL p m c s) (hB : zw_B D cA ad sh A H0 mi ml z H locs) (k : Nat) {n b : Nat} (hk : sh k = some (.inr (0, n, b))) {x : Int32} (hin : vp_in x n) (hdg : decode cc pc = .ok (.iaload, 1))
    (kk : W p l e R s m args below meth c H locs cells slots Q (F0 m (pc + 1) ls (.int (mi k x.toNatClampNeg) :: rest))) : W p l e R s m args below meth c H locs cells slots Q (F0 m pc ls (.int x :: .ref (ad k) :: rest)) :=
  va_iald X.1 X.2.1 X.2.2.2.2.1 (hB.one hk) 0 0 rfl rfl hin hdg kk
theorem zw_zald (X : zw_C D cA own cc nL p m c s) (hB : zw_B D cA ad sh A H0 mi ml z H locs) (k : Nat) {n b : Nat} (hk : sh k = some (.inr (2, n, b))) {x : Int32} (hin : vp_in x n) (hdg : decode cc pc = .ok (.baload, 1))
    (kk : W p l e R s m args below meth c H locs cells slots Q (F0 m (pc + 1) ls (.int (mi k x.toNatClampNeg) :: rest))) : W p l e R s m args below meth c H locs cells slots Q (F0 m pc ls (.int x :: .ref (ad k) :: rest)) :=
  va_zald X.1 X.2.1 X.2.2.2.2.1 (hB.one hk) 0 2 rfl rfl hin hdg kk
theorem zw_lald (X : zw_C D cA own cc nL p m c s) (hB : zw_B D cA ad sh A H0 mi ml z H locs) (k : Nat) {n b : Nat} (hk : sh k = some (.inr (1, n, b))) {x : Int32} (hin : vp_in x n) (hdg : decode cc pc = .ok (.laload, 1))
    (kk : W p l e R s m args below meth c H locs cells slots Q (F0 m (pc + 1) ls (.long (ml k x.toNatClampNeg) :: rest))) : W p l e R s m args below meth c H locs cells slots Q (F0 m pc ls (.int x :: .ref (ad k) :: rest)) :=
  va_lald X.1 X.2.1 X.2.2.2.2.1 (hB.one hk) 0 1 rfl rfl hin hdg kk
/-- a row of a grid: kind 3 (ints) or 4 (longs) -/
theorem zw_aald (X : zw_C D cA own cc nL p m c s) (hB : zw_B D cA ad sh A H0 mi ml z H locs) (k : Nat) {ty n b : Nat} (hty : ty = 3 ∨ ty = 4) (hk : sh k = some (.inr (ty, n, b))) {x : Int32} (hin : vp_in x n) (hdg : decode cc pc = .ok (.aaload, 1))
    (kk : W p l e R s m args below meth c H locs cells slots Q (F0 m (pc + 1) ls (.ref (ad (b + x.toNatClampNeg)) :: rest))) : W p l e R s m args below meth c H locs cells slots Q (F0 m pc ls (.int x :: .ref (ad k) :: rest)) := by
  have hlt : x.toNatClampNeg < n := Nat.not_le.mp fun q => hin (Or.inr q)
  have hc := hB.at hk
  obtain ⟨hx, hb, -, -, hE⟩ := X
  rcases hty with rfl | rfl
  · have hc' : H[ad k]? = some (arrV (cA 3) n (fun j => va_rf (some (ad (b + j))))) := hc
    exact W.aald (v := .ref (ad (b + x.toNatClampNeg))) hx hb hc' ((hE.1.2 3 (cA 3, .array .int) rfl).1 n _) rfl (fun q => by cases q) (by rw [arrV_size]; exact hin) (by rw [arrV_read _ _ hlt]; rfl) rfl rfl hdg kk
  · have hc' : H[ad k]? = some (arrV (cA 4) n (fun j => va_rf (some (ad (b + j))))) := hc
    exact W.aald (v := .ref (ad (b + x.toNatClampNeg))) hx hb hc' ((hE.1.2 4 (cA 4, .array .long) rfl).1 n _) rfl (fun q => by cases q) (by rw [arrV_size]; exact hin) (by rw [arrV_read _ _ hlt]; rfl) rfl rfl hdg kk
theorem zw_alen (X : zw_C D cA own cc nL p m c s) (hB : zw_B D cA ad sh A H0 mi ml z H locs) (k : Nat) {ty n b : Nat} (hty : ty < 5) (hk : sh k = some (.inr (ty, n, b))) (hdg : decode cc pc = .ok (.arraylength, 1))
    (kk : W p l e R s m args below meth c H locs cells slots Q (F0 m (pc + 1) ls (.int (nI n) :: rest))) : W p l e R s m args below meth c H locs cells slots Q (F0 m pc ls (.ref (ad k) :: rest)) := by
  have h : ∃ t : FieldType, (zw_tys cA)[ty]? = some (cA ty, t) := by
    match ty, hty with
    | 0, _ => exact ⟨_, rfl⟩
    | 1, _ => exact ⟨_, rfl⟩
    | 2, _ => exact ⟨_, rfl⟩
    | 3, _ => exact ⟨_, rfl⟩
    | 4, _ => exact ⟨_, rfl⟩
    | n + 5, h => omega
  obtain ⟨t, ht⟩ := h
  exact va_alen (v := nI n) X.1 X.2.1 X.2.2.2.2.1 (hB.one hk) 0 ty rfl ht rfl hdg kk
theorem zw_iast (X : zw_C D cA own cc nL p m c s) (hB : zw_B D cA ad sh A H0 mi ml z H locs) (k : Nat) {n b : Nat} (hk : sh k = some (.inr (0, n, b))) {x y : Int32} (hin : vp_in x n) (hdg : decode cc pc = .ok (.iastore, 1))
    (kk : ∀ (H1 : Heap) (locs1 : List Loc), zw_B D cA ad sh A H0 (zw_up mi k x.toNatClampNeg y) ml z H1 locs1 → W p l e R s m args below meth c H1 locs1 cells slots Q (F0 m (pc + 1) ls rest)) : W p l e R s m args below meth c H locs cells slots Q (F0 m pc ls (.int y :: .int x :: .ref (ad k) :: rest)) := by
  have hc : H[ad k]? = some (arrV (cA 0) n (fun j => .int (mi k j))) := hB.at hk
  obtain ⟨hx, hb, -, -, hE⟩ := X
  refine W.iast hx hb hc ((hE.1.2 0 (cA 0, .int) rfl).1 n _) (fun q => by cases q) (by rw [arrV_size]; exact hin) rfl rfl hdg fun H1 e1 e2 e3 => kk H1 _ ?_
  refine hB.step hk hk (fun _ _ => rfl) (fun i hi => zw_up_row mi y hi) (fun _ _ => rfl) ?_ e2 e3
  show H1[ad k]? = some (arrV (cA 0) n (fun j => .int (zw_up mi k x.toNatClampNeg y k j)))
  rw [e1, arrV_store]
  refine congrArg (fun f => some (arrV (cA 0) n f)) (funext fun j => ?_)
  simp only [updV, zw_up, true_and]
  split <;> rfl
theorem zw_last (X : zw_C D cA own cc nL p m c s) (hB : zw_B D cA ad sh A H0 mi ml z H locs) (k : Nat) {n b : Nat} (hk : sh k = some (.inr (1, n, b))) {x : Int32} {y : Int64} (hin : vp_in x n) (hdg : decode cc pc = .ok (.lastore, 1))
    (kk : ∀ (H1 : Heap) (locs1 : List Loc), zw_B D cA ad sh A H0 mi (zw_up ml k x.toNatClampNeg y) z H1 locs1 → W p l e R s m args below meth c H1 locs1 cells slots Q (F0 m (pc + 1) ls rest)) : W p l e R s m args below meth c H locs cells slots Q (F0 m pc ls (.long y :: .int x :: .ref (ad k) :: rest)) := by
  have hc : H[ad k]? = some (arrV (cA 1) n (fun j => .long (ml k j))) := hB.at hk
  obtain ⟨hx, hb, -, -, hE⟩ := X
  refine W.last hx hb hc ((hE.1.2 1 (cA 1, .long) rfl).1 n _) (fun q => by cases q) (by rw [arrV_size]; exact hin) rfl rfl hdg fun H1 e1 e2 e3 => kk H1 _ ?_
  refine hB.step hk hk (fun _ _ => rfl) (fun _ _ => rfl) (fun i hi => zw_up_row ml y hi) ?_ e2 e3
  show H1[ad k]? = some (arrV (cA 1) n (fun j => .long (zw_up ml k x.toNatClampNeg y k j)))
  rw [e1, arrV_store]
  refine congrArg (fun f => some (arrV (cA 1) n f)) (funext fun j => ?_)
  simp only [updV, zw_up, true_and]
  split <;> rfl
theorem zw_getI (X : zw_C D cA own cc nL p m c s) (hB : zw_B D cA ad sh A H0 mi ml z H locs) {index ci j : Nat} (F : zw_FL own index ci j) (k : Nat) {fs : List (Nat × Nat)} (hk : sh k = some (.inl (ci, fs))) {r : Nat} (hj : fs[j]? = some (0, r)) (hdg : decode cc pc = .ok (.getfield index, 3))
    (kk : W p l e R s m args below meth c H locs cells slots Q (F0 m (pc + 3) ls (.int (mi k j) :: rest))) : W p l e R s m args below meth c H locs cells slots Q (F0 m pc ls (.ref (ad k) :: rest)) := zw_get X hB F k hk hj rfl hdg kk
theorem zw_getL (X : zw_C D cA own cc nL p m c s) (hB : zw_B D cA ad sh A H0 mi ml z H locs) {index ci j : Nat} (F : zw_FL own index ci j) (k : Nat) {fs : List (Nat × Nat)} (hk : sh k = some (.inl (ci, fs))) {r : Nat} (hj : fs[j]? = some (1, r)) (hdg : decode cc pc = .ok (.getfield index, 3))
    (kk : W p l e R s m args below meth c H locs cells slots Q (F0 m (pc + 3) ls (.long (ml k j) :: rest))) : W p l e R s m args below meth c H locs cells slots Q (F0 m pc ls (.ref (ad k) :: rest)) := zw_get X hB F k hk hj rfl hdg kk
theorem zw_getR (X : zw_C D cA own cc nL p m c s) (hB : zw_B D cA ad sh A H0 mi ml z H locs) {index ci j : Nat} (F : zw_FL own index ci j) (k : Nat) {fs : List (Nat × Nat)} (hk : sh k = some (.inl (ci, fs))) {r : Nat} (hj : fs[j]? = some (2, r)) (hdg : decode cc pc = .ok (.getfield index, 3))
    (kk : W p l e R s m args below meth c H locs cells slots Q (F0 m (pc + 3) ls (.ref (ad r) :: rest))) : W p l e R s m args below meth c H locs cells slots Q (F0 m pc ls (.ref (ad k) :: rest)) := zw_get X hB F k hk hj rfl hdg kk
theorem zw_zast (X : zw_C D cA own cc nL p m c s) (hB : zw_B D cA ad sh A H0 mi ml z H locs) (k : Nat) {n b : Nat} (hk : sh k = some (.inr (2, n, b))) {x y : Int32} (hy : narrow .boolean (.int y) = .int y) (hin : vp_in x n) (hdg : decode cc pc = .ok (.bastore, 1))
    (kk : ∀ (H1 : Heap) (locs1 : List Loc), zw_B D cA ad sh A H0 (zw_up mi k x.toNatClampNeg y) ml z H1 locs1 → W p l e R s m args below meth c H1 locs1 cells slots Q (F0 m (pc + 1) ls rest)) : W p l e R s m args below meth c H locs cells slots Q (F0 m pc ls (.int y :: .int x :: .ref (ad k) :: rest)) := by
  have hc : H[ad k]? = some (arrV (cA 2) n (fun j => .int (mi k j))) := hB.at hk
  obtain ⟨hx, hb, -, -, hE⟩ := X
  refine W.zast hx hb hc ((hE.1.2 2 (cA 2, .boolean) rfl).1 n _) (fun q => by cases q) (by rw [arrV_size]; exact hin) rfl rfl hdg fun H1 e1 e2 e3 => kk H1 _ ?_
  refine hB.step hk hk (fun _ _ => rfl) (fun i hi => zw_up_row mi y hi) (fun _ _ => rfl) ?_ e2 e3
  show H1[ad k]? = some (arrV (cA 2) n (fun j => .int (zw_up mi k x.toNatClampNeg y k j)))
  rw [e1, hy, arrV_store]
  refine congrArg (fun f => some (arrV (cA 2) n f)) (funext fun j => ?_)
  simp only [updV, zw_up, true_and]
  split <;> rfl
end ZW
end
section
/-! CONTRACTS over the world: a method is a function on (mi, ml): given arguments av it returns rv and leaves mi1, ml1, the kinds sh', the heap's size z1. d: how deep it calls. -/
abbrev zc_Y : Type := MethodName × ByteArray × Nat × Option FieldType
def zc_P (D : va_G) (cA : Nat → ClassId) (ad : Nat → Nat) (sh : zw_Sh) (mi : zw_I) (ml : zw_L) (z : Nat) (av : List Value) : Array Value → State → Prop := fun v U => v = av.toArray ∧ zw_E D cA U ∧ zw_W D cA ad sh mi ml U.heap ∧ zw_J ad sh ∧ U.heap.size = z
def zc_Q (D : va_G) (cA : Nat → ClassId) (ad : Nat → Nat) (sh sh' : zw_Sh) (z : Nat) (rv : Option Value) (mi1 : zw_I) (ml1 : zw_L) (z1 : Nat) : Array Value → State → Outcome → State → Prop := fun _ st oc t =>
  oc = .returned rv ∧ zw_W D cA ad sh' mi1 ml1 t.heap ∧ zw_J ad sh' ∧ (∀ (k : Nat) (q : zw_Sp), sh' k = some q → zw_A ad sh z (ad k)) ∧ t.heap.size = z1 ∧ va_F (zw_A ad sh z) st t
def zc_R (d mc ms : Nat) : Room := { frames := d, cells := mc, slots := ms, locals := 40 * d }
def zc_M (l : Launch) (D : va_G) (cA : Nat → ClassId) (Y : zc_Y) (d mc ms : Nat) (ad : Nat → Nat) (sh sh' : zw_Sh) (z : Nat) (av : List Value) (mi : zw_I) (ml : zw_L) (rv : Option Value) (mi1 : zw_I) (ml1 : zw_L) (z1 : Nat) : Prop :=
  Met l Y.1 [Cond.code Y.1 Y.2.1 Y.2.2.1 Y.2.2.2] (zc_R d mc ms) (zc_P D cA ad sh mi ml z av) (zc_Q D cA ad sh sh' z rv mi1 ml1 z1) mc ms (zw_A ad sh z)
theorem zc_blind {D : va_G} {cA : Nat → ClassId} {ad : Nat → Nat} {sh : zw_Sh} {mi : zw_I} {ml : zw_L} {z : Nat} {av : List Value} : FrameBlind (zc_P D cA ad sh mi ml z av) := fun a U g mk q => ⟨q.1, q.2.1.warm (U := U.calling g mk a) (State.WarmedH.refl U), q.2.2.1, q.2.2.2.1, q.2.2.2.2⟩
/-- what a call by its name needs: n arguments -/
def zw_MV (own : String) (index : Nat) (Y : zc_Y) (C : String) (n : Nat) : Prop := (Cond.methodLink own index Y.1 ∈ zw_Tb ∨ ∃ host : String, Cond.methodLinkNest own index Y.1 host ∈ zw_Tb) ∧ Cond.instanceMethod Y.1 ∈ zw_Tb ∧ Cond.selects C Y.1 Y.1 ∈ zw_Tb ∧ Cond.code Y.1 Y.2.1 Y.2.2.1 Y.2.2.2 ∈ zw_Tb ∧ Cond.initialized Y.1.cls ∈ zw_Tb ∧
  (Y.1.cls ≠ "java/lang/invoke/MethodHandle" ∧ Y.1.cls ≠ "java/lang/invoke/VarHandle") ∧ (parseMethodDescriptor Y.1.desc).map (fun d => d.parameters.length) = some n
def zw_MS (own : String) (index : Nat) (Y : zc_Y) (n : Nat) : Prop := (Cond.methodLink own index Y.1 ∈ zw_Tb ∨ ∃ host : String, Cond.methodLinkNest own index Y.1 host ∈ zw_Tb) ∧ Cond.static Y.1 ∈ zw_Tb ∧ Cond.code Y.1 Y.2.1 Y.2.2.1 Y.2.2.2 ∈ zw_Tb ∧ Cond.initialized Y.1.cls ∈ zw_Tb ∧
  (Y.1.cls ≠ "java/lang/invoke/MethodHandle" ∧ Y.1.cls ≠ "java/lang/invoke/VarHandle") ∧ (parseMethodDescriptor Y.1.desc).map (fun d => d.parameters.length) = some n
def zw_MI (own : String) (index : Nat) (Y : zc_Y) (n : Nat) : Prop := Y.1.name = "<init>" ∧ Y.2.2.2 = none ∧ (Cond.methodLink own index Y.1 ∈ zw_Tb ∨ ∃ host : String, Cond.methodLinkNest own index Y.1 host ∈ zw_Tb) ∧ Cond.instanceMethod Y.1 ∈ zw_Tb ∧ Cond.code Y.1 Y.2.1 Y.2.2.1 none ∈ zw_Tb ∧ Cond.initialized Y.1.cls ∈ zw_Tb ∧
  (Y.1.cls ≠ "java/lang/invoke/MethodHandle" ∧ Y.1.cls ≠ "java/lang/invoke/VarHandle") ∧ (parseMethodDescriptor Y.1.desc).map (fun d => d.parameters.length) = some n
theorem zw_len {y : MethodName} {n : Nat} (h : (parseMethodDescriptor y.desc).map (fun d => d.parameters.length) = some n) : ∀ sig, parseMethodDescriptor y.desc = some sig → n = sig.parameters.length := fun sig hs => by
  rw [hs] at h
  exact (Option.some.inj h).symm
section ZC
variable {p : Program} {l : Launch} {e : Env} {R : Room} {s : State} {m : MethodId} {args : Array Value} {below : List Frame} {meth : Method} {c : Code} {H : Heap} {locs : List Loc} {cells slots : Nat} {Q : State → Prop}
variable {cc : ByteArray} {pc nL : Nat} {ls : Array Slot} {rest st0 : List Value} {D : va_G} {cA : Nat → ClassId} {own : String} {ad : Nat → Nat} {sh sh' : zw_Sh} {A : Nat → Prop} {H0 : Heap} {mi mi1 mi' : zw_I} {ml ml1 ml' : zw_L} {z z1 d mc ms : Nat} {av As : List Value} {rv : Option Value} {Y : zc_Y}
/-- a contract out of a walk of the body -/
theorem zc_enter (hy : plainName Y.1.cls = true) (hown : Y.1.cls = own) (hnl : (lg_sl av).length ≤ Y.2.2.1)
    (body : ∀ (p : Program) (e : Env) (s : State) (m : MethodId) (below : List Frame) (meth : Method) (c : Code), zw_C D cA own Y.2.1 Y.2.2.1 p m c s → meth.sig.returnType = Y.2.2.2 → meth.locks = false → meth.name = Y.1.name → zw_B D cA ad sh (zw_A ad sh z) s.heap mi ml z s.heap [] →
      ∀ ls : Array Slot, lv_has ls Y.2.2.1 (lv_args 0 av) → W p l e (zc_R d mc ms) s m av.toArray below meth c s.heap [] 0 0 (MQ below (zc_Q D cA ad sh sh' z rv mi1 ml1 z1) av.toArray s mc ms (zw_A ad sh z)) (F0 m 0 ls [])) :
    zc_M l D cA Y d mc ms ad sh sh' z av mi ml rv mi1 ml1 z1 := by
  refine Met.ofW (cc := Y.2.1) (maxL := Y.2.2.1) (ret := Y.2.2.2) hy rfl ?_
  intro p e s m args below meth c s₁ B hml hv
  obtain ⟨rfl, hE, hW, hJ, hz⟩ := hv
  have hown' : s.vm.findClass own = some m.cls := by rw [← hown]; exact findClass_of_methodNamed B.named
  rw [lg_entry_eq]
  exact body p e s m below meth c ⟨B.exec, B.bytes, hml, hown', hE⟩ B.returns B.notSynchronized (name_of_methodNamed B.named B.method).1 ⟨hW, hJ, fun k q hk => Or.inl ⟨k, q, hk, rfl⟩, va_S.rf, hz, fun q h => Or.inr (by rw [← hz]; exact h)⟩ _ (lv_entry av hnl)
theorem zc_end {t : State} {oc : Outcome} (hB : zw_B D cA ad sh' (zw_A ad sh z) s.heap mi1 ml1 z1 H locs) (ho : oc = .returned rv) (ht : t.heap = H) (a : Array Value) : zc_Q D cA ad sh sh' z rv mi1 ml1 z1 a s oc t :=
  ⟨ho, by rw [ht]; exact hB.1, hB.2.1, hB.2.2.1, by rw [ht]; exact hB.2.2.2.2.1, hB.2.2.2.1.F ht⟩
theorem zc_iret (X : zw_C D cA own cc nL p m c s) (hr : meth.sig.returnType = some .int) (hlocks : meth.locks = false) (hB : zw_B D cA ad sh' (zw_A ad sh z) s.heap mi' ml' z1 H locs) {v : Int32} (hv : some (Value.int v) = rv) (hm : mi' = mi1) (hl : ml' = ml1) (hdg : decode cc pc = .ok (.ireturn, 1)) :
    W p l e R s m args below meth c H locs cells slots (MQ below (zc_Q D cA ad sh sh' z rv mi1 ml1 z1) args s cells slots (zw_A ad sh z)) (F0 m pc ls [.int v]) := by
  subst hv; subst hm; subst hl
  exact W.iret X.1 X.2.1 hr (fun t ht _ => zc_end hB rfl ht args) hB.2.2.2.1.2.2 hdg hlocks
theorem zc_zret (X : zw_C D cA own cc nL p m c s) (hr : meth.sig.returnType = some .boolean) (hlocks : meth.locks = false) (hB : zw_B D cA ad sh' (zw_A ad sh z) s.heap mi' ml' z1 H locs) {v : Int32} (hn : narrow .boolean (.int v) = .int v) (hv : some (Value.int v) = rv) (hm : mi' = mi1) (hl : ml' = ml1) (hdg : decode cc pc = .ok (.ireturn, 1)) :
    W p l e R s m args below meth c H locs cells slots (MQ below (zc_Q D cA ad sh sh' z rv mi1 ml1 z1) args s cells slots (zw_A ad sh z)) (F0 m pc ls [.int v]) := by
  subst hv; subst hm; subst hl
  exact W.zret X.1 X.2.1 hr hn (fun t ht _ => zc_end hB rfl ht args) hB.2.2.2.1.2.2 hdg hlocks
theorem zc_lret (X : zw_C D cA own cc nL p m c s) (hr : meth.sig.returnType = some .long) (hlocks : meth.locks = false) (hB : zw_B D cA ad sh' (zw_A ad sh z) s.heap mi' ml' z1 H locs) {v : Int64} (hv : some (Value.long v) = rv) (hm : mi' = mi1) (hl : ml' = ml1) (hdg : decode cc pc = .ok (.lreturn, 1)) :
    W p l e R s m args below meth c H locs cells slots (MQ below (zc_Q D cA ad sh sh' z rv mi1 ml1 z1) args s cells slots (zw_A ad sh z)) (F0 m pc ls [.long v]) := by
  subst hv; subst hm; subst hl
  exact W.lret X.1 X.2.1 hr (fun t ht _ => zc_end hB rfl ht args) hB.2.2.2.1.2.2 hdg hlocks
theorem zc_vret (X : zw_C D cA own cc nL p m c s) (hr : meth.sig.returnType = none) (hlocks : meth.locks = false) (hB : zw_B D cA ad sh' (zw_A ad sh z) s.heap mi' ml' z1 H locs) (hv : none = rv) (hm : mi' = mi1) (hl : ml' = ml1) (hdg : decode cc pc = .ok (.return_, 1)) :
    W p l e R s m args below meth c H locs cells slots (MQ below (zc_Q D cA ad sh sh' z rv mi1 ml1 z1) args s cells slots (zw_A ad sh z)) (F0 m pc ls []) := by
  subst hv; subst hm; subst hl
  exact W.vret X.1 X.2.1 hr (fun t ht _ => zc_end hB rfl ht args) hB.2.2.2.1.2.2 hdg hlocks
/-- behind a call -/
theorem zw_after {a : Array Value} (hr : va_Run p l e R s m args below meth c H locs cells slots mc ms (F0 m pc ls st0) rest (zc_Q D cA ad sh sh' z rv mi1 ml1 z1 a) (zw_A ad sh z)) (hB : zw_B D cA ad sh A H0 mi ml z H locs)
    (kk : ∀ (H1 : Heap) (locs1 : List Loc), zw_B D cA ad sh' A H0 mi1 ml1 z1 H1 locs1 → W p l e R s m args below meth c H1 locs1 (cells + mc) (slots + ms) Q (F0 m (pc + 3) ls (rv.toList ++ rest))) : W p l e R s m args below meth c H locs cells slots Q (F0 m pc ls st0) := by
  intro T hT X
  obtain ⟨v, st₀, t, T', L, h0, X', hL, e1, e2, ⟨hv, hW, hJ, hA', hz1, hF1, hF2⟩, st⟩ := hr T hT X
  cases hv
  obtain ⟨hW0, hJ0, hA0, hS0, hsz, hT0⟩ := hB
  have hAA : ∀ q, zw_A ad sh z q → A q := fun q h => by
    rcases h with ⟨k, p, hk, rfl⟩ | h
    · exact hA0 k p hk
    · exact hT0 q (Nat.le_trans hS0.1 (by rw [hsz]; exact h))
  rw [h0] at hF1 hF2
  obtain ⟨t2, a1, b1⟩ := kk T'.heap (locs ++ L) ⟨by rw [e1]; exact hW, hJ, fun k q hk => hAA _ (hA' k q hk), ⟨Nat.le_trans hS0.1 (by rw [e1]; exact hF1), fun q h1 h2 => by
      rw [e1, hF2 q (Nat.lt_of_lt_of_le h1 hS0.1) (fun z => h2 (hAA q z))]
      exact hS0.2.1 q h1 h2, fun q hq => by
      rcases List.mem_append.mp hq with h | h
      · exact hS0.2.2 q h
      · exact hAA _ (hL q h)⟩, by rw [e1]; exact hz1, hT0⟩ T' rfl X'
  exact ⟨t2, st t2 a1, b1⟩
theorem zw_pre (X : zw_C D cA own cc nL p m c s) (hB : zw_B D cA ad sh A H0 mi ml z H locs) : PreS s H (zc_P D cA ad sh mi ml z av) av := ⟨zc_blind, fun U hU hW => ⟨rfl, X.2.2.2.2.warm hW, by rw [hU]; exact hB.1, hB.2.1, by rw [hU]; exact hB.2.2.2.2.1⟩⟩
theorem zw_recv (X : zw_C D cA own cc nL p m c s) (hB : zw_B D cA ad sh A H0 mi ml z H locs) {k ci : Nat} {fs : List (Nat × Nat)} (hk : sh k = some (.inl (ci, fs))) {C : String} {T : u_T} {N : Nat} (hc : zw_cl[ci]? = some (C, T, N)) : ∃ cellB : Cell, H[ad k]? = some cellB ∧ cellB.vm.isStatics = false ∧ s.vm.findClass C = some cellB.cls := by
  obtain ⟨r, h1, cell, q1, q2, q3, -⟩ := hB.at hk
  exact ⟨cell, q1, by rw [q3]; rfl, by rw [q2]; exact (X.2.2.2.2.1.1 ci _ hc).2.1⟩
theorem zw_callV (X : zw_C D cA own cc nL p m c s) (hB : zw_B D cA ad sh A H0 mi ml z H locs) {C : String} {index n : Nat} (ML : zw_MV own index Y C n) (k : Nat) {ci : Nat} {fs : List (Nat × Nat)} (hk : sh k = some (.inl (ci, fs))) {T : u_T} {N : Nat} (hc : zw_cl[ci]? = some (C, T, N))
    (hM : zc_M l D cA Y d mc ms ad sh sh' z (.ref (ad k) :: As) mi ml rv mi1 ml1 z1) (hn : As.length = n) (hsz : ls.size = nL) (hR : d + 1 ≤ R.frames ∧ 8 + (Y.2.2.1 + 11) + 40 * d ≤ R.locals) (hst : As.reverse ++ .ref (ad k) :: rest = st0) (hW : (rest.map fun v => v.category).sum ≤ 8) (hf : cells + mc ≤ R.cells ∧ slots + ms ≤ R.slots) (hdg : decode cc pc = .ok (.invokevirtual index, 3))
    (kk : ∀ (H1 : Heap) (locs1 : List Loc), zw_B D cA ad sh' A H0 mi1 ml1 z1 H1 locs1 → W p l e R s m args below meth c H1 locs1 (cells + mc) (slots + ms) Q (F0 m (pc + 3) ls (rv.toList ++ rest))) : W p l e R s m args below meth c H locs cells slots Q (F0 m pc ls st0) := by
  subst hst
  obtain ⟨hlink, hin, hsel, hcode, hini, hy, hpar⟩ := ML
  have hts : ∀ w ∈ zw_Tb, w.before args s = true := X.2.2.2.2.ts
  have hws : ∀ w ∈ [Cond.code Y.1 Y.2.1 Y.2.2.1 Y.2.2.2], ∀ (a' : Array Value) (U : State), s.WarmedH U.vm → w.before a' U = true := fun w hw a' U hW => (X.2.2.2.2.warm hW).ts w (by rw [List.mem_singleton.mp hw]; exact hcode)
  have hp := zw_pre (av := .ref (ad k) :: As) X hB
  rcases hlink with h | ⟨host, h⟩
  · exact zw_after (va_runV (C := C) ⟨X.1, X.2.1, X.2.2.1, X.2.2.2.1, hts⟩ hM ⟨⟨rfl, rfl, hR.1, hR.2, hws, List.mem_singleton.mpr rfl, hts _ hcode, hts _ hini, hy, zw_len hpar, hts _ h⟩, hts _ hin, hts _ hsel⟩ ⟨hp.1, zw_recv X hB hk hc, hp.2⟩ rfl hn hsz rfl (lv_room hW) hdg hf) hB kk
  · exact zw_after (va_runVN (C := C) (host := host) ⟨X.1, X.2.1, X.2.2.1, X.2.2.2.1, hts⟩ hM ⟨⟨⟨rfl, rfl, hR.1, hR.2, hws, List.mem_singleton.mpr rfl⟩, hts _ hcode, hts _ hini, hy, zw_len hpar, hts _ h⟩, hts _ hin, hts _ hsel⟩ ⟨hp.1, zw_recv X hB hk hc, hp.2⟩ rfl hn hsz rfl (lv_room hW) hdg hf) hB kk
theorem zw_callS (X : zw_C D cA own cc nL p m c s) (hB : zw_B D cA ad sh A H0 mi ml z H locs) {index n : Nat} (ML : zw_MS own index Y n)
    (hM : zc_M l D cA Y d mc ms ad sh sh' z As mi ml rv mi1 ml1 z1) (hn : As.length = n) (hsz : ls.size = nL) (hR : d + 1 ≤ R.frames ∧ 8 + (Y.2.2.1 + 11) + 40 * d ≤ R.locals) (hst : As.reverse ++ rest = st0) (hW : (rest.map fun v => v.category).sum ≤ 8) (hf : cells + mc ≤ R.cells ∧ slots + ms ≤ R.slots) (hdg : decode cc pc = .ok (.invokestatic index, 3))
    (kk : ∀ (H1 : Heap) (locs1 : List Loc), zw_B D cA ad sh' A H0 mi1 ml1 z1 H1 locs1 → W p l e R s m args below meth c H1 locs1 (cells + mc) (slots + ms) Q (F0 m (pc + 3) ls (rv.toList ++ rest))) : W p l e R s m args below meth c H locs cells slots Q (F0 m pc ls st0) := by
  subst hst
  obtain ⟨hlink, hstt, hcode, hini, hy, hpar⟩ := ML
  have hts : ∀ w ∈ zw_Tb, w.before args s = true := X.2.2.2.2.ts
  have hws : ∀ w ∈ [Cond.code Y.1 Y.2.1 Y.2.2.1 Y.2.2.2], ∀ (a' : Array Value) (U : State), s.WarmedH U.vm → w.before a' U = true := fun w hw a' U hW => (X.2.2.2.2.warm hW).ts w (by rw [List.mem_singleton.mp hw]; exact hcode)
  have hp := zw_pre (av := As) X hB
  rcases hlink with h | ⟨host, h⟩
  · exact zw_after (va_runS ⟨X.1, X.2.1, X.2.2.1, X.2.2.2.1, hts⟩ hM ⟨⟨rfl, rfl, hR.1, hR.2, hws, List.mem_singleton.mpr rfl, hts _ hcode, hts _ hini, hy, zw_len hpar, hts _ h⟩, hts _ hstt⟩ hp rfl hn hsz rfl (lv_room hW) hdg hf) hB kk
  · exact zw_after (va_runSN (host := host) ⟨X.1, X.2.1, X.2.2.1, X.2.2.2.1, hts⟩ hM ⟨⟨⟨rfl, rfl, hR.1, hR.2, hws, List.mem_singleton.mpr rfl⟩, hts _ hcode, hts _ hini, hy, zw_len hpar, hts _ h⟩, hts _ hstt, trivial⟩ hp rfl hn hsz rfl (lv_room hW) hdg hf) hB kk
theorem zw_callI (X : zw_C D cA own cc nL p m c s) (hB : zw_B D cA ad sh A H0 mi ml z H locs) {index n : Nat} (ML : zw_MI own index Y n) {b : Nat}
    (hM : zc_M l D cA Y d mc ms ad sh sh' z (.ref b :: As) mi ml rv mi1 ml1 z1) (hn : As.length = n) (hsz : ls.size = nL) (hR : d + 1 ≤ R.frames ∧ 8 + (Y.2.2.1 + 11) + 40 * d ≤ R.locals) (hst : As.reverse ++ .ref b :: rest = st0) (hW : (rest.map fun v => v.category).sum ≤ 8) (hf : cells + mc ≤ R.cells ∧ slots + ms ≤ R.slots) (hdg : decode cc pc = .ok (.invokespecial index, 3))
    (kk : ∀ (H1 : Heap) (locs1 : List Loc), zw_B D cA ad sh' A H0 mi1 ml1 z1 H1 locs1 → W p l e R s m args below meth c H1 locs1 (cells + mc) (slots + ms) Q (F0 m (pc + 3) ls (rv.toList ++ rest))) : W p l e R s m args below meth c H locs cells slots Q (F0 m pc ls st0) := by
  subst hst
  obtain ⟨hy1, hret, hlink, hin, hcode, hini, hy, hpar⟩ := ML
  have hts : ∀ w ∈ zw_Tb, w.before args s = true := X.2.2.2.2.ts
  unfold zc_M at hM
  rw [hret] at hM
  have hws : ∀ w ∈ [Cond.code Y.1 Y.2.1 Y.2.2.1 none], ∀ (a' : Array Value) (U : State), s.WarmedH U.vm → w.before a' U = true := fun w hw a' U hW => (X.2.2.2.2.warm hW).ts w (by rw [List.mem_singleton.mp hw]; exact hcode)
  have hp := zw_pre (av := .ref b :: As) X hB
  rcases hlink with h | ⟨host, h⟩
  · exact zw_after (va_runI ⟨X.1, X.2.1, X.2.2.1, X.2.2.2.1, hts⟩ hM ⟨⟨rfl, rfl, hR.1, hR.2, hws, List.mem_singleton.mpr rfl, hts _ hcode, hts _ hini, hy, zw_len hpar, hts _ h⟩, hy1, hts _ hin⟩ hp rfl hn hsz rfl (lv_room hW) hdg hf) hB kk
  · exact zw_after (va_runIN (host := host) ⟨X.1, X.2.1, X.2.2.1, X.2.2.2.1, hts⟩ hM ⟨⟨⟨rfl, rfl, hR.1, hR.2, hws, List.mem_singleton.mpr rfl⟩, hts _ hcode, hts _ hini, hy, zw_len hpar, hts _ h⟩, hy1, hts _ hin⟩ hp rfl hn hsz rfl (lv_room hW) hdg hf) hB kk
/-- calls that hand back a value, and those that don't -/
theorem zw_callVr (X : zw_C D cA own cc nL p m c s) (hB : zw_B D cA ad sh A H0 mi ml z H locs) {C : String} {index n : Nat} (ML : zw_MV own index Y C n) (k : Nat) {ci : Nat} {fs : List (Nat × Nat)} (hk : sh k = some (.inl (ci, fs))) {T : u_T} {N : Nat} (hc : zw_cl[ci]? = some (C, T, N)) {v : Value}
    (hM : zc_M l D cA Y d mc ms ad sh sh' z (.ref (ad k) :: As) mi ml (some v) mi1 ml1 z1) (hn : As.length = n) (hsz : ls.size = nL) (hR : d + 1 ≤ R.frames ∧ 8 + (Y.2.2.1 + 11) + 40 * d ≤ R.locals) (hst : As.reverse ++ .ref (ad k) :: rest = st0) (hW : (rest.map fun v => v.category).sum ≤ 8) (hf : cells + mc ≤ R.cells ∧ slots + ms ≤ R.slots) (hdg : decode cc pc = .ok (.invokevirtual index, 3))
    (kk : ∀ (H1 : Heap) (locs1 : List Loc), zw_B D cA ad sh' A H0 mi1 ml1 z1 H1 locs1 → W p l e R s m args below meth c H1 locs1 (cells + mc) (slots + ms) Q (F0 m (pc + 3) ls (v :: rest))) : W p l e R s m args below meth c H locs cells slots Q (F0 m pc ls st0) :=
  zw_callV X hB ML k hk hc hM hn hsz hR hst hW hf hdg kk
theorem zw_callVv (X : zw_C D cA own cc nL p m c s) (hB : zw_B D cA ad sh A H0 mi ml z H locs) {C : String} {index n : Nat} (ML : zw_MV own index Y C n) (k : Nat) {ci : Nat} {fs : List (Nat × Nat)} (hk : sh k = some (.inl (ci, fs))) {T : u_T} {N : Nat} (hc : zw_cl[ci]? = some (C, T, N))
    (hM : zc_M l D cA Y d mc ms ad sh sh' z (.ref (ad k) :: As) mi ml none mi1 ml1 z1) (hn : As.length = n) (hsz : ls.size = nL) (hR : d + 1 ≤ R.frames ∧ 8 + (Y.2.2.1 + 11) + 40 * d ≤ R.locals) (hst : As.reverse ++ .ref (ad k) :: rest = st0) (hW : (rest.map fun v => v.category).sum ≤ 8) (hf : cells + mc ≤ R.cells ∧ slots + ms ≤ R.slots) (hdg : decode cc pc = .ok (.invokevirtual index, 3))
    (kk : ∀ (H1 : Heap) (locs1 : List Loc), zw_B D cA ad sh' A H0 mi1 ml1 z1 H1 locs1 → W p l e R s m args below meth c H1 locs1 (cells + mc) (slots + ms) Q (F0 m (pc + 3) ls rest)) : W p l e R s m args below meth c H locs cells slots Q (F0 m pc ls st0) :=
  zw_callV X hB ML k hk hc hM hn hsz hR hst hW hf hdg kk
theorem zw_callSr (X : zw_C D cA own cc nL p m c s) (hB : zw_B D cA ad sh A H0 mi ml z H locs) {index n : Nat} (ML : zw_MS own index Y n) {v : Value}
    (hM : zc_M l D cA Y d mc ms ad sh sh' z As mi ml (some v) mi1 ml1 z1) (hn : As.length = n) (hsz : ls.size = nL) (hR : d + 1 ≤ R.frames ∧ 8 + (Y.2.2.1 + 11) + 40 * d ≤ R.locals) (hst : As.reverse ++ rest = st0) (hW : (rest.map fun v => v.category).sum ≤ 8) (hf : cells + mc ≤ R.cells ∧ slots + ms ≤ R.slots) (hdg : decode cc pc = .ok (.invokestatic index, 3))
    (kk : ∀ (H1 : Heap) (locs1 : List Loc), zw_B D cA ad sh' A H0 mi1 ml1 z1 H1 locs1 → W p l e R s m args below meth c H1 locs1 (cells + mc) (slots + ms) Q (F0 m (pc + 3) ls (v :: rest))) : W p l e R s m args below meth c H locs cells slots Q (F0 m pc ls st0) :=
  zw_callS X hB ML hM hn hsz hR hst hW hf hdg kk
theorem zw_callIv (X : zw_C D cA own cc nL p m c s) (hB : zw_B D cA ad sh A H0 mi ml z H locs) {index n : Nat} (ML : zw_MI own index Y n) {b : Nat}
    (hM : zc_M l D cA Y d mc ms ad sh sh' z (.ref b :: As) mi ml none mi1 ml1 z1) (hn : As.length = n) (hsz : ls.size = nL) (hR : d + 1 ≤ R.frames ∧ 8 + (Y.2.2.1 + 11) + 40 * d ≤ R.locals) (hst : As.reverse ++ .ref b :: rest = st0) (hW : (rest.map fun v => v.category).sum ≤ 8) (hf : cells + mc ≤ R.cells ∧ slots + ms ≤ R.slots) (hdg : decode cc pc = .ok (.invokespecial index, 3))
    (kk : ∀ (H1 : Heap) (locs1 : List Loc), zw_B D cA ad sh' A H0 mi1 ml1 z1 H1 locs1 → W p l e R s m args below meth c H1 locs1 (cells + mc) (slots + ms) Q (F0 m (pc + 3) ls rest)) : W p l e R s m args below meth c H locs cells slots Q (F0 m pc ls st0) :=
  zw_callI X hB ML hM hn hsz hR hst hW hf hdg kk
end ZC
abbrev zc_W (l : Launch) (D : va_G) (cA : Nat → ClassId) (ad : Nat → Nat) (sh sh' : zw_Sh) (z : Nat) (av : List Value) (d mc ms : Nat) (rv : Option Value) (mi1 : zw_I) (ml1 : zw_L) (z1 : Nat) (p : Program) (e : Env) (s : State) (m : MethodId) (below : List Frame) (meth : Method) (c : Code) (H : Heap) (locs : List Loc) (cells slots : Nat) (g : JFrame) : Prop :=
  W p l e (zc_R d mc ms) s m av.toArray below meth c H locs cells slots (MQ below (zc_Q D cA ad sh sh' z rv mi1 ml1 z1) av.toArray s mc ms (zw_A ad sh z)) g
theorem vlt {x : Int32} {n : Nat} (h : vp_in x n) : x.toNatClampNeg < n := Nat.not_le.mp fun q => h (Or.inr q)
theorem zn_lt {a b : Nat} (hb : b < 2 ^ 31) (h : ¬ nI a ≤ nI b) : b < a := Nat.not_le.mp fun q => h (nI_le q hb)
theorem zn_le {a b : Nat} (ha : a < 2 ^ 31) (hb : b < 2 ^ 31) (h : nI a ≤ nI b) : a ≤ b := (nI_leI ha hb).mp h
end
section
/-! MAKING CELLS: 'ad' says ahead where each cell will lie; a row asks that the heap ends just there -/
def zw_NL (own : String) (index ci N : Nat) (fs : List (Nat × Nat)) : Prop := ∃ (C : String) (T : u_T) (ty0 : Nat → FieldType), zw_cl[ci]? = some (C, T, N) ∧ (∀ w ∈ u_ws C T N, w ∈ zw_Tb) ∧ (∀ k, k < N → parseFieldDescriptor (T k).2.2.1 = some (ty0 k)) ∧ Cond.classLink own index C ∈ zw_Tb ∧ Cond.instantiable C N ∈ zw_Tb ∧ Cond.initialized C ∈ zw_Tb ∧
  ∀ j, j < N → ∃ q : Nat × Nat, fs[j]? = some q ∧ q.1 ≠ 2 ∧ defaultValue (ty0 j) = zw_fv (fun _ => 0) 0 0 q
theorem zw_fv_free {ad ad' : Nat → Nat} {x : Int32} {y : Int64} {q : Nat × Nat} (h : q.1 ≠ 2) : zw_fv ad x y q = zw_fv ad' x y q := by
  obtain ⟨a, b⟩ := q
  match a, h with
  | 0, _ => rfl
  | 1, _ => rfl
  | 2, h => exact absurd rfl h
  | a + 3, _ => rfl
/-- several new cells at the end of the heap: k first, then a grid's rows -/
theorem zw_B.growN {D : va_G} {cA : Nat → ClassId} {ad : Nat → Nat} {sh sh' : zw_Sh} {A : Nat → Prop} {H0 : Heap} {mi : zw_I} {ml : zw_L} {z : Nat} {H H1 : Heap} {locs : List Loc} (h : zw_B D cA ad sh A H0 mi ml z H locs) {k b N : Nat} (hk : ad k = z) (hr : ∀ i, i < N → ad (b + i) = z + 1 + i) (hs' : ∀ (i : Nat) (p : zw_Sp), sh' i = some p → i = k ∨ (∃ j, j < N ∧ i = b + j) ∨ sh i = some p)
    (he : ∀ p, sh' k = some p → va_at D zw_cl (ad k, zw_ent cA ad (mi k) (ml k) p) H1) (her : ∀ (i : Nat) (p : zw_Sp), i < N → sh' (b + i) = some p → va_at D zw_cl (ad (b + i), zw_ent cA ad (mi (b + i)) (ml (b + i)) p) H1) (hz : H1.size = z + 1 + N) (ho : ∀ a : Nat, a < z → H1[a]? = H[a]?) : zw_B D cA ad sh' A H0 mi ml (z + 1 + N) H1 locs := by
  obtain ⟨hW, hJ, hA, hS, hsz, hT⟩ := h
  have lt : ∀ (j : Nat) (p : zw_Sp), sh j = some p → ad j < z := fun j p hp => by rw [← hsz]; exact (hW j p hp).lt
  have hge : ∀ q : Nat, z ≤ q → A q := fun q h => hT _ (Nat.le_trans hS.1 (by rw [hsz]; exact h))
  refine ⟨fun j p hp => ?_, fun a b' x y ha hb e => ?_, fun j p hp => ?_, ⟨by rw [hz]; exact Nat.le_trans hS.1 (by rw [hsz]; omega), fun a h1 h2 => (ho a (by rw [← hsz]; exact Nat.lt_of_lt_of_le h1 hS.1)).trans (hS.2.1 a h1 h2), hS.2.2⟩, hz, hT⟩
  · rcases hs' j p hp with rfl | ⟨i, hi, rfl⟩ | hp'
    · exact he p hp
    · exact her i p hi hp
    · exact (hW j p hp').kept (ho _ (lt j p hp'))
  · rcases hs' a x ha with rfl | ⟨i, hi, rfl⟩ | ha' <;> rcases hs' b' y hb with rfl | ⟨i', hi', rfl⟩ | hb'
    · rfl
    · rw [hk, hr i' hi'] at e; omega
    · have := lt _ _ hb'; rw [hk] at e; omega
    · rw [hk, hr i hi] at e; omega
    · rw [hr i hi, hr i' hi'] at e
      have : i = i' := by omega
      rw [this]
    · have := lt _ _ hb'; rw [hr i hi] at e; omega
    · have := lt _ _ ha'; rw [hk] at e; omega
    · have := lt _ _ ha'; rw [hr i' hi'] at e; omega
    · exact hJ a b' x y ha' hb' e
  · rcases hs' j p hp with rfl | ⟨i, hi, rfl⟩ | hp'
    · exact hge _ (by rw [hk]; omega)
    · exact hge _ (by rw [hr i hi]; omega)
    · exact hA j p hp'
theorem zw_outer (c : ClassId) (N h0 : Nat) : ∀ i : Nat, Jvm.Free.Multi.outerC c N h0 i = arrV c N (fun j => if j < i then .ref (h0 + 1 + j) else .null)
  | 0 => by
    show ({ cls := c, slots := Array.replicate N .null, vm := .none } : Cell) = _
    rw [arrV_new]
    exact congrArg (arrV c N) (funext fun j => by simp)
  | i + 1 => by
    show (Jvm.Free.Multi.outerC c N h0 i).setSlot i (.ref (h0 + 1 + i)) = _
    rw [zw_outer c N h0 i, arrV_store]
    refine congrArg (arrV c N) (funext fun j => ?_)
    unfold updV
    by_cases e : j = i
    · subst e; simp
    · by_cases h : j < i
      · rw [if_neg e, if_pos (show j < i + 1 by omega)]; exact if_pos h
      · rw [if_neg e, if_neg (show ¬ j < i + 1 by omega)]; exact if_neg h
theorem zw_arrV_eq {c : ClassId} {N : Nat} {f g : Nat → Value} (h : ∀ j, j < N → f j = g j) : arrV c N f = arrV c N g := by
  have e : (Array.ofFn (n := N) fun j => f j.val) = (Array.ofFn (n := N) fun j => g j.val) := congrArg Array.ofFn (funext fun j => h j.val j.isLt)
  show ({ cls := c, slots := Array.ofFn (n := N) fun j => f j.val, vm := .none } : Cell) = { cls := c, slots := Array.ofFn (n := N) fun j => g j.val, vm := .none }
  rw [e]
section ZM
variable {p : Program} {l : Launch} {e : Env} {R : Room} {s : State} {m : MethodId} {args : Array Value} {below : List Frame} {meth : Method} {c : Code} {H : Heap} {locs : List Loc} {cells slots : Nat} {Q : State → Prop}
variable {cc : ByteArray} {pc nL : Nat} {ls : Array Slot} {rest : List Value} {D : va_G} {cA : Nat → ClassId} {own : String} {ad : Nat → Nat} {sh sh' : zw_Sh} {A : Nat → Prop} {H0 : Heap} {mi mi' : zw_I} {ml ml' : zw_L} {z : Nat}
theorem zw_new (X : zw_C D cA own cc nL p m c s) (hB : zw_B D cA ad sh A H0 mi ml z H locs) {index ci N : Nat} {fs : List (Nat × Nat)} (F : zw_NL own index ci N fs) (k : Nat) (hk : ad k = z) (h0 : ∀ j, mi k j = 0) (h1 : ∀ j, ml k j = 0) (hs : sh' k = some (.inl (ci, fs))) (hs' : ∀ i, i ≠ k → sh' i = sh i) (hcells : cells + 1 ≤ R.cells) (hslots : slots + N ≤ R.slots) (hdg : decode cc pc = .ok (.new index, 3))
    (kk : ∀ H1 : Heap, zw_B D cA ad sh' A H0 mi ml (z + 1) H1 locs → W p l e R s m args below meth c H1 locs (cells + 1) (slots + N) Q (F0 m (pc + 3) ls (.ref (ad k) :: rest))) : W p l e R s m args below meth c H locs cells slots Q (F0 m pc ls rest) := by
  subst hk
  obtain ⟨hx, hb, -, hown, hE⟩ := X
  obtain ⟨C, T, ty0, hc, hlay, hty, hcl, hins, hini, hdf⟩ := F
  have hts : ∀ w ∈ zw_Tb, w.before args s = true := hE.ts
  have hKn := hE.1.1 ci _ hc
  refine W.newcK hx hb hown (hts _ hcl) (hts _ hins) (hts _ hini) rfl hdg hcells hslots hKn.2.1 hB.2.2.2.2.1 fun H1 kC hkC e1 z1 o1 => kk H1 (hB.grow rfl hs hs' ⟨_, hc, (u_born ty0 hts hlay hKn hkC e1 hty).to fun j hj => ?_⟩ z1 o1)
  obtain ⟨q, hq, hq2, hd⟩ := hdf j hj
  show defaultValue (ty0 j) = vp_V (zw_fs ad (mi k) (ml k) fs) j
  unfold vp_V
  rw [List.getD_eq_getElem?_getD, zw_fs_get hq, h0 j, h1 j, hd, zw_fv_free hq2]
  rfl
theorem zw_newI (X : zw_C D cA own cc nL p m c s) (hB : zw_B D cA ad sh A H0 mi ml z H locs) (hw : Cond.arrayClass .int ∈ zw_Tb) (k : Nat) (hk : ad k = z) (h0 : ∀ j, mi k j = 0) {x : Int32} {N : Nat} (hx0 : ¬ x < 0) (hN : x.toNatClampNeg = N) (hbig : N ≤ 1000000) (hs : sh' k = some (.inr (0, N, 0))) (hs' : ∀ i, i ≠ k → sh' i = sh i) (hcells : cells + 1 ≤ R.cells) (hslots : slots + N ≤ R.slots) (hdg : decode cc pc = .ok (.newarray .int, 2))
    (kk : ∀ H1 : Heap, zw_B D cA ad sh' A H0 mi ml (z + 1) H1 locs → W p l e R s m args below meth c H1 locs (cells + 1) (slots + N) Q (F0 m (pc + 2) ls (.ref (ad k) :: rest))) : W p l e R s m args below meth c H locs cells slots Q (F0 m pc ls (.int x :: rest)) := by
  subst hk
  obtain ⟨hx, hb, -, hown, hE⟩ := X
  have hra : s.vm.findClass ("[" ++ (FieldType.int).toString) = some (cA 0) := (hE.1.2 0 (cA 0, .int) rfl).2
  refine va_newaK (atype := .int) hx hb (hE.ts _ hw) rfl hdg rfl hx0 hN (by show N * 4 ≤ _; omega) hcells hslots hB.2.2.2.2.1 fun H1 cA' e1 z1 o1 _ hfc => kk H1 (hB.grow rfl hs hs' ?_ z1 o1)
  cases Option.some.inj (hra.symm.trans hfc)
  show H1[ad k]? = some (arrV (cA 0) N (fun j => .int (mi k j)))
  rw [e1]
  exact congrArg (fun f => some (arrV (cA 0) N f)) (funext fun j => by rw [h0 j]; rfl)
theorem zw_newZ (X : zw_C D cA own cc nL p m c s) (hB : zw_B D cA ad sh A H0 mi ml z H locs) (hw : Cond.arrayClass .boolean ∈ zw_Tb) (k : Nat) (hk : ad k = z) (h0 : ∀ j, mi k j = 0) {x : Int32} {N : Nat} (hx0 : ¬ x < 0) (hN : x.toNatClampNeg = N) (hbig : N ≤ 1000000) (hs : sh' k = some (.inr (2, N, 0))) (hs' : ∀ i, i ≠ k → sh' i = sh i) (hcells : cells + 1 ≤ R.cells) (hslots : slots + N ≤ R.slots) (hdg : decode cc pc = .ok (.newarray .boolean, 2))
    (kk : ∀ H1 : Heap, zw_B D cA ad sh' A H0 mi ml (z + 1) H1 locs → W p l e R s m args below meth c H1 locs (cells + 1) (slots + N) Q (F0 m (pc + 2) ls (.ref (ad k) :: rest))) : W p l e R s m args below meth c H locs cells slots Q (F0 m pc ls (.int x :: rest)) := by
  subst hk
  obtain ⟨hx, hb, -, hown, hE⟩ := X
  have hra : s.vm.findClass ("[" ++ (FieldType.boolean).toString) = some (cA 2) := (hE.1.2 2 (cA 2, .boolean) rfl).2
  refine va_newaK (atype := .boolean) hx hb (hE.ts _ hw) rfl hdg rfl hx0 hN (by show N * 1 ≤ _; omega) hcells hslots hB.2.2.2.2.1 fun H1 cA' e1 z1 o1 _ hfc => kk H1 (hB.grow rfl hs hs' ?_ z1 o1)
  cases Option.some.inj (hra.symm.trans hfc)
  show H1[ad k]? = some (arrV (cA 2) N (fun j => .int (mi k j)))
  rw [e1]
  exact congrArg (fun f => some (arrV (cA 2) N f)) (funext fun j => by rw [h0 j]; rfl)
theorem zw_newJ (X : zw_C D cA own cc nL p m c s) (hB : zw_B D cA ad sh A H0 mi ml z H locs) (hw : Cond.arrayClass .long ∈ zw_Tb) (k : Nat) (hk : ad k = z) (h0 : ∀ j, ml k j = 0) {x : Int32} {N : Nat} (hx0 : ¬ x < 0) (hN : x.toNatClampNeg = N) (hbig : N ≤ 1000000) (hs : sh' k = some (.inr (1, N, 0))) (hs' : ∀ i, i ≠ k → sh' i = sh i) (hcells : cells + 1 ≤ R.cells) (hslots : slots + N ≤ R.slots) (hdg : decode cc pc = .ok (.newarray .long, 2))
    (kk : ∀ H1 : Heap, zw_B D cA ad sh' A H0 mi ml (z + 1) H1 locs → W p l e R s m args below meth c H1 locs (cells + 1) (slots + N) Q (F0 m (pc + 2) ls (.ref (ad k) :: rest))) : W p l e R s m args below meth c H locs cells slots Q (F0 m pc ls (.int x :: rest)) := by
  subst hk
  obtain ⟨hx, hb, -, hown, hE⟩ := X
  have hra : s.vm.findClass ("[" ++ (FieldType.long).toString) = some (cA 1) := (hE.1.2 1 (cA 1, .long) rfl).2
  refine va_newaK (atype := .long) hx hb (hE.ts _ hw) rfl hdg rfl hx0 hN (by show N * 8 ≤ _; omega) hcells hslots hB.2.2.2.2.1 fun H1 cA' e1 z1 o1 _ hfc => kk H1 (hB.grow rfl hs hs' ?_ z1 o1)
  cases Option.some.inj (hra.symm.trans hfc)
  show H1[ad k]? = some (arrV (cA 1) N (fun j => .long (ml k j)))
  rw [e1]
  exact congrArg (fun f => some (arrV (cA 1) N f)) (funext fun j => by rw [h0 j]; rfl)
theorem zw_multi (X : zw_C D cA own cc nL p m c s) (hB : zw_B D cA ad sh A H0 mi ml z H locs) {ty rt : Nat} {t : FieldType} (hty : (ty = 3 ∧ rt = 0 ∧ t = .int) ∨ (ty = 4 ∧ rt = 1 ∧ t = .long)) {index : Nat} (hlink : Cond.classLink own index ("[" ++ (FieldType.array t).toString) ∈ zw_Tb) (hover : Cond.arrayOver (.array t) ∈ zw_Tb) (harr : Cond.arrayClass t ∈ zw_Tb)
    (k b : Nat) {x y : Int32} {N K : Nat} (hk : ad k = z) (hr : ∀ i, i < N → ad (b + i) = z + 1 + i) (h0 : ∀ i j, i < N → mi (b + i) j = 0) (h1 : ∀ i j, i < N → ml (b + i) j = 0) (hx0 : ¬ x < 0) (hy0 : ¬ y < 0) (hN : x.toNatClampNeg = N) (hK : y.toNatClampNeg = K) (hbN : N ≤ 100000) (hbK : K ≤ 100000)
    (hs : sh' k = some (.inr (ty, N, b))) (hsr : ∀ i, i < N → sh' (b + i) = some (.inr (rt, K, 0))) (hs' : ∀ (i : Nat) (p : zw_Sp), sh' i = some p → i = k ∨ (∃ j, j < N ∧ i = b + j) ∨ sh i = some p) (hcells : cells + (1 + N) ≤ R.cells) (hslots : slots + (N + N * K) ≤ R.slots) (hdg : decode cc pc = .ok (.multianewarray index 2, 4))
    (kk : ∀ H1 : Heap, zw_B D cA ad sh' A H0 mi ml (z + 1 + N) H1 locs → W p l e R s m args below meth c H1 locs (cells + 1 + N) (slots + N + N * K) Q (F0 m (pc + 4) ls (.ref (ad k) :: rest))) : W p l e R s m args below meth c H locs cells slots Q (F0 m pc ls (.int y :: .int x :: rest)) := by
  subst hN
  subst hK
  obtain ⟨hx, hb, -, hown, hE⟩ := X
  have hts : ∀ w ∈ zw_Tb, w.before args s = true := hE.ts
  have fO : s.vm.findClass ("[" ++ (FieldType.array t).toString) = some (cA ty) := by
    rcases hty with ⟨rfl, rfl, rfl⟩ | ⟨rfl, rfl, rfl⟩
    · exact (hE.1.2 3 (cA 3, .array .int) rfl).2
    · exact (hE.1.2 4 (cA 4, .array .long) rfl).2
  have fI : s.vm.findClass (FieldType.array t).toString = some (cA rt) := by
    rcases hty with ⟨rfl, rfl, rfl⟩ | ⟨rfl, rfl, rfl⟩
    · exact (hE.1.2 0 (cA 0, .int) rfl).2
    · exact (hE.1.2 1 (cA 1, .long) rfl).2
  intro T hT Xs
  obtain ⟨vm₁, cO, cI, -, gO, gI, -, -, X', step⟩ := Xs.multianewarray2F hx hown (hts _ hlink) (hts _ hover) (hts _ harr) (g := F0 m pc ls (.int y :: .int x :: rest)) rfl (by rw [hb]; exact hdg) rfl hx0 hy0 (by omega) (by rcases hty with ⟨-, -, rfl⟩ | ⟨-, -, rfl⟩ <;> simp only [componentBytes] <;> omega) (by omega) (by rcases hty with ⟨-, -, rfl⟩ | ⟨-, -, rfl⟩ <;> rfl) (by rcases hty with ⟨-, -, rfl⟩ | ⟨-, -, rfl⟩ <;> rfl) hcells hslots
  cases Option.some.inj (fO.symm.trans gO)
  cases Option.some.inj (fI.symm.trans gI)
  generalize hF : Jvm.Free.Multi.fill (T.setVm vm₁) (cA ty) (cA rt) x.toNatClampNeg y.toNatClampNeg (defaultValue t) x.toNatClampNeg = F at X' step
  have hTh : (T.setVm vm₁).heap = H := hT
  obtain ⟨f1, f2, -, -⟩ := Jvm.Free.Multi.fill_facts (T.setVm vm₁) (cA ty) (cA rt) x.toNatClampNeg y.toNatClampNeg (defaultValue t) x.toNatClampNeg
  rw [hF, hTh] at f1 f2
  have hsz : H.size = z := hB.2.2.2.2.1
  have hold : ∀ q : Nat, q < z → F.heap[q]? = H[q]? := fun q hq => by
    have := Jvm.Free.Multi.fill_old (T.setVm vm₁) (cA ty) (cA rt) x.toNatClampNeg y.toNatClampNeg (defaultValue t) (a := q) (by rw [hTh, hsz]; exact hq) x.toNatClampNeg
    rw [hF, hTh] at this
    exact this
  have hrow : ∀ j : Nat, j < x.toNatClampNeg → F.heap[z + 1 + j]? = some (arrV (cA rt) y.toNatClampNeg (fun _ => defaultValue t)) := fun j hj => by
    have := Jvm.Free.Multi.fill_inner (T.setVm vm₁) (cA ty) (cA rt) x.toNatClampNeg y.toNatClampNeg (defaultValue t) x.toNatClampNeg j hj
    rw [hF, hTh, hsz] at this
    rw [this, ← arrV_new]
    rfl
  rw [hsz] at f1 f2
  have hTs : T.heap.size = ad k := by rw [hT, hsz, hk]
  have B' : zw_B D cA ad sh' A H0 mi ml (z + 1 + x.toNatClampNeg) F.heap locs := by
    refine hB.growN hk hr hs' (fun p hp => ?_) (fun i p hi hp => ?_) f1 hold
    · cases hs.symm.trans hp
      have e : Jvm.Free.Multi.outerC (cA ty) x.toNatClampNeg z x.toNatClampNeg = arrV (cA ty) x.toNatClampNeg (fun j => .ref (ad (b + j))) := by
        rw [zw_outer]
        exact zw_arrV_eq fun j hj => by rw [if_pos hj, hr j hj]
      rw [e] at f2
      rcases hty with ⟨rfl, rfl, rfl⟩ | ⟨rfl, rfl, rfl⟩
      · show F.heap[ad k]? = some (arrV (cA 3) _ (fun j => .ref (ad (b + j))))
        rw [hk]; exact f2
      · show F.heap[ad k]? = some (arrV (cA 4) _ (fun j => .ref (ad (b + j))))
        rw [hk]; exact f2
    · cases (hsr i hi).symm.trans hp
      have e := hrow i hi
      rcases hty with ⟨rfl, rfl, rfl⟩ | ⟨rfl, rfl, rfl⟩
      · show F.heap[ad (b + i)]? = some (arrV (cA 0) _ (fun j => .int (mi (b + i) j)))
        rw [hr i hi, e]
        exact congrArg (fun f => some (arrV (cA 0) _ f)) (funext fun j => by rw [h0 i j hi]; rfl)
      · show F.heap[ad (b + i)]? = some (arrV (cA 1) _ (fun j => .long (ml (b + i) j)))
        rw [hr i hi, e]
        exact congrArg (fun f => some (arrV (cA 1) _ f)) (funext fun j => by rw [h1 i j hi]; rfl)
  obtain ⟨t9, a1, b1⟩ := kk F.heap B' F rfl X'
  refine ⟨t9, step t9 ?_, b1⟩
  rw [hTs]
  exact a1
end ZM
end
section
/-- the cells of the class: 0 to 6 objects, then arrays; rows of grids from 64 on, 16 to a grid -/
def shXl (n : Nat) : List (Option zw_Sp) := [some (.inl (6, [(2, 1), (2, 5), (2, 20), (2, 21)])), some (.inl (5, [(0, 0), (0, 0), (2, 7), (2, 8), (2, 9), (2, 2), (2, 3), (0, 0)])), some (.inl (4, [(2, 10), (2, 11), (2, 12), (2, 13)])), some (.inl (2, [(2, 14), (2, 15), (2, 16), (2, 17), (2, 18), (0, 0)])), some (.inl (3, [(2, 22), (0, 0), (0, 0)])), some (.inl (0, [(2, 1), (2, 4), (2, 6), (2, 23), (2, 24), (2, 25), (2, 26), (2, 27), (0, 0), (0, 0), (0, 0), (0, 0), (0, 0), (0, 0), (0, 0)])), some (.inl (1, [(2, 28), (2, 29), (0, 0)])), some (.inr (0, n, 0)), some (.inr (0, n, 0)), some (.inr (1, n, 0)), some (.inr (0, n, 0)), some (.inr (3, n, 64)), some (.inr (3, n, 80)), some (.inr (3, n, 96)), some (.inr (0, 8, 0)), some (.inr (0, 8, 0)), some (.inr (0, 8, 0)), some (.inr (0, 8, 0)), some (.inr (0, 8, 0)), none, some (.inr (2, n, 0)), some (.inr (1, n, 0)), some (.inr (0, n, 0)), some (.inr (0, n, 0)), some (.inr (4, n, 112)), some (.inr (0, n, 0)), some (.inr (3, n, 128)), some (.inr (0, n, 0)), some (.inr (0, 16, 0)), some (.inr (0, 16, 0))]
def shXr (n g : Nat) : zw_Sp := match g with
  | 0 => .inr (0, 6, 0)
  | 1 => .inr (0, 6, 0)
  | 2 => .inr (0, 6, 0)
  | 3 => .inr (1, 21, 0)
  | _ => .inr (0, n, 0)
def shX (n k : Nat) : Option zw_Sp := if k < 64 then (shXl n).getD k none else if k < 144 then (if (k - 64) % 16 < n then some (shXr n ((k - 64) / 16)) else none) else none
theorem shr0 {n i : Nat} (hn : n ≤ 16) (h : i < n) : shX n (64 + i) = some (.inr (0, 6, 0)) := by
  unfold shX
  rw [if_neg (by omega), if_pos (by omega), show (64 + i - 64) % 16 = i by omega, if_pos h, show (64 + i - 64) / 16 = 0 by omega]
  rfl
theorem shr1 {n i : Nat} (hn : n ≤ 16) (h : i < n) : shX n (80 + i) = some (.inr (0, 6, 0)) := by
  unfold shX
  rw [if_neg (by omega), if_pos (by omega), show (80 + i - 64) % 16 = i by omega, if_pos h, show (80 + i - 64) / 16 = 1 by omega]
  rfl
theorem shr2 {n i : Nat} (hn : n ≤ 16) (h : i < n) : shX n (96 + i) = some (.inr (0, 6, 0)) := by
  unfold shX
  rw [if_neg (by omega), if_pos (by omega), show (96 + i - 64) % 16 = i by omega, if_pos h, show (96 + i - 64) / 16 = 2 by omega]
  rfl
theorem shr3 {n i : Nat} (hn : n ≤ 16) (h : i < n) : shX n (112 + i) = some (.inr (1, 21, 0)) := by
  unfold shX
  rw [if_neg (by omega), if_pos (by omega), show (112 + i - 64) % 16 = i by omega, if_pos h, show (112 + i - 64) / 16 = 3 by omega]
  rfl
theorem shr4 {n i : Nat} (hn : n ≤ 16) (h : i < n) : shX n (128 + i) = some (.inr (0, n, 0)) := by
  unfold shX
  rw [if_neg (by omega), if_pos (by omega), show (128 + i - 64) % 16 = i by omega, if_pos h, show (128 + i - 64) / 16 = 4 by omega]
  rfl
theorem ly_Course : ∀ w ∈ u_ws R_Course T_Course 15, w ∈ zw_Tb := fun w h => zw_in (ly0_Course w h) ((by decide +kernel : ∀ w ∈ u_ws R_Course T_Course 15, zw_ok w = true) w h)
theorem ly_Crew : ∀ w ∈ u_ws R_Crew T_Crew 3, w ∈ zw_Tb := fun w h => zw_in (ly0_Crew w h) ((by decide +kernel : ∀ w ∈ u_ws R_Crew T_Crew 3, zw_ok w = true) w h)
theorem ly_Failings : ∀ w ∈ u_ws R_Failings T_Failings 6, w ∈ zw_Tb := fun w h => zw_in (ly0_Failings w h) ((by decide +kernel : ∀ w ∈ u_ws R_Failings T_Failings 6, zw_ok w = true) w h)
theorem ly_Line : ∀ w ∈ u_ws R_Line T_Line 3, w ∈ zw_Tb := fun w h => zw_in (ly0_Line w h) ((by decide +kernel : ∀ w ∈ u_ws R_Line T_Line 3, zw_ok w = true) w h)
theorem ly_Needs : ∀ w ∈ u_ws R_Needs T_Needs 4, w ∈ zw_Tb := fun w h => zw_in (ly0_Needs w h) ((by decide +kernel : ∀ w ∈ u_ws R_Needs T_Needs 4, zw_ok w = true) w h)
theorem ly_Plan : ∀ w ∈ u_ws R_Plan T_Plan 8, w ∈ zw_Tb := fun w h => zw_in (ly0_Plan w h) ((by decide +kernel : ∀ w ∈ u_ws R_Plan T_Plan 8, zw_ok w = true) w h)
theorem ly_TS : ∀ w ∈ u_ws R_TS T_TS 4, w ∈ zw_Tb := fun w h => zw_in (ly0_TS w h) ((by decide +kernel : ∀ w ∈ u_ws R_TS T_TS 4, zw_ok w = true) w h)
theorem ly_Model : ∀ w ∈ u_ws R_Model T_Model 36, w ∈ zw_Tb := fun w h => zw_in (ly0_Model w h) ((by decide +kernel : ∀ w ∈ u_ws R_Model T_Model 36, zw_ok w = true) w h)
end
section
-- Line (cell 4: ring 22, head 4 1, length 4 2)
def p_wrapped (n : Nat) (x : Int32) : Int32 := if nI n ≤ x then x - nI n else x
def p_first (mi : zw_I) : Int32 := if mi 4 2 ≤ 0 then -1 else mi 22 (mi 4 1).toNatClampNeg
def p_drop1 (mi : zw_I) : zw_I := zw_up mi 4 2 (mi 4 2 - 1)
def p_drop (n : Nat) (mi : zw_I) : zw_I := if mi 4 2 ≤ 0 then mi else p_drop1 (zw_up mi 4 1 (p_wrapped n (mi 4 1 + 1)))
def p_append1 (mi : zw_I) : zw_I := zw_up mi 4 2 (mi 4 2 + 1)
def p_append (n : Nat) (mi : zw_I) (x : Int32) : zw_I := if nI n ≤ mi 4 2 then mi else p_append1 (zw_up mi 22 (p_wrapped n (mi 4 1 + mi 4 2)).toNatClampNeg x)
def p_fill (n : Nat) : Nat → Int32 → zw_I → zw_I
  | 0, _, mi => mi
  | f + 1, k, mi => if nI n ≤ k then zw_up (zw_up mi 4 1 0) 4 2 (nI n) else p_fill n f (k + 1) (zw_up mi 22 k.toNatClampNeg k)
-- Crew (cell 6: living 28, held 29, count 6 2)
def p_gather (wk : Int32) : Nat → Int32 → zw_I → zw_I
  | 0, _, mi => mi
  | f + 1, k, mi => if wk ≤ k then zw_up mi 6 2 wk else p_gather wk f (k + 1) (zw_up (zw_up mi 28 k.toNatClampNeg k) 29 k.toNatClampNeg (-1))
def p_place (mi : zw_I) (x : Int64) : Int32 := ((x.toUInt64 >>> ((33 : Int32).toInt64.toUInt64 &&& Int64.toUInt64 63)).toInt64 - (x.toUInt64 >>> ((33 : Int32).toInt64.toUInt64 &&& Int64.toUInt64 63)).toInt64 / (mi 6 2).toInt64 * (mi 6 2).toInt64).toInt32
def p_turn (mi : zw_I) (x : Int64) : Int32 := if mi 6 2 ≤ 0 then -1 else mi 28 (p_place mi x).toNatClampNeg
def p_lose (wk : Int32) : Nat → Int32 → Int32 → zw_I → zw_I
  | 0, _, _, mi => mi
  | f + 1, q, k, mi => if mi 6 2 ≤ k then zw_up mi 6 2 q else if mi 28 k.toNatClampNeg = wk then p_lose wk f q (k + 1) mi else p_lose wk f (q + 1) (k + 1) (zw_up mi 28 q.toNatClampNeg (mi 28 k.toNatClampNeg))
-- Failings (cell 3: worker 14, share 15, step 16, times 17, timesLeft 18, count 3 5)
def p_fadd5 (mi : zw_I) : zw_I := zw_up mi 3 5 (mi 3 5 + 1)
def p_fadd4 (t : Int32) (mi : zw_I) : zw_I := p_fadd5 (zw_up mi 17 (mi 3 5).toNatClampNeg t)
def p_fadd3 (s t : Int32) (mi : zw_I) : zw_I := p_fadd4 t (zw_up mi 16 (mi 3 5).toNatClampNeg s)
def p_fadd2 (x s t : Int32) (mi : zw_I) : zw_I := p_fadd3 s t (zw_up mi 15 (mi 3 5).toNatClampNeg x)
def p_fadd (w x s t : Int32) (mi : zw_I) : zw_I := p_fadd2 x s t (zw_up mi 14 (mi 3 5).toNatClampNeg w)
def p_renew : Nat → Int32 → zw_I → zw_I
  | 0, _, mi => mi
  | f + 1, k, mi => if mi 3 5 ≤ k then mi else p_renew f (k + 1) (zw_up mi 18 k.toNatClampNeg (mi 17 k.toNatClampNeg))
def p_strike (w x s : Int32) (mi : zw_I) : Nat → Int32 → Int32 × zw_I
  | 0, _ => (0, mi)
  | f + 1, k => if mi 3 5 ≤ k then (0, mi) else if mi 14 k.toNatClampNeg = w then (if mi 15 k.toNatClampNeg = x then (if mi 16 k.toNatClampNeg = s then (if mi 18 k.toNatClampNeg ≤ 0 then p_strike w x s mi f (k + 1) else (1, zw_up mi 18 k.toNatClampNeg (mi 18 k.toNatClampNeg - 1))) else p_strike w x s mi f (k + 1)) else p_strike w x s mi f (k + 1)) else p_strike w x s mi f (k + 1)
-- Needs (cell 2: count 10, rows of step 64, other 80, least 96)
def p_nadd3 (x q : Int32) (mi : zw_I) : zw_I := zw_up mi 10 x.toNatClampNeg (q + 1)
def p_nadd (x s o m : Int32) (mi : zw_I) : zw_I := p_nadd3 x (mi 10 x.toNatClampNeg) (zw_up (zw_up (zw_up mi (64 + x.toNatClampNeg) (mi 10 x.toNatClampNeg).toNatClampNeg s) (80 + x.toNatClampNeg) (mi 10 x.toNatClampNeg).toNatClampNeg o) (96 + x.toNatClampNeg) (mi 10 x.toNatClampNeg).toNatClampNeg m)
def p_unmet (mi : zw_I) (x s : Int32) : Nat → Int32 → Int32
  | 0, _ => -1
  | f + 1, k => if mi 10 x.toNatClampNeg ≤ k then -1 else if mi (64 + x.toNatClampNeg) k.toNatClampNeg = s then (if mi (96 + x.toNatClampNeg) k.toNatClampNeg ≤ mi 23 (mi (80 + x.toNatClampNeg) k.toNatClampNeg).toNatClampNeg then p_unmet mi x s f (k + 1) else mi (80 + x.toNatClampNeg) k.toNatClampNeg) else p_unmet mi x s f (k + 1)
def p_sum (mi : zw_I) (ml : zw_L) (x s : Int32) : Nat → Int32 → Int64 → Int64
  | 0, _, a => a
  | f + 1, k, a => if mi 10 x.toNatClampNeg ≤ k then a else if mi (64 + x.toNatClampNeg) k.toNatClampNeg = s then p_sum mi ml x s f (k + 1) (a + ml (112 + (mi (80 + x.toNatClampNeg) k.toNatClampNeg).toNatClampNeg) (mi (96 + x.toNatClampNeg) k.toNatClampNeg).toNatClampNeg) else p_sum mi ml x s f (k + 1) a
-- Plan.reset (cell 1: shares 1 0, room 1 1, stopAt 1 7; steps 7, cells 8, starts 9)
def p_reset (n : Nat) : Nat → Int32 → zw_I → zw_L → zw_I × zw_L
  | 0, _, mi, ml => (mi, ml)
  | f + 1, k, mi, ml => if nI n ≤ k then (zw_up (zw_up mi 3 5 0) 1 7 (-1), ml) else p_reset n f (k + 1) (zw_up (zw_up (zw_up mi 7 k.toNatClampNeg 1) 8 k.toNatClampNeg 1) 10 k.toNatClampNeg 0) (zw_up ml 9 k.toNatClampNeg k.toInt64)
-- Course (cell 5)
def p_isFin (mi : zw_I) (x : Int32) : Int32 := if mi 23 x.toNatClampNeg < mi 7 x.toNatClampNeg then 0 else 1
def p_canTake (mi : zw_I) : Int32 := if p_first mi = -1 then 0 else if mi 1 1 < mi 5 9 + mi 8 (p_first mi).toNatClampNeg then 0 else 1
def p_wait (mi : zw_I) (x : Int32) : Int32 := p_unmet mi x (mi 23 x.toNatClampNeg) 7 0
def p_stuck (mi : zw_I) : Nat → Int32 → Int32
  | 0, _ => 1
  | f + 1, k => if mi 6 2 ≤ k then 1 else if mi 29 (mi 28 k.toNatClampNeg).toNatClampNeg = -1 then (if p_canTake mi = 0 then p_stuck mi f (k + 1) else 0) else (if p_wait mi (mi 29 (mi 28 k.toNatClampNeg).toNatClampNeg) = -1 then 0 else p_stuck mi f (k + 1))
def p_end (mi : zw_I) : Int32 := if mi 5 8 < mi 1 0 then (if mi 1 7 = -1 then (if mi 6 2 = 0 then -1 else if p_stuck mi 17 0 = 0 then 2 else -2) else if p_isFin mi (mi 1 7) = 0 then (if mi 6 2 = 0 then -1 else if p_stuck mi 17 0 = 0 then 2 else -2) else 1) else 0
def p_take4 (mi : zw_I) : zw_I := zw_up mi 5 10 (if mi 5 10 < mi 5 9 then mi 5 9 else mi 5 10)
def p_take3 (x : Int32) (mi : zw_I) : zw_I := p_take4 (zw_up mi 5 9 (mi 5 9 + mi 8 x.toNatClampNeg))
def p_take2 (x : Int32) (mi : zw_I) : zw_I := p_take3 x (zw_up mi 25 x.toNatClampNeg (mi 25 x.toNatClampNeg + 1))
def p_take1 (n : Nat) (wk : Int32) (mi : zw_I) : zw_I := p_take2 (p_first mi) (zw_up (p_drop n mi) 29 wk.toNatClampNeg (p_first mi))
def p_take (n : Nat) (wk : Int32) (mi : zw_I) : Int32 × zw_I := if p_canTake mi = 0 then (0, zw_up mi 5 12 (mi 5 12 + 1)) else (1, p_take1 n wk mi)
def p_fail2 (n : Nat) (x : Int32) (mi : zw_I) : zw_I := p_append n (zw_up mi 5 9 (mi 5 9 - mi 8 x.toNatClampNeg)) x
def p_fail1 (wk x : Int32) (mi : zw_I) : zw_I := zw_up (p_lose wk 17 0 0 mi) 23 x.toNatClampNeg 0
def p_fail (n : Nat) (wk x : Int32) (mi : zw_I) : zw_I := p_fail2 n x (p_fail1 wk x mi)
def p_mix (y : Int64) : Int64 := y ^^^ (y.toUInt64 >>> ((29 : Int32).toInt64.toUInt64 &&& Int64.toUInt64 63)).toInt64
def p_next (mi : zw_I) (ml : zw_L) (x : Int32) : Int64 := ml (112 + x.toNatClampNeg) (mi 23 x.toNatClampNeg).toNatClampNeg * 6364136223846793005 + (mi 23 x.toNatClampNeg).toInt64 + 1 + p_sum mi ml x (mi 23 x.toNatClampNeg) 7 0 0
def p_stepL (mi : zw_I) (ml : zw_L) (x : Int32) : zw_L := zw_up ml (112 + x.toNatClampNeg) (mi 23 x.toNatClampNeg + 1).toNatClampNeg (p_mix (p_next mi ml x))
def p_step2 (mi : zw_I) : zw_I := zw_up mi 5 14 (mi 5 14 + 1)
def p_step1 (x : Int32) (mi : zw_I) : zw_I := p_step2 (zw_up mi 23 x.toNatClampNeg (mi 23 x.toNatClampNeg + 1))
def p_step6 (mi : zw_I) : zw_I := zw_up mi 5 8 (mi 5 8 + 1)
def p_step5 (x : Int32) (mi : zw_I) : zw_I := p_step6 (zw_up mi 27 (mi 5 8).toNatClampNeg x)
def p_step4 (x : Int32) (mi : zw_I) : zw_I := p_step5 x (zw_up mi 5 9 (mi 5 9 - mi 8 x.toNatClampNeg))
def p_step3 (wk x : Int32) (mi : zw_I) : zw_I := p_step4 x (zw_up mi 29 wk.toNatClampNeg (-1))
def p_stepB (wk x : Int32) (mi : zw_I) : zw_I := if p_isFin mi x = 0 then mi else p_step3 wk x mi
def p_step (wk x : Int32) (mi : zw_I) : zw_I := p_stepB wk x (p_step1 x mi)
def p_awaits2 (mi : zw_I) : zw_I := zw_up mi 5 13 (mi 5 13 + 1)
def p_awaits (x a : Int32) (mi : zw_I) : zw_I := p_awaits2 (zw_up mi (128 + x.toNatClampNeg) a.toNatClampNeg (mi (128 + x.toNatClampNeg) a.toNatClampNeg + 1))
def p_tick4 (n : Nat) (wk x : Int32) (q : Int32 × zw_I) (ml : zw_L) : Int32 × zw_I × zw_L := if q.1 = 0 then (1, p_step wk x q.2, p_stepL q.2 ml x) else (1, p_fail n wk x q.2, ml)
def p_tick3 (n : Nat) (wk x : Int32) (mi : zw_I) (ml : zw_L) : Int32 × zw_I × zw_L := if p_wait mi x = -1 then p_tick4 n wk x (p_strike wk x (mi 23 x.toNatClampNeg) mi 9 0) ml else (0, p_awaits x (p_wait mi x) mi, ml)
def p_tick2 (n : Nat) (wk x : Int32) (mi : zw_I) (ml : zw_L) : Int32 × zw_I × zw_L := if x = -1 then ((p_take n wk mi).1, (p_take n wk mi).2, ml) else p_tick3 n wk x mi ml
def p_tick (n : Nat) (wk : Int32) (mi : zw_I) (ml : zw_L) : Int32 × zw_I × zw_L := if wk = -1 then (0, mi, ml) else p_tick2 n wk (mi 29 wk.toNatClampNeg) mi ml
def p_prepW (n : Nat) (i : Nat) : Nat → Int32 → zw_I → zw_I
  | 0, _, mi => mi
  | f + 1, k, mi => if nI n ≤ k then mi else p_prepW n i f (k + 1) (zw_up mi (128 + i) k.toNatClampNeg 0)
def p_prepA (n : Nat) : Nat → Int32 → zw_I → zw_L → zw_I × zw_L
  | 0, _, mi, ml => (mi, ml)
  | f + 1, k, mi, ml => if nI n ≤ k then (mi, ml) else p_prepA n f (k + 1) (p_prepW n k.toNatClampNeg (n + 1) 0 (zw_up (zw_up mi 23 k.toNatClampNeg 0) 25 k.toNatClampNeg 0)) (zw_up ml (112 + k.toNatClampNeg) (0 : Int32).toNatClampNeg (ml 9 k.toNatClampNeg))
def p_zero (mi : zw_I) : zw_I := zw_up (zw_up (zw_up (zw_up (zw_up (zw_up (zw_up mi 5 8 0) 5 9 0) 5 10 0) 5 11 0) 5 12 0) 5 13 0) 5 14 0
def p_prepZ (n : Nat) (wk : Int32) (mi : zw_I) : zw_I := p_zero (p_renew 9 0 (p_gather wk 17 0 (p_fill n (n + 1) 0 mi)))
def p_prep (n : Nat) (wk : Int32) (mi : zw_I) (ml : zw_L) : zw_I × zw_L := (p_prepZ n wk (p_prepA n (n + 1) 0 mi ml).1, (p_prepA n (n + 1) 0 mi ml).2)
def p_x (x : Int64) : Int64 := x * 6364136223846793005 + 1442695040888963407
def p_t1 (mi : zw_I) : zw_I := zw_up mi 5 11 (mi 5 11 + 1)
/-- the loop of go -/
def p_loop (n : Nat) : Nat → Int64 → Int32 → zw_I → zw_L → Int32 × zw_I × zw_L
  | 0, _, e, mi, ml => (e, mi, ml)
  | f + 1, x, e, mi, ml => if e = 2 then (if 20000 ≤ mi 5 11 then (e, mi, ml) else (if (p_tick n (p_turn (p_t1 mi) (p_x x)) (p_t1 mi) ml).1 = 0 then p_loop n f (p_x x) e (p_tick n (p_turn (p_t1 mi) (p_x x)) (p_t1 mi) ml).2.1 (p_tick n (p_turn (p_t1 mi) (p_x x)) (p_t1 mi) ml).2.2 else p_loop n f (p_x x) (p_end (p_tick n (p_turn (p_t1 mi) (p_x x)) (p_t1 mi) ml).2.1) (p_tick n (p_turn (p_t1 mi) (p_x x)) (p_t1 mi) ml).2.1 (p_tick n (p_turn (p_t1 mi) (p_x x)) (p_t1 mi) ml).2.2)) else (e, mi, ml)
def p_goE (e : Int32) : Int32 := if e = 2 then -3 else e
def p_go (n : Nat) (wk : Int32) (x : Int64) (mi : zw_I) (ml : zw_L) : Int32 × zw_I × zw_L := p_loop n 20001 x (p_end (p_prep n wk mi ml).1) (p_prep n wk mi ml).1 (p_prep n wk mi ml).2
-- what keeps every index in its range
def zi_P (n : Nat) (mi : zw_I) : Prop := 1 ≤ n ∧ mi 1 0 = nI n ∧ (∃ r : Nat, 1 ≤ r ∧ r ≤ 1000 ∧ mi 1 1 = nI r) ∧ (mi 1 7 = -1 ∨ vp_in (mi 1 7) n) ∧ ∀ i : Nat, i < n → (∃ t : Nat, 1 ≤ t ∧ t ≤ 20 ∧ mi 7 i = nI t) ∧ ∃ w : Nat, w ≤ 1000 ∧ mi 8 i = nI w
def zi_N (n : Nat) (mi : zw_I) : Prop := ∀ i : Nat, i < n → (∃ w : Nat, w ≤ 6 ∧ mi 10 i = nI w) ∧ ∀ k : Nat, k < 6 → vp_in (mi (80 + i) k) n ∧ vp_in (mi (96 + i) k) 21
def zi_F (mi : zw_I) : Prop := ∃ w : Nat, w ≤ 8 ∧ mi 3 5 = nI w
def zi_L (n : Nat) (mi : zw_I) : Prop := vp_in (mi 4 1) n ∧ (∃ q : Nat, q ≤ n ∧ mi 4 2 = nI q) ∧ ∀ i : Nat, i < n → vp_in (mi 22 i) n
def zi_C (n : Nat) (mi : zw_I) : Prop := (∃ w : Nat, w ≤ 16 ∧ mi 6 2 = nI w) ∧ (∀ k : Nat, k < 16 → vp_in (mi 28 k) 16) ∧ ∀ w : Nat, w < 16 → mi 29 w = -1 ∨ vp_in (mi 29 w) n
def zi (n : Nat) (mi : zw_I) : Prop := zi_P n mi ∧ zi_N n mi ∧ zi_F mi ∧ zi_L n mi ∧ zi_C n mi
theorem zi_first {n : Nat} {mi : zw_I} (h : zi n mi) : p_first mi = -1 ∨ vp_in (p_first mi) n := by
  unfold p_first
  by_cases c : mi 4 2 ≤ 0
  · rw [if_pos c]; exact Or.inl rfl
  · rw [if_neg c]; exact Or.inr (h.2.2.2.1.2.2 _ (vlt h.2.2.2.1.1))
theorem zi_firstN {n : Nat} {mi : zw_I} (h : zi n mi) (c : ¬ p_first mi = -1) : vp_in (p_first mi) n := (zi_first h).elim (fun e => absurd e c) id
theorem p_fill_off {n : Nat} {a b : Nat} (h1 : a ≠ 22) (h2 : a ≠ 4) : ∀ (f : Nat) (k : Int32) (mi : zw_I), p_fill n f k mi a b = mi a b
  | 0, _, _ => rfl
  | f + 1, k, mi => by
    rw [p_fill]
    split
    · simp [zw_up, h2]
    · rw [p_fill_off h1 h2 f]; simp [zw_up, h1]
theorem p_gather_off {wk : Int32} {a b : Nat} (h1 : a ≠ 6) (h2 : a ≠ 28) (h3 : a ≠ 29) : ∀ (f : Nat) (k : Int32) (mi : zw_I), p_gather wk f k mi a b = mi a b
  | 0, _, _ => rfl
  | f + 1, k, mi => by
    rw [p_gather]
    split
    · simp [zw_up, h1]
    · rw [p_gather_off h1 h2 h3 f]; simp [zw_up, h2, h3]
theorem p_renew_off {a b : Nat} (h1 : a ≠ 18) : ∀ (f : Nat) (k : Int32) (mi : zw_I), p_renew f k mi a b = mi a b
  | 0, _, _ => rfl
  | f + 1, k, mi => by
    rw [p_renew]
    split
    · rfl
    · rw [p_renew_off h1 f]; simp [zw_up, h1]
theorem p_lose_off {wk : Int32} {a b : Nat} (h1 : a ≠ 6) (h2 : a ≠ 28) : ∀ (f : Nat) (q k : Int32) (mi : zw_I), p_lose wk f q k mi a b = mi a b
  | 0, _, _, _ => rfl
  | f + 1, q, k, mi => by
    rw [p_lose]
    split
    · simp [zw_up, h1]
    · split
      · exact p_lose_off h1 h2 f q (k + 1) mi
      · rw [p_lose_off h1 h2 f]; simp [zw_up, h2]
theorem p_strike_off {w x s : Int32} {mi : zw_I} {a b : Nat} (h1 : a ≠ 18) : ∀ (f : Nat) (k : Int32), (p_strike w x s mi f k).2 a b = mi a b
  | 0, _ => rfl
  | f + 1, k => by
    rw [p_strike]
    split
    · rfl
    · split
      · split
        · split
          · split
            · exact p_strike_off h1 f (k + 1)
            · simp [zw_up, h1]
          · exact p_strike_off h1 f (k + 1)
        · exact p_strike_off h1 f (k + 1)
      · exact p_strike_off h1 f (k + 1)
theorem p_prepW_off {n i a b : Nat} (h : a ≠ 128 + i) : ∀ (f : Nat) (k : Int32) (mi : zw_I), p_prepW n i f k mi a b = mi a b
  | 0, _, _ => rfl
  | f + 1, k, mi => by
    rw [p_prepW]
    split
    · rfl
    · rw [p_prepW_off h f]; simp [zw_up, h]
theorem p_prepA_off {n a b : Nat} (h1 : a ≠ 23) (h2 : a ≠ 25) (h3 : a < 128) : ∀ (f : Nat) (k : Int32) (mi : zw_I) (ml : zw_L), (p_prepA n f k mi ml).1 a b = mi a b
  | 0, _, _, _ => rfl
  | f + 1, k, mi, ml => by
    rw [p_prepA]
    split
    · rfl
    · rw [p_prepA_off h1 h2 h3 f, p_prepW_off (by omega)]; simp [zw_up, h1, h2]
theorem p_unmet_in {n : Nat} {mi : zw_I} {x s : Int32} {w : Nat} (hw : w ≤ 6) (ew : mi 10 x.toNatClampNeg = nI w) (ho : ∀ k : Nat, k < 6 → vp_in (mi (80 + x.toNatClampNeg) k) n) : ∀ (f i : Nat), i < 100 → f ≤ 7 → p_unmet mi x s f (nI i) = -1 ∨ vp_in (p_unmet mi x s f (nI i)) n
  | 0, _, _, _ => Or.inl rfl
  | f + 1, i, hi, hf => by
    rw [p_unmet]
    by_cases c : mi 10 x.toNatClampNeg ≤ nI i
    · rw [if_pos c]; exact Or.inl rfl
    · rw [if_neg c]
      have hlt : i < w := zn_lt (by omega) (by rw [← ew]; exact c)
      have ih := p_unmet_in (s := s) hw ew ho f (i + 1) (by omega) (by omega)
      rw [nI_1 i]
      split
      · split
        · exact ih
        · exact Or.inr (ho _ (by rw [nI_clamp (by omega)]; omega))
      · exact ih
theorem zi_wait {n : Nat} {mi : zw_I} {x : Int32} (hI : zi n mi) (hx : vp_in x n) : p_wait mi x = -1 ∨ vp_in (p_wait mi x) n := by
  obtain ⟨⟨w, hw, ew⟩, ho⟩ := hI.2.1 _ (vlt hx)
  exact p_unmet_in hw ew (fun k hk => (ho k hk).1) 7 0 (by decide) (by decide)
/-- the share that a worker works at is not finished -/
def zi_T (n : Nat) (mi : zw_I) (x : Int32) : Prop := vp_in (mi 23 x.toNatClampNeg) 21 ∧ vp_in (mi 23 x.toNatClampNeg + 1) 21 ∧ vp_in (mi 5 8) n
theorem zi_same {n : Nat} {mi m : zw_I} (hn : n ≤ 16) (h : ∀ a b, a ≠ 18 → a < 112 → m a b = mi a b) (hI : zi n mi) : zi n m := by
  obtain ⟨⟨p1, p2, p3, p4, p5⟩, hN, hF, ⟨l1, l2, l3⟩, c1, c2, c3⟩ := hI
  have e : ∀ a b, a ≠ 18 → a < 112 → m a b = mi a b := h
  refine ⟨⟨p1, ?_, ?_, ?_, fun i hi => ?_⟩, fun i hi => ?_, ?_, ⟨?_, ?_, fun i hi => ?_⟩, ?_, fun k hk => ?_, fun w hw => ?_⟩
  · rw [e 1 0 (by decide) (by decide)]; exact p2
  · rw [e 1 1 (by decide) (by decide)]; exact p3
  · rw [e 1 7 (by decide) (by decide)]; exact p4
  · rw [e 7 i (by decide) (by decide), e 8 i (by decide) (by decide)]; exact p5 i hi
  · obtain ⟨q1, q2⟩ := hN i hi
    refine ⟨by rw [e 10 i (by decide) (by decide)]; exact q1, fun k hk => ?_⟩
    rw [e (80 + i) k (by omega) (by omega), e (96 + i) k (by omega) (by omega)]
    exact q2 k hk
  · unfold zi_F; rw [e 3 5 (by decide) (by decide)]; exact hF
  · rw [e 4 1 (by decide) (by decide)]; exact l1
  · rw [e 4 2 (by decide) (by decide)]; exact l2
  · rw [e 22 i (by decide) (by decide)]; exact l3 i hi
  · rw [e 6 2 (by decide) (by decide)]; exact c1
  · rw [e 28 k (by decide) (by decide)]; exact c2 k hk
  · rw [e 29 w (by decide) (by decide)]; exact c3 w hw
theorem zi_t1 {n : Nat} {mi : zw_I} (hn : n ≤ 16) (hI : zi n mi) : zi n (p_t1 mi) := by
  obtain ⟨⟨p1, p2, p3, p4, p5⟩, hN, hF, ⟨l1, l2, l3⟩, c1, c2, c3⟩ := hI
  have e : ∀ a b, a ≠ 5 → p_t1 mi a b = mi a b := fun a b h => zw_up_ne1 _ _ _ h
  refine ⟨⟨p1, ?_, ?_, ?_, fun i hi => ?_⟩, fun i hi => ?_, ?_, ⟨?_, ?_, fun i hi => ?_⟩, ?_, fun k hk => ?_, fun w hw => ?_⟩
  · rw [e 1 0 (by decide)]; exact p2
  · rw [e 1 1 (by decide)]; exact p3
  · rw [e 1 7 (by decide)]; exact p4
  · rw [e 7 i (by decide), e 8 i (by decide)]; exact p5 i hi
  · obtain ⟨q1, q2⟩ := hN i hi
    refine ⟨by rw [e 10 i (by decide)]; exact q1, fun k hk => ?_⟩
    rw [e (80 + i) k (by omega), e (96 + i) k (by omega)]
    exact q2 k hk
  · unfold zi_F; rw [e 3 5 (by decide)]; exact hF
  · rw [e 4 1 (by decide)]; exact l1
  · rw [e 4 2 (by decide)]; exact l2
  · rw [e 22 i (by decide)]; exact l3 i hi
  · rw [e 6 2 (by decide)]; exact c1
  · rw [e 28 k (by decide)]; exact c2 k hk
  · rw [e 29 w (by decide)]; exact c3 w hw
theorem zi_T_same {n : Nat} {mi m : zw_I} {x : Int32} (h : ∀ a b, a ≠ 18 → m a b = mi a b) (ht : zi_T n mi x) : zi_T n m x := by
  unfold zi_T
  rw [h 23 _ (by decide), h 5 8 (by decide)]
  exact ht
theorem zi_wrap {n : Nat} {mi : zw_I} (hn : n ≤ 16) (h : zi_L n mi) (c : ¬ nI n ≤ mi 4 2) : vp_in (p_wrapped n (mi 4 1 + mi 4 2)) n := by
  obtain ⟨h1, ⟨q, hq, eq⟩, -⟩ := h
  obtain ⟨j, hj, ej⟩ := vp_in_of h1 (by omega)
  rw [eq] at c ⊢
  rw [ej, nI_add]
  have hlt : q < n := zn_lt (by omega) c
  unfold p_wrapped
  by_cases hc : nI n ≤ nI (j + q)
  · have := zn_le (by omega) (by omega) hc
    rw [if_pos hc, pk_sub this]
    exact vp_in_nI (by omega) (by omega)
  · have := zn_lt (by omega) hc
    rw [if_neg hc]
    exact vp_in_nI (by omega) (by omega)
theorem p_fail1_line {wk x : Int32} {mi : zw_I} {b : Nat} : p_fail1 wk x mi 4 b = mi 4 b := by
  unfold p_fail1
  rw [zw_up_ne1 _ _ _ (by decide), p_lose_off (by decide) (by decide)]
theorem nz_of {x : Int32} (h : x = 0 ∨ x = 1) : narrow .boolean (.int x) = .int x := by rcases h with rfl | rfl <;> rfl
theorem p_take_01 {n : Nat} {wk : Int32} {mi : zw_I} : (p_take n wk mi).1 = 0 ∨ (p_take n wk mi).1 = 1 := by
  unfold p_take
  split
  · exact Or.inl rfl
  · exact Or.inr rfl
/-- what keeps a run's ticks in their ranges: G is kept by every tick -/
def zg_K (n : Nat) (G : zw_I → Prop) : Prop := (∀ mi : zw_I, G mi → zi n mi) ∧ (∀ (mi : zw_I) (ml : zw_L) (x : Int64), G mi → G (p_tick n (p_turn (p_t1 mi) x) (p_t1 mi) ml).2.1) ∧
  ∀ (mi : zw_I) (x : Int64), G mi → (¬ p_t1 mi 6 2 ≤ 0 → vp_in (p_place (p_t1 mi) x) 16) ∧ (¬ p_t1 mi 6 2 ≤ 0 → ¬ (p_t1 mi 6 2).toInt64 = 0) ∧ (p_turn (p_t1 mi) x = -1 ∨ vp_in (p_turn (p_t1 mi) x) 16) ∧ ∀ y : Int32, p_t1 mi 29 (p_turn (p_t1 mi) x).toNatClampNeg = y → ¬ y = -1 → vp_in y n ∧ zi_T n (p_t1 mi) y
end
section
abbrev Y_Line_wrapped : zc_Y := (⟨R_Line, "wrapped", "(I)I"⟩, prog_5_method_6_code, 2, (some FieldType.int))
abbrev Y_Line_first : zc_Y := (⟨R_Line, "first", "()I"⟩, prog_5_method_3_code, 1, (some FieldType.int))
abbrev Y_Line_dropFirst : zc_Y := (⟨R_Line, "dropFirst", "()V"⟩, prog_5_method_4_code, 1, none)
abbrev Y_Line_append : zc_Y := (⟨R_Line, "append", "(I)V"⟩, prog_5_method_5_code, 2, none)
abbrev Y_Line_fillByNumber : zc_Y := (⟨R_Line, "fillByNumber", "()V"⟩, prog_5_method_2_code, 2, none)
abbrev Y_Crew_gather : zc_Y := (⟨R_Crew, "gather", "(I)V"⟩, prog_3_method_2_code, 3, none)
abbrev Y_Crew_whoseTurn : zc_Y := (⟨R_Crew, "whoseTurn", "(J)I"⟩, prog_3_method_3_code, 3, (some FieldType.int))
abbrev Y_Crew_lose : zc_Y := (⟨R_Crew, "lose", "(I)V"⟩, prog_3_method_4_code, 4, none)
abbrev Y_Failings_add : zc_Y := (⟨R_Failings, "add", "(IIII)I"⟩, prog_4_method_2_code, 5, (some FieldType.int))
abbrev Y_Failings_renew : zc_Y := (⟨R_Failings, "renew", "()V"⟩, prog_4_method_3_code, 2, none)
abbrev Y_Failings_strike : zc_Y := (⟨R_Failings, "strike", "(III)Z"⟩, prog_4_method_4_code, 5, (some FieldType.boolean))
abbrev Y_Needs_add : zc_Y := (⟨R_Needs, "add", "(IIII)I"⟩, prog_6_method_2_code, 6, (some FieldType.int))
abbrev Y_Needs_firstUnmet : zc_Y := (⟨R_Needs, "firstUnmet", "(II[I)I"⟩, prog_6_method_3_code, 6, (some FieldType.int))
abbrev Y_Needs_sumOfValues : zc_Y := (⟨R_Needs, "sumOfValues", "(II[[J)J"⟩, prog_6_method_4_code, 7, (some FieldType.long))
theorem d_Line_wrapped_0 : decode prog_5_method_6_code 0 = .ok (.iload_n 1, 1) := by decide +kernel
theorem d_Line_wrapped_1 : decode prog_5_method_6_code 1 = .ok (.aload_n 0, 1) := by decide +kernel
theorem d_Line_wrapped_2 : decode prog_5_method_6_code 2 = .ok (.getfield 9, 3) := by decide +kernel
theorem d_Line_wrapped_5 : decode prog_5_method_6_code 5 = .ok (.arraylength, 1) := by decide +kernel
theorem d_Line_wrapped_6 : decode prog_5_method_6_code 6 = .ok (.if_icmp .ge 7, 3) := by decide +kernel
theorem d_Line_wrapped_9 : decode prog_5_method_6_code 9 = .ok (.iload_n 1, 1) := by decide +kernel
theorem d_Line_wrapped_10 : decode prog_5_method_6_code 10 = .ok (.goto 10, 3) := by decide +kernel
theorem d_Line_wrapped_13 : decode prog_5_method_6_code 13 = .ok (.iload_n 1, 1) := by decide +kernel
theorem d_Line_wrapped_14 : decode prog_5_method_6_code 14 = .ok (.aload_n 0, 1) := by decide +kernel
theorem d_Line_wrapped_15 : decode prog_5_method_6_code 15 = .ok (.getfield 9, 3) := by decide +kernel
theorem d_Line_wrapped_18 : decode prog_5_method_6_code 18 = .ok (.arraylength, 1) := by decide +kernel
theorem d_Line_wrapped_19 : decode prog_5_method_6_code 19 = .ok (.isub, 1) := by decide +kernel
theorem d_Line_wrapped_20 : decode prog_5_method_6_code 20 = .ok (.ireturn, 1) := by decide +kernel
theorem d_Line_first_0 : decode prog_5_method_3_code 0 = .ok (.aload_n 0, 1) := by decide +kernel
theorem d_Line_first_1 : decode prog_5_method_3_code 1 = .ok (.getfield 19, 3) := by decide +kernel
theorem d_Line_first_4 : decode prog_5_method_3_code 4 = .ok (.ifCond .le 15, 3) := by decide +kernel
theorem d_Line_first_7 : decode prog_5_method_3_code 7 = .ok (.aload_n 0, 1) := by decide +kernel
theorem d_Line_first_8 : decode prog_5_method_3_code 8 = .ok (.getfield 9, 3) := by decide +kernel
theorem d_Line_first_11 : decode prog_5_method_3_code 11 = .ok (.aload_n 0, 1) := by decide +kernel
theorem d_Line_first_12 : decode prog_5_method_3_code 12 = .ok (.getfield 15, 3) := by decide +kernel
theorem d_Line_first_15 : decode prog_5_method_3_code 15 = .ok (.iaload, 1) := by decide +kernel
theorem d_Line_first_16 : decode prog_5_method_3_code 16 = .ok (.goto 4, 3) := by decide +kernel
theorem d_Line_first_19 : decode prog_5_method_3_code 19 = .ok (.iconst (-1), 1) := by decide +kernel
theorem d_Line_first_20 : decode prog_5_method_3_code 20 = .ok (.ireturn, 1) := by decide +kernel
theorem d_Line_dropFirst_0 : decode prog_5_method_4_code 0 = .ok (.aload_n 0, 1) := by decide +kernel
theorem d_Line_dropFirst_1 : decode prog_5_method_4_code 1 = .ok (.getfield 19, 3) := by decide +kernel
theorem d_Line_dropFirst_4 : decode prog_5_method_4_code 4 = .ok (.ifCond .le 27, 3) := by decide +kernel
theorem d_Line_dropFirst_7 : decode prog_5_method_4_code 7 = .ok (.aload_n 0, 1) := by decide +kernel
theorem d_Line_dropFirst_8 : decode prog_5_method_4_code 8 = .ok (.aload_n 0, 1) := by decide +kernel
theorem d_Line_dropFirst_9 : decode prog_5_method_4_code 9 = .ok (.aload_n 0, 1) := by decide +kernel
theorem d_Line_dropFirst_10 : decode prog_5_method_4_code 10 = .ok (.getfield 15, 3) := by decide +kernel
theorem d_Line_dropFirst_13 : decode prog_5_method_4_code 13 = .ok (.iconst 1, 1) := by decide +kernel
theorem d_Line_dropFirst_14 : decode prog_5_method_4_code 14 = .ok (.iadd, 1) := by decide +kernel
theorem d_Line_dropFirst_15 : decode prog_5_method_4_code 15 = .ok (.invokevirtual 22, 3) := by decide +kernel
theorem d_Line_dropFirst_18 : decode prog_5_method_4_code 18 = .ok (.putfield 15, 3) := by decide +kernel
theorem d_Line_dropFirst_21 : decode prog_5_method_4_code 21 = .ok (.aload_n 0, 1) := by decide +kernel
theorem d_Line_dropFirst_22 : decode prog_5_method_4_code 22 = .ok (.dup, 1) := by decide +kernel
theorem d_Line_dropFirst_23 : decode prog_5_method_4_code 23 = .ok (.getfield 19, 3) := by decide +kernel
theorem d_Line_dropFirst_26 : decode prog_5_method_4_code 26 = .ok (.iconst 1, 1) := by decide +kernel
theorem d_Line_dropFirst_27 : decode prog_5_method_4_code 27 = .ok (.isub, 1) := by decide +kernel
theorem d_Line_dropFirst_28 : decode prog_5_method_4_code 28 = .ok (.putfield 19, 3) := by decide +kernel
theorem d_Line_dropFirst_31 : decode prog_5_method_4_code 31 = .ok (.return_, 1) := by decide +kernel
theorem d_Line_append_0 : decode prog_5_method_5_code 0 = .ok (.aload_n 0, 1) := by decide +kernel
theorem d_Line_append_1 : decode prog_5_method_5_code 1 = .ok (.getfield 19, 3) := by decide +kernel
theorem d_Line_append_4 : decode prog_5_method_5_code 4 = .ok (.aload_n 0, 1) := by decide +kernel
theorem d_Line_append_5 : decode prog_5_method_5_code 5 = .ok (.getfield 9, 3) := by decide +kernel
theorem d_Line_append_8 : decode prog_5_method_5_code 8 = .ok (.arraylength, 1) := by decide +kernel
theorem d_Line_append_9 : decode prog_5_method_5_code 9 = .ok (.if_icmp .ge 32, 3) := by decide +kernel
theorem d_Line_append_12 : decode prog_5_method_5_code 12 = .ok (.aload_n 0, 1) := by decide +kernel
theorem d_Line_append_13 : decode prog_5_method_5_code 13 = .ok (.getfield 9, 3) := by decide +kernel
theorem d_Line_append_16 : decode prog_5_method_5_code 16 = .ok (.aload_n 0, 1) := by decide +kernel
theorem d_Line_append_17 : decode prog_5_method_5_code 17 = .ok (.aload_n 0, 1) := by decide +kernel
theorem d_Line_append_18 : decode prog_5_method_5_code 18 = .ok (.getfield 15, 3) := by decide +kernel
theorem d_Line_append_21 : decode prog_5_method_5_code 21 = .ok (.aload_n 0, 1) := by decide +kernel
theorem d_Line_append_22 : decode prog_5_method_5_code 22 = .ok (.getfield 19, 3) := by decide +kernel
theorem d_Line_append_25 : decode prog_5_method_5_code 25 = .ok (.iadd, 1) := by decide +kernel
theorem d_Line_append_26 : decode prog_5_method_5_code 26 = .ok (.invokevirtual 22, 3) := by decide +kernel
theorem d_Line_append_29 : decode prog_5_method_5_code 29 = .ok (.iload_n 1, 1) := by decide +kernel
theorem d_Line_append_30 : decode prog_5_method_5_code 30 = .ok (.iastore, 1) := by decide +kernel
theorem d_Line_append_31 : decode prog_5_method_5_code 31 = .ok (.aload_n 0, 1) := by decide +kernel
theorem d_Line_append_32 : decode prog_5_method_5_code 32 = .ok (.dup, 1) := by decide +kernel
theorem d_Line_append_33 : decode prog_5_method_5_code 33 = .ok (.getfield 19, 3) := by decide +kernel
theorem d_Line_append_36 : decode prog_5_method_5_code 36 = .ok (.iconst 1, 1) := by decide +kernel
theorem d_Line_append_37 : decode prog_5_method_5_code 37 = .ok (.iadd, 1) := by decide +kernel
theorem d_Line_append_38 : decode prog_5_method_5_code 38 = .ok (.putfield 19, 3) := by decide +kernel
theorem d_Line_append_41 : decode prog_5_method_5_code 41 = .ok (.return_, 1) := by decide +kernel
theorem d_Line_fillByNumber_0 : decode prog_5_method_2_code 0 = .ok (.iconst 0, 1) := by decide +kernel
theorem d_Line_fillByNumber_1 : decode prog_5_method_2_code 1 = .ok (.istore_n 1, 1) := by decide +kernel
theorem d_Line_fillByNumber_2 : decode prog_5_method_2_code 2 = .ok (.iload_n 1, 1) := by decide +kernel
theorem d_Line_fillByNumber_3 : decode prog_5_method_2_code 3 = .ok (.aload_n 0, 1) := by decide +kernel
theorem d_Line_fillByNumber_4 : decode prog_5_method_2_code 4 = .ok (.getfield 9, 3) := by decide +kernel
theorem d_Line_fillByNumber_7 : decode prog_5_method_2_code 7 = .ok (.arraylength, 1) := by decide +kernel
theorem d_Line_fillByNumber_8 : decode prog_5_method_2_code 8 = .ok (.if_icmp .ge 16, 3) := by decide +kernel
theorem d_Line_fillByNumber_11 : decode prog_5_method_2_code 11 = .ok (.aload_n 0, 1) := by decide +kernel
theorem d_Line_fillByNumber_12 : decode prog_5_method_2_code 12 = .ok (.getfield 9, 3) := by decide +kernel
theorem d_Line_fillByNumber_15 : decode prog_5_method_2_code 15 = .ok (.iload_n 1, 1) := by decide +kernel
theorem d_Line_fillByNumber_16 : decode prog_5_method_2_code 16 = .ok (.iload_n 1, 1) := by decide +kernel
theorem d_Line_fillByNumber_17 : decode prog_5_method_2_code 17 = .ok (.iastore, 1) := by decide +kernel
theorem d_Line_fillByNumber_18 : decode prog_5_method_2_code 18 = .ok (.iinc 1 1, 3) := by decide +kernel
theorem d_Line_fillByNumber_21 : decode prog_5_method_2_code 21 = .ok (.goto (-19), 3) := by decide +kernel
theorem d_Line_fillByNumber_24 : decode prog_5_method_2_code 24 = .ok (.aload_n 0, 1) := by decide +kernel
theorem d_Line_fillByNumber_25 : decode prog_5_method_2_code 25 = .ok (.iconst 0, 1) := by decide +kernel
theorem d_Line_fillByNumber_26 : decode prog_5_method_2_code 26 = .ok (.putfield 15, 3) := by decide +kernel
theorem d_Line_fillByNumber_29 : decode prog_5_method_2_code 29 = .ok (.aload_n 0, 1) := by decide +kernel
theorem d_Line_fillByNumber_30 : decode prog_5_method_2_code 30 = .ok (.aload_n 0, 1) := by decide +kernel
theorem d_Line_fillByNumber_31 : decode prog_5_method_2_code 31 = .ok (.getfield 9, 3) := by decide +kernel
theorem d_Line_fillByNumber_34 : decode prog_5_method_2_code 34 = .ok (.arraylength, 1) := by decide +kernel
theorem d_Line_fillByNumber_35 : decode prog_5_method_2_code 35 = .ok (.putfield 19, 3) := by decide +kernel
theorem d_Line_fillByNumber_38 : decode prog_5_method_2_code 38 = .ok (.return_, 1) := by decide +kernel
theorem d_Crew_gather_0 : decode prog_3_method_2_code 0 = .ok (.iconst 0, 1) := by decide +kernel
theorem d_Crew_gather_1 : decode prog_3_method_2_code 1 = .ok (.istore_n 2, 1) := by decide +kernel
theorem d_Crew_gather_2 : decode prog_3_method_2_code 2 = .ok (.iload_n 2, 1) := by decide +kernel
theorem d_Crew_gather_3 : decode prog_3_method_2_code 3 = .ok (.iload_n 1, 1) := by decide +kernel
theorem d_Crew_gather_4 : decode prog_3_method_2_code 4 = .ok (.if_icmp .ge 23, 3) := by decide +kernel
theorem d_Crew_gather_7 : decode prog_3_method_2_code 7 = .ok (.aload_n 0, 1) := by decide +kernel
theorem d_Crew_gather_8 : decode prog_3_method_2_code 8 = .ok (.getfield 9, 3) := by decide +kernel
theorem d_Crew_gather_11 : decode prog_3_method_2_code 11 = .ok (.iload_n 2, 1) := by decide +kernel
theorem d_Crew_gather_12 : decode prog_3_method_2_code 12 = .ok (.iload_n 2, 1) := by decide +kernel
theorem d_Crew_gather_13 : decode prog_3_method_2_code 13 = .ok (.iastore, 1) := by decide +kernel
theorem d_Crew_gather_14 : decode prog_3_method_2_code 14 = .ok (.aload_n 0, 1) := by decide +kernel
theorem d_Crew_gather_15 : decode prog_3_method_2_code 15 = .ok (.getfield 15, 3) := by decide +kernel
theorem d_Crew_gather_18 : decode prog_3_method_2_code 18 = .ok (.iload_n 2, 1) := by decide +kernel
theorem d_Crew_gather_19 : decode prog_3_method_2_code 19 = .ok (.iconst (-1), 1) := by decide +kernel
theorem d_Crew_gather_20 : decode prog_3_method_2_code 20 = .ok (.iastore, 1) := by decide +kernel
theorem d_Crew_gather_21 : decode prog_3_method_2_code 21 = .ok (.iinc 2 1, 3) := by decide +kernel
theorem d_Crew_gather_24 : decode prog_3_method_2_code 24 = .ok (.goto (-22), 3) := by decide +kernel
theorem d_Crew_gather_27 : decode prog_3_method_2_code 27 = .ok (.aload_n 0, 1) := by decide +kernel
theorem d_Crew_gather_28 : decode prog_3_method_2_code 28 = .ok (.iload_n 1, 1) := by decide +kernel
theorem d_Crew_gather_29 : decode prog_3_method_2_code 29 = .ok (.putfield 18, 3) := by decide +kernel
theorem d_Crew_gather_32 : decode prog_3_method_2_code 32 = .ok (.return_, 1) := by decide +kernel
theorem d_Crew_whoseTurn_0 : decode prog_3_method_3_code 0 = .ok (.aload_n 0, 1) := by decide +kernel
theorem d_Crew_whoseTurn_1 : decode prog_3_method_3_code 1 = .ok (.getfield 18, 3) := by decide +kernel
theorem d_Crew_whoseTurn_4 : decode prog_3_method_3_code 4 = .ok (.ifCond .le 22, 3) := by decide +kernel
theorem d_Crew_whoseTurn_7 : decode prog_3_method_3_code 7 = .ok (.aload_n 0, 1) := by decide +kernel
theorem d_Crew_whoseTurn_8 : decode prog_3_method_3_code 8 = .ok (.getfield 9, 3) := by decide +kernel
theorem d_Crew_whoseTurn_11 : decode prog_3_method_3_code 11 = .ok (.lload_n 1, 1) := by decide +kernel
theorem d_Crew_whoseTurn_12 : decode prog_3_method_3_code 12 = .ok (.bipush 33, 2) := by decide +kernel
theorem d_Crew_whoseTurn_14 : decode prog_3_method_3_code 14 = .ok (.lushr, 1) := by decide +kernel
theorem d_Crew_whoseTurn_15 : decode prog_3_method_3_code 15 = .ok (.aload_n 0, 1) := by decide +kernel
theorem d_Crew_whoseTurn_16 : decode prog_3_method_3_code 16 = .ok (.getfield 18, 3) := by decide +kernel
theorem d_Crew_whoseTurn_19 : decode prog_3_method_3_code 19 = .ok (.i2l, 1) := by decide +kernel
theorem d_Crew_whoseTurn_20 : decode prog_3_method_3_code 20 = .ok (.lrem, 1) := by decide +kernel
theorem d_Crew_whoseTurn_21 : decode prog_3_method_3_code 21 = .ok (.l2i, 1) := by decide +kernel
theorem d_Crew_whoseTurn_22 : decode prog_3_method_3_code 22 = .ok (.iaload, 1) := by decide +kernel
theorem d_Crew_whoseTurn_23 : decode prog_3_method_3_code 23 = .ok (.goto 4, 3) := by decide +kernel
theorem d_Crew_whoseTurn_26 : decode prog_3_method_3_code 26 = .ok (.iconst (-1), 1) := by decide +kernel
theorem d_Crew_whoseTurn_27 : decode prog_3_method_3_code 27 = .ok (.ireturn, 1) := by decide +kernel
theorem d_Crew_lose_0 : decode prog_3_method_4_code 0 = .ok (.iconst 0, 1) := by decide +kernel
theorem d_Crew_lose_1 : decode prog_3_method_4_code 1 = .ok (.istore_n 2, 1) := by decide +kernel
theorem d_Crew_lose_2 : decode prog_3_method_4_code 2 = .ok (.iconst 0, 1) := by decide +kernel
theorem d_Crew_lose_3 : decode prog_3_method_4_code 3 = .ok (.istore_n 3, 1) := by decide +kernel
theorem d_Crew_lose_4 : decode prog_3_method_4_code 4 = .ok (.iload_n 3, 1) := by decide +kernel
theorem d_Crew_lose_5 : decode prog_3_method_4_code 5 = .ok (.aload_n 0, 1) := by decide +kernel
theorem d_Crew_lose_6 : decode prog_3_method_4_code 6 = .ok (.getfield 18, 3) := by decide +kernel
theorem d_Crew_lose_9 : decode prog_3_method_4_code 9 = .ok (.if_icmp .ge 34, 3) := by decide +kernel
theorem d_Crew_lose_12 : decode prog_3_method_4_code 12 = .ok (.aload_n 0, 1) := by decide +kernel
theorem d_Crew_lose_13 : decode prog_3_method_4_code 13 = .ok (.getfield 9, 3) := by decide +kernel
theorem d_Crew_lose_16 : decode prog_3_method_4_code 16 = .ok (.iload_n 3, 1) := by decide +kernel
theorem d_Crew_lose_17 : decode prog_3_method_4_code 17 = .ok (.iaload, 1) := by decide +kernel
theorem d_Crew_lose_18 : decode prog_3_method_4_code 18 = .ok (.iload_n 1, 1) := by decide +kernel
theorem d_Crew_lose_19 : decode prog_3_method_4_code 19 = .ok (.if_icmp .eq 18, 3) := by decide +kernel
theorem d_Crew_lose_22 : decode prog_3_method_4_code 22 = .ok (.aload_n 0, 1) := by decide +kernel
theorem d_Crew_lose_23 : decode prog_3_method_4_code 23 = .ok (.getfield 9, 3) := by decide +kernel
theorem d_Crew_lose_26 : decode prog_3_method_4_code 26 = .ok (.iload_n 2, 1) := by decide +kernel
theorem d_Crew_lose_27 : decode prog_3_method_4_code 27 = .ok (.aload_n 0, 1) := by decide +kernel
theorem d_Crew_lose_28 : decode prog_3_method_4_code 28 = .ok (.getfield 9, 3) := by decide +kernel
theorem d_Crew_lose_31 : decode prog_3_method_4_code 31 = .ok (.iload_n 3, 1) := by decide +kernel
theorem d_Crew_lose_32 : decode prog_3_method_4_code 32 = .ok (.iaload, 1) := by decide +kernel
theorem d_Crew_lose_33 : decode prog_3_method_4_code 33 = .ok (.iastore, 1) := by decide +kernel
theorem d_Crew_lose_34 : decode prog_3_method_4_code 34 = .ok (.iinc 2 1, 3) := by decide +kernel
theorem d_Crew_lose_37 : decode prog_3_method_4_code 37 = .ok (.iinc 3 1, 3) := by decide +kernel
theorem d_Crew_lose_40 : decode prog_3_method_4_code 40 = .ok (.goto (-36), 3) := by decide +kernel
theorem d_Crew_lose_43 : decode prog_3_method_4_code 43 = .ok (.aload_n 0, 1) := by decide +kernel
theorem d_Crew_lose_44 : decode prog_3_method_4_code 44 = .ok (.iload_n 2, 1) := by decide +kernel
theorem d_Crew_lose_45 : decode prog_3_method_4_code 45 = .ok (.putfield 18, 3) := by decide +kernel
theorem d_Crew_lose_48 : decode prog_3_method_4_code 48 = .ok (.return_, 1) := by decide +kernel
theorem d_Failings_add_0 : decode prog_4_method_2_code 0 = .ok (.aload_n 0, 1) := by decide +kernel
theorem d_Failings_add_1 : decode prog_4_method_2_code 1 = .ok (.getfield 9, 3) := by decide +kernel
theorem d_Failings_add_4 : decode prog_4_method_2_code 4 = .ok (.aload_n 0, 1) := by decide +kernel
theorem d_Failings_add_5 : decode prog_4_method_2_code 5 = .ok (.getfield 27, 3) := by decide +kernel
theorem d_Failings_add_8 : decode prog_4_method_2_code 8 = .ok (.iload_n 1, 1) := by decide +kernel
theorem d_Failings_add_9 : decode prog_4_method_2_code 9 = .ok (.iastore, 1) := by decide +kernel
theorem d_Failings_add_10 : decode prog_4_method_2_code 10 = .ok (.aload_n 0, 1) := by decide +kernel
theorem d_Failings_add_11 : decode prog_4_method_2_code 11 = .ok (.getfield 15, 3) := by decide +kernel
theorem d_Failings_add_14 : decode prog_4_method_2_code 14 = .ok (.aload_n 0, 1) := by decide +kernel
theorem d_Failings_add_15 : decode prog_4_method_2_code 15 = .ok (.getfield 27, 3) := by decide +kernel
theorem d_Failings_add_18 : decode prog_4_method_2_code 18 = .ok (.iload_n 2, 1) := by decide +kernel
theorem d_Failings_add_19 : decode prog_4_method_2_code 19 = .ok (.iastore, 1) := by decide +kernel
theorem d_Failings_add_20 : decode prog_4_method_2_code 20 = .ok (.aload_n 0, 1) := by decide +kernel
theorem d_Failings_add_21 : decode prog_4_method_2_code 21 = .ok (.getfield 18, 3) := by decide +kernel
theorem d_Failings_add_24 : decode prog_4_method_2_code 24 = .ok (.aload_n 0, 1) := by decide +kernel
theorem d_Failings_add_25 : decode prog_4_method_2_code 25 = .ok (.getfield 27, 3) := by decide +kernel
theorem d_Failings_add_28 : decode prog_4_method_2_code 28 = .ok (.iload_n 3, 1) := by decide +kernel
theorem d_Failings_add_29 : decode prog_4_method_2_code 29 = .ok (.iastore, 1) := by decide +kernel
theorem d_Failings_add_30 : decode prog_4_method_2_code 30 = .ok (.aload_n 0, 1) := by decide +kernel
theorem d_Failings_add_31 : decode prog_4_method_2_code 31 = .ok (.getfield 21, 3) := by decide +kernel
theorem d_Failings_add_34 : decode prog_4_method_2_code 34 = .ok (.aload_n 0, 1) := by decide +kernel
theorem d_Failings_add_35 : decode prog_4_method_2_code 35 = .ok (.getfield 27, 3) := by decide +kernel
theorem d_Failings_add_38 : decode prog_4_method_2_code 38 = .ok (.iload 4, 2) := by decide +kernel
theorem d_Failings_add_40 : decode prog_4_method_2_code 40 = .ok (.iastore, 1) := by decide +kernel
theorem d_Failings_add_41 : decode prog_4_method_2_code 41 = .ok (.aload_n 0, 1) := by decide +kernel
theorem d_Failings_add_42 : decode prog_4_method_2_code 42 = .ok (.dup, 1) := by decide +kernel
theorem d_Failings_add_43 : decode prog_4_method_2_code 43 = .ok (.getfield 27, 3) := by decide +kernel
theorem d_Failings_add_46 : decode prog_4_method_2_code 46 = .ok (.iconst 1, 1) := by decide +kernel
theorem d_Failings_add_47 : decode prog_4_method_2_code 47 = .ok (.iadd, 1) := by decide +kernel
theorem d_Failings_add_48 : decode prog_4_method_2_code 48 = .ok (.putfield 27, 3) := by decide +kernel
theorem d_Failings_add_51 : decode prog_4_method_2_code 51 = .ok (.aload_n 0, 1) := by decide +kernel
theorem d_Failings_add_52 : decode prog_4_method_2_code 52 = .ok (.getfield 27, 3) := by decide +kernel
theorem d_Failings_add_55 : decode prog_4_method_2_code 55 = .ok (.ireturn, 1) := by decide +kernel
theorem d_Failings_renew_0 : decode prog_4_method_3_code 0 = .ok (.iconst 0, 1) := by decide +kernel
theorem d_Failings_renew_1 : decode prog_4_method_3_code 1 = .ok (.istore_n 1, 1) := by decide +kernel
theorem d_Failings_renew_2 : decode prog_4_method_3_code 2 = .ok (.iload_n 1, 1) := by decide +kernel
theorem d_Failings_renew_3 : decode prog_4_method_3_code 3 = .ok (.aload_n 0, 1) := by decide +kernel
theorem d_Failings_renew_4 : decode prog_4_method_3_code 4 = .ok (.getfield 27, 3) := by decide +kernel
theorem d_Failings_renew_7 : decode prog_4_method_3_code 7 = .ok (.if_icmp .ge 21, 3) := by decide +kernel
theorem d_Failings_renew_10 : decode prog_4_method_3_code 10 = .ok (.aload_n 0, 1) := by decide +kernel
theorem d_Failings_renew_11 : decode prog_4_method_3_code 11 = .ok (.getfield 24, 3) := by decide +kernel
theorem d_Failings_renew_14 : decode prog_4_method_3_code 14 = .ok (.iload_n 1, 1) := by decide +kernel
theorem d_Failings_renew_15 : decode prog_4_method_3_code 15 = .ok (.aload_n 0, 1) := by decide +kernel
theorem d_Failings_renew_16 : decode prog_4_method_3_code 16 = .ok (.getfield 21, 3) := by decide +kernel
theorem d_Failings_renew_19 : decode prog_4_method_3_code 19 = .ok (.iload_n 1, 1) := by decide +kernel
theorem d_Failings_renew_20 : decode prog_4_method_3_code 20 = .ok (.iaload, 1) := by decide +kernel
theorem d_Failings_renew_21 : decode prog_4_method_3_code 21 = .ok (.iastore, 1) := by decide +kernel
theorem d_Failings_renew_22 : decode prog_4_method_3_code 22 = .ok (.iinc 1 1, 3) := by decide +kernel
theorem d_Failings_renew_25 : decode prog_4_method_3_code 25 = .ok (.goto (-23), 3) := by decide +kernel
theorem d_Failings_renew_28 : decode prog_4_method_3_code 28 = .ok (.return_, 1) := by decide +kernel
theorem d_Failings_strike_0 : decode prog_4_method_4_code 0 = .ok (.iconst 0, 1) := by decide +kernel
theorem d_Failings_strike_1 : decode prog_4_method_4_code 1 = .ok (.istore 4, 2) := by decide +kernel
theorem d_Failings_strike_3 : decode prog_4_method_4_code 3 = .ok (.iload 4, 2) := by decide +kernel
theorem d_Failings_strike_5 : decode prog_4_method_4_code 5 = .ok (.aload_n 0, 1) := by decide +kernel
theorem d_Failings_strike_6 : decode prog_4_method_4_code 6 = .ok (.getfield 27, 3) := by decide +kernel
theorem d_Failings_strike_9 : decode prog_4_method_4_code 9 = .ok (.if_icmp .ge 65, 3) := by decide +kernel
theorem d_Failings_strike_12 : decode prog_4_method_4_code 12 = .ok (.aload_n 0, 1) := by decide +kernel
theorem d_Failings_strike_13 : decode prog_4_method_4_code 13 = .ok (.getfield 9, 3) := by decide +kernel
theorem d_Failings_strike_16 : decode prog_4_method_4_code 16 = .ok (.iload 4, 2) := by decide +kernel
theorem d_Failings_strike_18 : decode prog_4_method_4_code 18 = .ok (.iaload, 1) := by decide +kernel
theorem d_Failings_strike_19 : decode prog_4_method_4_code 19 = .ok (.iload_n 1, 1) := by decide +kernel
theorem d_Failings_strike_20 : decode prog_4_method_4_code 20 = .ok (.if_icmp .ne 48, 3) := by decide +kernel
theorem d_Failings_strike_23 : decode prog_4_method_4_code 23 = .ok (.aload_n 0, 1) := by decide +kernel
theorem d_Failings_strike_24 : decode prog_4_method_4_code 24 = .ok (.getfield 15, 3) := by decide +kernel
theorem d_Failings_strike_27 : decode prog_4_method_4_code 27 = .ok (.iload 4, 2) := by decide +kernel
theorem d_Failings_strike_29 : decode prog_4_method_4_code 29 = .ok (.iaload, 1) := by decide +kernel
theorem d_Failings_strike_30 : decode prog_4_method_4_code 30 = .ok (.iload_n 2, 1) := by decide +kernel
theorem d_Failings_strike_31 : decode prog_4_method_4_code 31 = .ok (.if_icmp .ne 37, 3) := by decide +kernel
theorem d_Failings_strike_34 : decode prog_4_method_4_code 34 = .ok (.aload_n 0, 1) := by decide +kernel
theorem d_Failings_strike_35 : decode prog_4_method_4_code 35 = .ok (.getfield 18, 3) := by decide +kernel
theorem d_Failings_strike_38 : decode prog_4_method_4_code 38 = .ok (.iload 4, 2) := by decide +kernel
theorem d_Failings_strike_40 : decode prog_4_method_4_code 40 = .ok (.iaload, 1) := by decide +kernel
theorem d_Failings_strike_41 : decode prog_4_method_4_code 41 = .ok (.iload_n 3, 1) := by decide +kernel
theorem d_Failings_strike_42 : decode prog_4_method_4_code 42 = .ok (.if_icmp .ne 26, 3) := by decide +kernel
theorem d_Failings_strike_45 : decode prog_4_method_4_code 45 = .ok (.aload_n 0, 1) := by decide +kernel
theorem d_Failings_strike_46 : decode prog_4_method_4_code 46 = .ok (.getfield 24, 3) := by decide +kernel
theorem d_Failings_strike_49 : decode prog_4_method_4_code 49 = .ok (.iload 4, 2) := by decide +kernel
theorem d_Failings_strike_51 : decode prog_4_method_4_code 51 = .ok (.iaload, 1) := by decide +kernel
theorem d_Failings_strike_52 : decode prog_4_method_4_code 52 = .ok (.ifCond .le 16, 3) := by decide +kernel
theorem d_Failings_strike_55 : decode prog_4_method_4_code 55 = .ok (.aload_n 0, 1) := by decide +kernel
theorem d_Failings_strike_56 : decode prog_4_method_4_code 56 = .ok (.getfield 24, 3) := by decide +kernel
theorem d_Failings_strike_59 : decode prog_4_method_4_code 59 = .ok (.iload 4, 2) := by decide +kernel
theorem d_Failings_strike_61 : decode prog_4_method_4_code 61 = .ok (.dup2, 1) := by decide +kernel
theorem d_Failings_strike_62 : decode prog_4_method_4_code 62 = .ok (.iaload, 1) := by decide +kernel
theorem d_Failings_strike_63 : decode prog_4_method_4_code 63 = .ok (.iconst 1, 1) := by decide +kernel
theorem d_Failings_strike_64 : decode prog_4_method_4_code 64 = .ok (.isub, 1) := by decide +kernel
theorem d_Failings_strike_65 : decode prog_4_method_4_code 65 = .ok (.iastore, 1) := by decide +kernel
theorem d_Failings_strike_66 : decode prog_4_method_4_code 66 = .ok (.iconst 1, 1) := by decide +kernel
theorem d_Failings_strike_67 : decode prog_4_method_4_code 67 = .ok (.ireturn, 1) := by decide +kernel
theorem d_Failings_strike_68 : decode prog_4_method_4_code 68 = .ok (.iinc 4 1, 3) := by decide +kernel
theorem d_Failings_strike_71 : decode prog_4_method_4_code 71 = .ok (.goto (-68), 3) := by decide +kernel
theorem d_Failings_strike_74 : decode prog_4_method_4_code 74 = .ok (.iconst 0, 1) := by decide +kernel
theorem d_Failings_strike_75 : decode prog_4_method_4_code 75 = .ok (.ireturn, 1) := by decide +kernel
theorem d_Needs_add_0 : decode prog_6_method_2_code 0 = .ok (.aload_n 0, 1) := by decide +kernel
theorem d_Needs_add_1 : decode prog_6_method_2_code 1 = .ok (.getfield 9, 3) := by decide +kernel
theorem d_Needs_add_4 : decode prog_6_method_2_code 4 = .ok (.iload_n 1, 1) := by decide +kernel
theorem d_Needs_add_5 : decode prog_6_method_2_code 5 = .ok (.iaload, 1) := by decide +kernel
theorem d_Needs_add_6 : decode prog_6_method_2_code 6 = .ok (.istore 5, 2) := by decide +kernel
theorem d_Needs_add_8 : decode prog_6_method_2_code 8 = .ok (.aload_n 0, 1) := by decide +kernel
theorem d_Needs_add_9 : decode prog_6_method_2_code 9 = .ok (.getfield 17, 3) := by decide +kernel
theorem d_Needs_add_12 : decode prog_6_method_2_code 12 = .ok (.iload_n 1, 1) := by decide +kernel
theorem d_Needs_add_13 : decode prog_6_method_2_code 13 = .ok (.aaload, 1) := by decide +kernel
theorem d_Needs_add_14 : decode prog_6_method_2_code 14 = .ok (.iload 5, 2) := by decide +kernel
theorem d_Needs_add_16 : decode prog_6_method_2_code 16 = .ok (.iload_n 2, 1) := by decide +kernel
theorem d_Needs_add_17 : decode prog_6_method_2_code 17 = .ok (.iastore, 1) := by decide +kernel
theorem d_Needs_add_18 : decode prog_6_method_2_code 18 = .ok (.aload_n 0, 1) := by decide +kernel
theorem d_Needs_add_19 : decode prog_6_method_2_code 19 = .ok (.getfield 20, 3) := by decide +kernel
theorem d_Needs_add_22 : decode prog_6_method_2_code 22 = .ok (.iload_n 1, 1) := by decide +kernel
theorem d_Needs_add_23 : decode prog_6_method_2_code 23 = .ok (.aaload, 1) := by decide +kernel
theorem d_Needs_add_24 : decode prog_6_method_2_code 24 = .ok (.iload 5, 2) := by decide +kernel
theorem d_Needs_add_26 : decode prog_6_method_2_code 26 = .ok (.iload_n 3, 1) := by decide +kernel
theorem d_Needs_add_27 : decode prog_6_method_2_code 27 = .ok (.iastore, 1) := by decide +kernel
theorem d_Needs_add_28 : decode prog_6_method_2_code 28 = .ok (.aload_n 0, 1) := by decide +kernel
theorem d_Needs_add_29 : decode prog_6_method_2_code 29 = .ok (.getfield 23, 3) := by decide +kernel
theorem d_Needs_add_32 : decode prog_6_method_2_code 32 = .ok (.iload_n 1, 1) := by decide +kernel
theorem d_Needs_add_33 : decode prog_6_method_2_code 33 = .ok (.aaload, 1) := by decide +kernel
theorem d_Needs_add_34 : decode prog_6_method_2_code 34 = .ok (.iload 5, 2) := by decide +kernel
theorem d_Needs_add_36 : decode prog_6_method_2_code 36 = .ok (.iload 4, 2) := by decide +kernel
theorem d_Needs_add_38 : decode prog_6_method_2_code 38 = .ok (.iastore, 1) := by decide +kernel
theorem d_Needs_add_39 : decode prog_6_method_2_code 39 = .ok (.aload_n 0, 1) := by decide +kernel
theorem d_Needs_add_40 : decode prog_6_method_2_code 40 = .ok (.getfield 9, 3) := by decide +kernel
theorem d_Needs_add_43 : decode prog_6_method_2_code 43 = .ok (.iload_n 1, 1) := by decide +kernel
theorem d_Needs_add_44 : decode prog_6_method_2_code 44 = .ok (.iload 5, 2) := by decide +kernel
theorem d_Needs_add_46 : decode prog_6_method_2_code 46 = .ok (.iconst 1, 1) := by decide +kernel
theorem d_Needs_add_47 : decode prog_6_method_2_code 47 = .ok (.iadd, 1) := by decide +kernel
theorem d_Needs_add_48 : decode prog_6_method_2_code 48 = .ok (.iastore, 1) := by decide +kernel
theorem d_Needs_add_49 : decode prog_6_method_2_code 49 = .ok (.aload_n 0, 1) := by decide +kernel
theorem d_Needs_add_50 : decode prog_6_method_2_code 50 = .ok (.getfield 9, 3) := by decide +kernel
theorem d_Needs_add_53 : decode prog_6_method_2_code 53 = .ok (.iload_n 1, 1) := by decide +kernel
theorem d_Needs_add_54 : decode prog_6_method_2_code 54 = .ok (.iaload, 1) := by decide +kernel
theorem d_Needs_add_55 : decode prog_6_method_2_code 55 = .ok (.ireturn, 1) := by decide +kernel
theorem d_Needs_firstUnmet_0 : decode prog_6_method_3_code 0 = .ok (.iconst 0, 1) := by decide +kernel
theorem d_Needs_firstUnmet_1 : decode prog_6_method_3_code 1 = .ok (.istore 4, 2) := by decide +kernel
theorem d_Needs_firstUnmet_3 : decode prog_6_method_3_code 3 = .ok (.iload 4, 2) := by decide +kernel
theorem d_Needs_firstUnmet_5 : decode prog_6_method_3_code 5 = .ok (.aload_n 0, 1) := by decide +kernel
theorem d_Needs_firstUnmet_6 : decode prog_6_method_3_code 6 = .ok (.getfield 9, 3) := by decide +kernel
theorem d_Needs_firstUnmet_9 : decode prog_6_method_3_code 9 = .ok (.iload_n 1, 1) := by decide +kernel
theorem d_Needs_firstUnmet_10 : decode prog_6_method_3_code 10 = .ok (.iaload, 1) := by decide +kernel
theorem d_Needs_firstUnmet_11 : decode prog_6_method_3_code 11 = .ok (.if_icmp .ge 52, 3) := by decide +kernel
theorem d_Needs_firstUnmet_14 : decode prog_6_method_3_code 14 = .ok (.aload_n 0, 1) := by decide +kernel
theorem d_Needs_firstUnmet_15 : decode prog_6_method_3_code 15 = .ok (.getfield 20, 3) := by decide +kernel
theorem d_Needs_firstUnmet_18 : decode prog_6_method_3_code 18 = .ok (.iload_n 1, 1) := by decide +kernel
theorem d_Needs_firstUnmet_19 : decode prog_6_method_3_code 19 = .ok (.aaload, 1) := by decide +kernel
theorem d_Needs_firstUnmet_20 : decode prog_6_method_3_code 20 = .ok (.iload 4, 2) := by decide +kernel
theorem d_Needs_firstUnmet_22 : decode prog_6_method_3_code 22 = .ok (.iaload, 1) := by decide +kernel
theorem d_Needs_firstUnmet_23 : decode prog_6_method_3_code 23 = .ok (.istore 5, 2) := by decide +kernel
theorem d_Needs_firstUnmet_25 : decode prog_6_method_3_code 25 = .ok (.aload_n 0, 1) := by decide +kernel
theorem d_Needs_firstUnmet_26 : decode prog_6_method_3_code 26 = .ok (.getfield 17, 3) := by decide +kernel
theorem d_Needs_firstUnmet_29 : decode prog_6_method_3_code 29 = .ok (.iload_n 1, 1) := by decide +kernel
theorem d_Needs_firstUnmet_30 : decode prog_6_method_3_code 30 = .ok (.aaload, 1) := by decide +kernel
theorem d_Needs_firstUnmet_31 : decode prog_6_method_3_code 31 = .ok (.iload 4, 2) := by decide +kernel
theorem d_Needs_firstUnmet_33 : decode prog_6_method_3_code 33 = .ok (.iaload, 1) := by decide +kernel
theorem d_Needs_firstUnmet_34 : decode prog_6_method_3_code 34 = .ok (.iload_n 2, 1) := by decide +kernel
theorem d_Needs_firstUnmet_35 : decode prog_6_method_3_code 35 = .ok (.if_icmp .ne 22, 3) := by decide +kernel
theorem d_Needs_firstUnmet_38 : decode prog_6_method_3_code 38 = .ok (.aload_n 3, 1) := by decide +kernel
theorem d_Needs_firstUnmet_39 : decode prog_6_method_3_code 39 = .ok (.iload 5, 2) := by decide +kernel
theorem d_Needs_firstUnmet_41 : decode prog_6_method_3_code 41 = .ok (.iaload, 1) := by decide +kernel
theorem d_Needs_firstUnmet_42 : decode prog_6_method_3_code 42 = .ok (.aload_n 0, 1) := by decide +kernel
theorem d_Needs_firstUnmet_43 : decode prog_6_method_3_code 43 = .ok (.getfield 23, 3) := by decide +kernel
theorem d_Needs_firstUnmet_46 : decode prog_6_method_3_code 46 = .ok (.iload_n 1, 1) := by decide +kernel
theorem d_Needs_firstUnmet_47 : decode prog_6_method_3_code 47 = .ok (.aaload, 1) := by decide +kernel
theorem d_Needs_firstUnmet_48 : decode prog_6_method_3_code 48 = .ok (.iload 4, 2) := by decide +kernel
theorem d_Needs_firstUnmet_50 : decode prog_6_method_3_code 50 = .ok (.iaload, 1) := by decide +kernel
theorem d_Needs_firstUnmet_51 : decode prog_6_method_3_code 51 = .ok (.if_icmp .ge 6, 3) := by decide +kernel
theorem d_Needs_firstUnmet_54 : decode prog_6_method_3_code 54 = .ok (.iload 5, 2) := by decide +kernel
theorem d_Needs_firstUnmet_56 : decode prog_6_method_3_code 56 = .ok (.ireturn, 1) := by decide +kernel
theorem d_Needs_firstUnmet_57 : decode prog_6_method_3_code 57 = .ok (.iinc 4 1, 3) := by decide +kernel
theorem d_Needs_firstUnmet_60 : decode prog_6_method_3_code 60 = .ok (.goto (-57), 3) := by decide +kernel
theorem d_Needs_firstUnmet_63 : decode prog_6_method_3_code 63 = .ok (.iconst (-1), 1) := by decide +kernel
theorem d_Needs_firstUnmet_64 : decode prog_6_method_3_code 64 = .ok (.ireturn, 1) := by decide +kernel
theorem d_Needs_sumOfValues_0 : decode prog_6_method_4_code 0 = .ok (.lconst 0, 1) := by decide +kernel
theorem d_Needs_sumOfValues_1 : decode prog_6_method_4_code 1 = .ok (.lstore 4, 2) := by decide +kernel
theorem d_Needs_sumOfValues_3 : decode prog_6_method_4_code 3 = .ok (.iconst 0, 1) := by decide +kernel
theorem d_Needs_sumOfValues_4 : decode prog_6_method_4_code 4 = .ok (.istore 6, 2) := by decide +kernel
theorem d_Needs_sumOfValues_6 : decode prog_6_method_4_code 6 = .ok (.iload 6, 2) := by decide +kernel
theorem d_Needs_sumOfValues_8 : decode prog_6_method_4_code 8 = .ok (.aload_n 0, 1) := by decide +kernel
theorem d_Needs_sumOfValues_9 : decode prog_6_method_4_code 9 = .ok (.getfield 9, 3) := by decide +kernel
theorem d_Needs_sumOfValues_12 : decode prog_6_method_4_code 12 = .ok (.iload_n 1, 1) := by decide +kernel
theorem d_Needs_sumOfValues_13 : decode prog_6_method_4_code 13 = .ok (.iaload, 1) := by decide +kernel
theorem d_Needs_sumOfValues_14 : decode prog_6_method_4_code 14 = .ok (.if_icmp .ge 48, 3) := by decide +kernel
theorem d_Needs_sumOfValues_17 : decode prog_6_method_4_code 17 = .ok (.aload_n 0, 1) := by decide +kernel
theorem d_Needs_sumOfValues_18 : decode prog_6_method_4_code 18 = .ok (.getfield 17, 3) := by decide +kernel
theorem d_Needs_sumOfValues_21 : decode prog_6_method_4_code 21 = .ok (.iload_n 1, 1) := by decide +kernel
theorem d_Needs_sumOfValues_22 : decode prog_6_method_4_code 22 = .ok (.aaload, 1) := by decide +kernel
theorem d_Needs_sumOfValues_23 : decode prog_6_method_4_code 23 = .ok (.iload 6, 2) := by decide +kernel
theorem d_Needs_sumOfValues_25 : decode prog_6_method_4_code 25 = .ok (.iaload, 1) := by decide +kernel
theorem d_Needs_sumOfValues_26 : decode prog_6_method_4_code 26 = .ok (.iload_n 2, 1) := by decide +kernel
theorem d_Needs_sumOfValues_27 : decode prog_6_method_4_code 27 = .ok (.if_icmp .ne 29, 3) := by decide +kernel
theorem d_Needs_sumOfValues_30 : decode prog_6_method_4_code 30 = .ok (.lload 4, 2) := by decide +kernel
theorem d_Needs_sumOfValues_32 : decode prog_6_method_4_code 32 = .ok (.aload_n 3, 1) := by decide +kernel
theorem d_Needs_sumOfValues_33 : decode prog_6_method_4_code 33 = .ok (.aload_n 0, 1) := by decide +kernel
theorem d_Needs_sumOfValues_34 : decode prog_6_method_4_code 34 = .ok (.getfield 20, 3) := by decide +kernel
theorem d_Needs_sumOfValues_37 : decode prog_6_method_4_code 37 = .ok (.iload_n 1, 1) := by decide +kernel
theorem d_Needs_sumOfValues_38 : decode prog_6_method_4_code 38 = .ok (.aaload, 1) := by decide +kernel
theorem d_Needs_sumOfValues_39 : decode prog_6_method_4_code 39 = .ok (.iload 6, 2) := by decide +kernel
theorem d_Needs_sumOfValues_41 : decode prog_6_method_4_code 41 = .ok (.iaload, 1) := by decide +kernel
theorem d_Needs_sumOfValues_42 : decode prog_6_method_4_code 42 = .ok (.aaload, 1) := by decide +kernel
theorem d_Needs_sumOfValues_43 : decode prog_6_method_4_code 43 = .ok (.aload_n 0, 1) := by decide +kernel
theorem d_Needs_sumOfValues_44 : decode prog_6_method_4_code 44 = .ok (.getfield 23, 3) := by decide +kernel
theorem d_Needs_sumOfValues_47 : decode prog_6_method_4_code 47 = .ok (.iload_n 1, 1) := by decide +kernel
theorem d_Needs_sumOfValues_48 : decode prog_6_method_4_code 48 = .ok (.aaload, 1) := by decide +kernel
theorem d_Needs_sumOfValues_49 : decode prog_6_method_4_code 49 = .ok (.iload 6, 2) := by decide +kernel
theorem d_Needs_sumOfValues_51 : decode prog_6_method_4_code 51 = .ok (.iaload, 1) := by decide +kernel
theorem d_Needs_sumOfValues_52 : decode prog_6_method_4_code 52 = .ok (.laload, 1) := by decide +kernel
theorem d_Needs_sumOfValues_53 : decode prog_6_method_4_code 53 = .ok (.ladd, 1) := by decide +kernel
theorem d_Needs_sumOfValues_54 : decode prog_6_method_4_code 54 = .ok (.lstore 4, 2) := by decide +kernel
theorem d_Needs_sumOfValues_56 : decode prog_6_method_4_code 56 = .ok (.iinc 6 1, 3) := by decide +kernel
theorem d_Needs_sumOfValues_59 : decode prog_6_method_4_code 59 = .ok (.goto (-53), 3) := by decide +kernel
theorem d_Needs_sumOfValues_62 : decode prog_6_method_4_code 62 = .ok (.lload 4, 2) := by decide +kernel
theorem d_Needs_sumOfValues_64 : decode prog_6_method_4_code 64 = .ok (.lreturn, 1) := by decide +kernel
theorem fl_Crew_9 : zw_FL R_Crew 9 1 0 := ⟨R_Crew, T_Crew, 3, rfl, by decide, ly_Crew, Or.inl (zw_in (List.mem_of_getElem? (i := 189) (by decide +kernel)) (by decide +kernel))⟩
theorem fl_Crew_15 : zw_FL R_Crew 15 1 1 := ⟨R_Crew, T_Crew, 3, rfl, by decide, ly_Crew, Or.inl (zw_in (List.mem_of_getElem? (i := 191) (by decide +kernel)) (by decide +kernel))⟩
theorem fl_Crew_18 : zw_FL R_Crew 18 1 2 := ⟨R_Crew, T_Crew, 3, rfl, by decide, ly_Crew, Or.inl (zw_in (List.mem_of_getElem? (i := 193) (by decide +kernel)) (by decide +kernel))⟩
theorem fl_Failings_9 : zw_FL R_Failings 9 2 0 := ⟨R_Failings, T_Failings, 6, rfl, by decide, ly_Failings, Or.inl (zw_in (List.mem_of_getElem? (i := 95) (by decide +kernel)) (by decide +kernel))⟩
theorem fl_Failings_15 : zw_FL R_Failings 15 2 1 := ⟨R_Failings, T_Failings, 6, rfl, by decide, ly_Failings, Or.inl (zw_in (List.mem_of_getElem? (i := 96) (by decide +kernel)) (by decide +kernel))⟩
theorem fl_Failings_18 : zw_FL R_Failings 18 2 2 := ⟨R_Failings, T_Failings, 6, rfl, by decide, ly_Failings, Or.inl (zw_in (List.mem_of_getElem? (i := 97) (by decide +kernel)) (by decide +kernel))⟩
theorem fl_Failings_21 : zw_FL R_Failings 21 2 3 := ⟨R_Failings, T_Failings, 6, rfl, by decide, ly_Failings, Or.inl (zw_in (List.mem_of_getElem? (i := 98) (by decide +kernel)) (by decide +kernel))⟩
theorem fl_Failings_24 : zw_FL R_Failings 24 2 4 := ⟨R_Failings, T_Failings, 6, rfl, by decide, ly_Failings, Or.inl (zw_in (List.mem_of_getElem? (i := 99) (by decide +kernel)) (by decide +kernel))⟩
theorem fl_Failings_27 : zw_FL R_Failings 27 2 5 := ⟨R_Failings, T_Failings, 6, rfl, by decide, ly_Failings, Or.inl (zw_in (List.mem_of_getElem? (i := 100) (by decide +kernel)) (by decide +kernel))⟩
theorem fl_Line_9 : zw_FL R_Line 9 3 0 := ⟨R_Line, T_Line, 3, rfl, by decide, ly_Line, Or.inl (zw_in (List.mem_of_getElem? (i := 173) (by decide +kernel)) (by decide +kernel))⟩
theorem fl_Line_15 : zw_FL R_Line 15 3 1 := ⟨R_Line, T_Line, 3, rfl, by decide, ly_Line, Or.inl (zw_in (List.mem_of_getElem? (i := 174) (by decide +kernel)) (by decide +kernel))⟩
theorem fl_Line_19 : zw_FL R_Line 19 3 2 := ⟨R_Line, T_Line, 3, rfl, by decide, ly_Line, Or.inl (zw_in (List.mem_of_getElem? (i := 175) (by decide +kernel)) (by decide +kernel))⟩
theorem fl_Needs_9 : zw_FL R_Needs 9 4 0 := ⟨R_Needs, T_Needs, 4, rfl, by decide, ly_Needs, Or.inl (zw_in (List.mem_of_getElem? (i := 72) (by decide +kernel)) (by decide +kernel))⟩
theorem fl_Needs_17 : zw_FL R_Needs 17 4 1 := ⟨R_Needs, T_Needs, 4, rfl, by decide, ly_Needs, Or.inl (zw_in (List.mem_of_getElem? (i := 75) (by decide +kernel)) (by decide +kernel))⟩
theorem fl_Needs_20 : zw_FL R_Needs 20 4 2 := ⟨R_Needs, T_Needs, 4, rfl, by decide, ly_Needs, Or.inl (zw_in (List.mem_of_getElem? (i := 76) (by decide +kernel)) (by decide +kernel))⟩
theorem fl_Needs_23 : zw_FL R_Needs 23 4 3 := ⟨R_Needs, T_Needs, 4, rfl, by decide, ly_Needs, Or.inl (zw_in (List.mem_of_getElem? (i := 77) (by decide +kernel)) (by decide +kernel))⟩
theorem fp_Crew_18 : zw_FP R_Crew 18 1 2 (.int) false := ⟨R_Crew, T_Crew, 3, ty_Crew, rfl, by decide, ly_Crew, ty_Crew_ok, rfl, nm_Crew, rfl, Or.inl ⟨(zw_in (List.mem_of_getElem? (i := 193) (by decide +kernel)) (by decide +kernel)), fun h => by cases h⟩⟩
theorem fp_Failings_27 : zw_FP R_Failings 27 2 5 (.int) false := ⟨R_Failings, T_Failings, 6, ty_Failings, rfl, by decide, ly_Failings, ty_Failings_ok, rfl, nm_Failings, rfl, Or.inl ⟨(zw_in (List.mem_of_getElem? (i := 100) (by decide +kernel)) (by decide +kernel)), fun h => by cases h⟩⟩
theorem fp_Line_15 : zw_FP R_Line 15 3 1 (.int) false := ⟨R_Line, T_Line, 3, ty_Line, rfl, by decide, ly_Line, ty_Line_ok, rfl, nm_Line, rfl, Or.inl ⟨(zw_in (List.mem_of_getElem? (i := 174) (by decide +kernel)) (by decide +kernel)), fun h => by cases h⟩⟩
theorem fp_Line_19 : zw_FP R_Line 19 3 2 (.int) false := ⟨R_Line, T_Line, 3, ty_Line, rfl, by decide, ly_Line, ty_Line_ok, rfl, nm_Line, rfl, Or.inl ⟨(zw_in (List.mem_of_getElem? (i := 175) (by decide +kernel)) (by decide +kernel)), fun h => by cases h⟩⟩
theorem mv_Line_22 : zw_MV R_Line 22 Y_Line_wrapped R_Line 1 := ⟨Or.inl (zw_in (List.mem_of_getElem? (i := 528) (by decide +kernel)) (by decide +kernel)), (zw_in (List.mem_of_getElem? (i := 530) (by decide +kernel)) (by decide +kernel)), (zw_in (List.mem_of_getElem? (i := 9) (by decide +kernel)) (by decide +kernel)), (zw_in (List.mem_of_getElem? (i := 531) (by decide +kernel)) (by decide +kernel)), (zw_in (List.mem_of_getElem? (i := 31) (by decide +kernel)) (by decide +kernel)), by decide +kernel, by decide +kernel⟩
set_option maxHeartbeats 4000000 in
set_option maxRecDepth 100000 in
theorem c_Line_wrapped {l : Launch} {D : va_G} {cA : Nat → ClassId} {ad : Nat → Nat} {sh : zw_Sh} {n : Nat} (hn : n ≤ 16) (hs : ∀ (k : Nat) (q : zw_Sp), shX n k = some q → sh k = some q) (z : Nat) (mi : zw_I) (ml : zw_L) (x : Int32) :
    zc_M l D cA Y_Line_wrapped 0 0 0 ad sh sh z [.ref (ad 4), .int x] mi ml (some (.int (p_wrapped n x))) mi ml z := by
  refine zc_enter (own := R_Line) (by decide) rfl (Nat.le_of_ble_eq_true rfl) ?_
  intro p e s m below meth c X hr hlocks hnm hB ls hl
  have X : zw_C D cA R_Line prog_5_method_6_code 2 p m c s := X
  have hr : meth.sig.returnType = (some FieldType.int) := hr
  have hx := X.1
  have hb := X.2.1
  have hl : lv_has ls 2 [(0, .ref (ad 4)), (1, .int x)] := hl
  unfold p_wrapped
  refine lv_iload_n hx hb d_Line_wrapped_0 rfl (lv_at hl 1 rfl) ?_
  refine lv_aload_n hx hb d_Line_wrapped_1 rfl (lv_at hl 0 rfl) ?_
  refine zw_getR X hB fl_Line_9 4 (hs 4 _ rfl) rfl d_Line_wrapped_2 ?_
  refine zw_alen X hB 22 (by decide) (hs 22 _ rfl) d_Line_wrapped_5 ?_
  refine lv_icmp_ge (tgt := 13) hx hb d_Line_wrapped_6 (by decide) (fun c_6 => ?_) (fun c_6 => ?_)
  · rw [if_pos c_6]
    refine lv_iload_n hx hb d_Line_wrapped_13 rfl (lv_at hl 1 rfl) ?_
    refine lv_aload_n hx hb d_Line_wrapped_14 rfl (lv_at hl 0 rfl) ?_
    refine zw_getR X hB fl_Line_9 4 (hs 4 _ rfl) rfl d_Line_wrapped_15 ?_
    refine zw_alen X hB 22 (by decide) (hs 22 _ rfl) d_Line_wrapped_18 ?_
    refine lv_isub hx hb d_Line_wrapped_19 ?_
    exact zc_iret X hr hlocks hB (by rfl) (by rfl) (by rfl) d_Line_wrapped_20
  · rw [if_neg c_6]
    refine lv_iload_n hx hb d_Line_wrapped_9 rfl (lv_at hl 1 rfl) ?_
    refine lv_goto (tgt := 20) hx hb d_Line_wrapped_10 (by decide) ?_
    exact zc_iret X hr hlocks hB (by rfl) (by rfl) (by rfl) d_Line_wrapped_20

set_option maxHeartbeats 4000000 in
set_option maxRecDepth 100000 in
theorem c_Line_first {l : Launch} {D : va_G} {cA : Nat → ClassId} {ad : Nat → Nat} {sh : zw_Sh} {n : Nat} (hn : n ≤ 16) (hs : ∀ (k : Nat) (q : zw_Sp), shX n k = some q → sh k = some q) (z : Nat) (mi : zw_I) (ml : zw_L) (h1 : vp_in (mi 4 1) n) :
    zc_M l D cA Y_Line_first 0 0 0 ad sh sh z [.ref (ad 4)] mi ml (some (.int (p_first mi))) mi ml z := by
  refine zc_enter (own := R_Line) (by decide) rfl (Nat.le_of_ble_eq_true rfl) ?_
  intro p e s m below meth c X hr hlocks hnm hB ls hl
  have X : zw_C D cA R_Line prog_5_method_3_code 1 p m c s := X
  have hr : meth.sig.returnType = (some FieldType.int) := hr
  have hx := X.1
  have hb := X.2.1
  have hl : lv_has ls 1 [(0, .ref (ad 4))] := hl
  unfold p_first
  refine lv_aload_n hx hb d_Line_first_0 rfl (lv_at hl 0 rfl) ?_
  refine zw_getI X hB fl_Line_19 4 (hs 4 _ rfl) rfl d_Line_first_1 ?_
  refine lv_if_le (tgt := 19) hx hb d_Line_first_4 (by decide) (fun c_4 => ?_) (fun c_4 => ?_)
  · rw [if_pos c_4]
    refine lv_iconst (v := (-1)) hx hb d_Line_first_19 (by decide) ?_
    exact zc_iret X hr hlocks hB (by rfl) (by rfl) (by rfl) d_Line_first_20
  · rw [if_neg c_4]
    refine lv_aload_n hx hb d_Line_first_7 rfl (lv_at hl 0 rfl) ?_
    refine zw_getR X hB fl_Line_9 4 (hs 4 _ rfl) rfl d_Line_first_8 ?_
    refine lv_aload_n hx hb d_Line_first_11 rfl (lv_at hl 0 rfl) ?_
    refine zw_getI X hB fl_Line_15 4 (hs 4 _ rfl) rfl d_Line_first_12 ?_
    refine zw_iald X hB 22 (hs 22 _ rfl) h1 d_Line_first_15 ?_
    refine lv_goto (tgt := 20) hx hb d_Line_first_16 (by decide) ?_
    exact zc_iret X hr hlocks hB (by rfl) (by rfl) (by rfl) d_Line_first_20

set_option maxHeartbeats 4000000 in
set_option maxRecDepth 100000 in
theorem c_Line_dropFirst {l : Launch} {D : va_G} {cA : Nat → ClassId} {ad : Nat → Nat} {sh : zw_Sh} {n : Nat} (hn : n ≤ 16) (hs : ∀ (k : Nat) (q : zw_Sp), shX n k = some q → sh k = some q) (z : Nat) (mi : zw_I) (ml : zw_L) :
    zc_M l D cA Y_Line_dropFirst 1 0 0 ad sh sh z [.ref (ad 4)] mi ml none (p_drop n mi) ml z := by
  refine zc_enter (own := R_Line) (by decide) rfl (Nat.le_of_ble_eq_true rfl) ?_
  intro p e s m below meth c X hr hlocks hnm hB ls hl
  have X : zw_C D cA R_Line prog_5_method_4_code 1 p m c s := X
  have hr : meth.sig.returnType = none := hr
  have hx := X.1
  have hb := X.2.1
  have hl : lv_has ls 1 [(0, .ref (ad 4))] := hl
  unfold p_drop
  refine lv_aload_n hx hb d_Line_dropFirst_0 rfl (lv_at hl 0 rfl) ?_
  refine zw_getI X hB fl_Line_19 4 (hs 4 _ rfl) rfl d_Line_dropFirst_1 ?_
  refine lv_if_le (tgt := 31) hx hb d_Line_dropFirst_4 (by decide) (fun c_4 => ?_) (fun c_4 => ?_)
  · rw [if_pos c_4]
    exact zc_vret X hr hlocks hB (by rfl) (by rfl) (by rfl) d_Line_dropFirst_31
  · rw [if_neg c_4]
    refine lv_aload_n hx hb d_Line_dropFirst_7 rfl (lv_at hl 0 rfl) ?_
    refine lv_aload_n hx hb d_Line_dropFirst_8 rfl (lv_at hl 0 rfl) ?_
    refine lv_aload_n hx hb d_Line_dropFirst_9 rfl (lv_at hl 0 rfl) ?_
    refine zw_getI X hB fl_Line_15 4 (hs 4 _ rfl) rfl d_Line_dropFirst_10 ?_
    refine lv_iconst (v := 1) hx hb d_Line_dropFirst_13 (by decide) ?_
    refine lv_iadd hx hb d_Line_dropFirst_14 ?_
    refine zw_callVr X hB mv_Line_22 4 (hs 4 _ rfl) rfl (c_Line_wrapped hn hs z mi ml ((mi 4 1) + 1)) rfl hl.1 ⟨Nat.le_of_ble_eq_true rfl, Nat.le_of_ble_eq_true rfl⟩ rfl (Nat.le_of_ble_eq_true rfl) ⟨Nat.le_of_ble_eq_true rfl, Nat.le_of_ble_eq_true rfl⟩ d_Line_dropFirst_15 (fun H locs hB => ?_)
    refine zw_putI X hB fp_Line_15 (fun h => by cases h) 4 (hs 4 _ rfl) rfl d_Line_dropFirst_18 (fun H locs hB => ?_)
    obtain ⟨mi_1, emi_1⟩ : ∃ y, y = zw_up mi 4 1 (p_wrapped n ((mi 4 1) + 1)) := ⟨_, rfl⟩
    rw [← emi_1] at hB
    refine lv_aload_n hx hb d_Line_dropFirst_21 rfl (lv_at hl 0 rfl) ?_
    refine lv_dup hx hb d_Line_dropFirst_22 rfl ?_
    refine zw_getI X hB fl_Line_19 4 (hs 4 _ rfl) rfl d_Line_dropFirst_23 ?_
    refine lv_iconst (v := 1) hx hb d_Line_dropFirst_26 (by decide) ?_
    refine lv_isub hx hb d_Line_dropFirst_27 ?_
    refine zw_putI X hB fp_Line_19 (fun h => by cases h) 4 (hs 4 _ rfl) rfl d_Line_dropFirst_28 (fun H locs hB => ?_)
    obtain ⟨mi_2, emi_2⟩ : ∃ y, y = zw_up mi_1 4 2 ((mi_1 4 2) - 1) := ⟨_, rfl⟩
    rw [← emi_2] at hB
    exact zc_vret X hr hlocks hB (by subst emi_2; subst emi_1; rfl) (by subst emi_2; subst emi_1; rfl) (by subst emi_2; subst emi_1; rfl) d_Line_dropFirst_31

set_option maxHeartbeats 4000000 in
set_option maxRecDepth 100000 in
theorem c_Line_append {l : Launch} {D : va_G} {cA : Nat → ClassId} {ad : Nat → Nat} {sh : zw_Sh} {n : Nat} (hn : n ≤ 16) (hs : ∀ (k : Nat) (q : zw_Sp), shX n k = some q → sh k = some q) (z : Nat) (mi : zw_I) (ml : zw_L) (x : Int32) (h1 : ¬ nI n ≤ mi 4 2 → vp_in (p_wrapped n (mi 4 1 + mi 4 2)) n) :
    zc_M l D cA Y_Line_append 1 0 0 ad sh sh z [.ref (ad 4), .int x] mi ml none (p_append n mi x) ml z := by
  refine zc_enter (own := R_Line) (by decide) rfl (Nat.le_of_ble_eq_true rfl) ?_
  intro p e s m below meth c X hr hlocks hnm hB ls hl
  have X : zw_C D cA R_Line prog_5_method_5_code 2 p m c s := X
  have hr : meth.sig.returnType = none := hr
  have hx := X.1
  have hb := X.2.1
  have hl : lv_has ls 2 [(0, .ref (ad 4)), (1, .int x)] := hl
  unfold p_append
  refine lv_aload_n hx hb d_Line_append_0 rfl (lv_at hl 0 rfl) ?_
  refine zw_getI X hB fl_Line_19 4 (hs 4 _ rfl) rfl d_Line_append_1 ?_
  refine lv_aload_n hx hb d_Line_append_4 rfl (lv_at hl 0 rfl) ?_
  refine zw_getR X hB fl_Line_9 4 (hs 4 _ rfl) rfl d_Line_append_5 ?_
  refine zw_alen X hB 22 (by decide) (hs 22 _ rfl) d_Line_append_8 ?_
  refine lv_icmp_ge (tgt := 41) hx hb d_Line_append_9 (by decide) (fun c_9 => ?_) (fun c_9 => ?_)
  · rw [if_pos c_9]
    exact zc_vret X hr hlocks hB (by rfl) (by rfl) (by rfl) d_Line_append_41
  · rw [if_neg c_9]
    refine lv_aload_n hx hb d_Line_append_12 rfl (lv_at hl 0 rfl) ?_
    refine zw_getR X hB fl_Line_9 4 (hs 4 _ rfl) rfl d_Line_append_13 ?_
    refine lv_aload_n hx hb d_Line_append_16 rfl (lv_at hl 0 rfl) ?_
    refine lv_aload_n hx hb d_Line_append_17 rfl (lv_at hl 0 rfl) ?_
    refine zw_getI X hB fl_Line_15 4 (hs 4 _ rfl) rfl d_Line_append_18 ?_
    refine lv_aload_n hx hb d_Line_append_21 rfl (lv_at hl 0 rfl) ?_
    refine zw_getI X hB fl_Line_19 4 (hs 4 _ rfl) rfl d_Line_append_22 ?_
    refine lv_iadd hx hb d_Line_append_25 ?_
    refine zw_callVr X hB mv_Line_22 4 (hs 4 _ rfl) rfl (c_Line_wrapped hn hs z mi ml ((mi 4 1) + (mi 4 2))) rfl hl.1 ⟨Nat.le_of_ble_eq_true rfl, Nat.le_of_ble_eq_true rfl⟩ rfl (Nat.le_of_ble_eq_true rfl) ⟨Nat.le_of_ble_eq_true rfl, Nat.le_of_ble_eq_true rfl⟩ d_Line_append_26 (fun H locs hB => ?_)
    refine lv_iload_n hx hb d_Line_append_29 rfl (lv_at hl 1 rfl) ?_
    refine zw_iast X hB 22 (hs 22 _ rfl) (h1 c_9) d_Line_append_30 (fun H locs hB => ?_)
    obtain ⟨mi_1, emi_1⟩ : ∃ y, y = zw_up mi 22 (p_wrapped n ((mi 4 1) + (mi 4 2))).toNatClampNeg x := ⟨_, rfl⟩
    rw [← emi_1] at hB
    refine lv_aload_n hx hb d_Line_append_31 rfl (lv_at hl 0 rfl) ?_
    refine lv_dup hx hb d_Line_append_32 rfl ?_
    refine zw_getI X hB fl_Line_19 4 (hs 4 _ rfl) rfl d_Line_append_33 ?_
    refine lv_iconst (v := 1) hx hb d_Line_append_36 (by decide) ?_
    refine lv_iadd hx hb d_Line_append_37 ?_
    refine zw_putI X hB fp_Line_19 (fun h => by cases h) 4 (hs 4 _ rfl) rfl d_Line_append_38 (fun H locs hB => ?_)
    obtain ⟨mi_2, emi_2⟩ : ∃ y, y = zw_up mi_1 4 2 ((mi_1 4 2) + 1) := ⟨_, rfl⟩
    rw [← emi_2] at hB
    exact zc_vret X hr hlocks hB (by subst emi_2; subst emi_1; rfl) (by subst emi_2; subst emi_1; rfl) (by subst emi_2; subst emi_1; rfl) d_Line_append_41

set_option maxHeartbeats 4000000 in
set_option maxRecDepth 100000 in
theorem c_Line_fillByNumber {l : Launch} {D : va_G} {cA : Nat → ClassId} {ad : Nat → Nat} {sh : zw_Sh} {n : Nat} (hn : n ≤ 16) (hs : ∀ (k : Nat) (q : zw_Sp), shX n k = some q → sh k = some q) (z : Nat) (mi : zw_I) (ml : zw_L) :
    zc_M l D cA Y_Line_fillByNumber 0 0 0 ad sh sh z [.ref (ad 4)] mi ml none (p_fill n (n + 1) 0 mi) ml z := by
  refine zc_enter (own := R_Line) (by decide) rfl (Nat.le_of_ble_eq_true rfl) ?_
  intro p e s m below meth c X hr hlocks hnm hB ls hl
  have X : zw_C D cA R_Line prog_5_method_2_code 2 p m c s := X
  have hr : meth.sig.returnType = none := hr
  have hx := X.1
  have hb := X.2.1
  have hl : lv_has ls 2 [(0, .ref (ad 4))] := hl
  have loop : ∀ (f i : Nat) (mi : zw_I) (H : Heap) (locs : List Loc) (ls : Array Slot), i + f = n + 1 → i ≤ n → zw_B D cA ad sh (zw_A ad sh z) s.heap mi ml z H locs → lv_has ls 2 [(1, .int (nI i)), (0, .ref (ad 4))] →
      zc_W l D cA ad sh sh z [.ref (ad 4)] 0 0 0 none (p_fill n f (nI i) mi) ml z p e s m below meth c H locs 0 0 (F0 m 2 ls []) := by
    intro f
    induction f with
    | zero =>
      intro i  mi H locs ls hi h2 hB hl
      omega
    | succ f ih =>
      intro i  mi H locs ls hi h2 hB hl
      rw [p_fill]
      refine lv_iload_n hx hb d_Line_fillByNumber_2 rfl (lv_at hl 0 rfl) ?_
      refine lv_aload_n hx hb d_Line_fillByNumber_3 rfl (lv_at hl 1 rfl) ?_
      refine zw_getR X hB fl_Line_9 4 (hs 4 _ rfl) rfl d_Line_fillByNumber_4 ?_
      refine zw_alen X hB 22 (by decide) (hs 22 _ rfl) d_Line_fillByNumber_7 ?_
      refine lv_icmp_ge (tgt := 24) hx hb d_Line_fillByNumber_8 (by decide) (fun c_8 => ?_) (fun c_8 => ?_)
      · rw [if_pos c_8]
        refine lv_aload_n hx hb d_Line_fillByNumber_24 rfl (lv_at hl 1 rfl) ?_
        refine lv_iconst (v := 0) hx hb d_Line_fillByNumber_25 (by decide) ?_
        refine zw_putI X hB fp_Line_15 (fun h => by cases h) 4 (hs 4 _ rfl) rfl d_Line_fillByNumber_26 (fun H locs hB => ?_)
        obtain ⟨mi_1, emi_1⟩ : ∃ y, y = zw_up mi 4 1 0 := ⟨_, rfl⟩
        rw [← emi_1] at hB
        refine lv_aload_n hx hb d_Line_fillByNumber_29 rfl (lv_at hl 1 rfl) ?_
        refine lv_aload_n hx hb d_Line_fillByNumber_30 rfl (lv_at hl 1 rfl) ?_
        refine zw_getR X hB fl_Line_9 4 (hs 4 _ rfl) rfl d_Line_fillByNumber_31 ?_
        refine zw_alen X hB 22 (by decide) (hs 22 _ rfl) d_Line_fillByNumber_34 ?_
        refine zw_putI X hB fp_Line_19 (fun h => by cases h) 4 (hs 4 _ rfl) rfl d_Line_fillByNumber_35 (fun H locs hB => ?_)
        obtain ⟨mi_2, emi_2⟩ : ∃ y, y = zw_up mi_1 4 2 (nI n) := ⟨_, rfl⟩
        rw [← emi_2] at hB
        exact zc_vret X hr hlocks hB (by subst emi_2; subst emi_1; rfl) (by subst emi_2; subst emi_1; rfl) (by subst emi_2; subst emi_1; rfl) d_Line_fillByNumber_38
      · rw [if_neg c_8]
        refine lv_aload_n hx hb d_Line_fillByNumber_11 rfl (lv_at hl 1 rfl) ?_
        refine zw_getR X hB fl_Line_9 4 (hs 4 _ rfl) rfl d_Line_fillByNumber_12 ?_
        refine lv_iload_n hx hb d_Line_fillByNumber_15 rfl (lv_at hl 0 rfl) ?_
        refine lv_iload_n hx hb d_Line_fillByNumber_16 rfl (lv_at hl 0 rfl) ?_
        refine zw_iast X hB 22 (hs 22 _ rfl) (vp_in_nI (zn_lt (by omega) c_8) (by omega)) d_Line_fillByNumber_17 (fun H locs hB => ?_)
        obtain ⟨mi_3, emi_3⟩ : ∃ y, y = zw_up mi 22 (nI i).toNatClampNeg (nI i) := ⟨_, rfl⟩
        rw [← emi_3] at hB
        refine lv_iinc (v := nI (i + 1)) (lv' := [(1, .int (nI (i + 1))), (0, .ref (ad 4))]) hx hb d_Line_fillByNumber_18 hl (k := 0) rfl (nI_1 i) (by decide) rfl (fun ls hl => ?_)
        refine lv_goto (tgt := 2) hx hb d_Line_fillByNumber_21 (by decide) ?_
        subst emi_3
        rw [nI_1 i]
        exact ih (i + 1)  _ H locs ls (by omega) (by have := zn_lt (by omega) c_8; omega) hB (lv_sub hl [0, 1] rfl)
  refine lv_iconst (v := 0) hx hb d_Line_fillByNumber_0 (by decide) ?_
  refine lv_istore_n (lv' := [(1, .int 0), (0, .ref (ad 4))]) hx hb d_Line_fillByNumber_1 rfl hl (by decide) rfl (fun ls hl => ?_)
  exact loop (n + 1) 0 _ _ _ ls (by omega) (by omega) hB (lv_sub hl [0, 1] rfl)

set_option maxHeartbeats 4000000 in
set_option maxRecDepth 100000 in
theorem c_Crew_gather {l : Launch} {D : va_G} {cA : Nat → ClassId} {ad : Nat → Nat} {sh : zw_Sh} {n : Nat} (hn : n ≤ 16) (hs : ∀ (k : Nat) (q : zw_Sp), shX n k = some q → sh k = some q) (z : Nat) (mi : zw_I) (ml : zw_L) (wk : Int32) (w : Nat) (hw : w ≤ 16) (ew : wk = nI w) :
    zc_M l D cA Y_Crew_gather 0 0 0 ad sh sh z [.ref (ad 6), .int wk] mi ml none (p_gather wk 17 0 mi) ml z := by
  refine zc_enter (own := R_Crew) (by decide) rfl (Nat.le_of_ble_eq_true rfl) ?_
  intro p e s m below meth c X hr hlocks hnm hB ls hl
  have X : zw_C D cA R_Crew prog_3_method_2_code 3 p m c s := X
  have hr : meth.sig.returnType = none := hr
  have hx := X.1
  have hb := X.2.1
  have hl : lv_has ls 3 [(0, .ref (ad 6)), (1, .int wk)] := hl
  have loop : ∀ (f i : Nat) (mi : zw_I) (H : Heap) (locs : List Loc) (ls : Array Slot), i + f = 17 → i ≤ w → zw_B D cA ad sh (zw_A ad sh z) s.heap mi ml z H locs → lv_has ls 3 [(2, .int (nI i)), (0, .ref (ad 6)), (1, .int wk)] →
      zc_W l D cA ad sh sh z [.ref (ad 6), .int wk] 0 0 0 none (p_gather wk f (nI i) mi) ml z p e s m below meth c H locs 0 0 (F0 m 2 ls []) := by
    intro f
    induction f with
    | zero =>
      intro i  mi H locs ls hi h2 hB hl
      omega
    | succ f ih =>
      intro i  mi H locs ls hi h2 hB hl
      rw [p_gather]
      refine lv_iload_n hx hb d_Crew_gather_2 rfl (lv_at hl 0 rfl) ?_
      refine lv_iload_n hx hb d_Crew_gather_3 rfl (lv_at hl 2 rfl) ?_
      refine lv_icmp_ge (tgt := 27) hx hb d_Crew_gather_4 (by decide) (fun c_4 => ?_) (fun c_4 => ?_)
      · rw [if_pos c_4]
        refine lv_aload_n hx hb d_Crew_gather_27 rfl (lv_at hl 1 rfl) ?_
        refine lv_iload_n hx hb d_Crew_gather_28 rfl (lv_at hl 2 rfl) ?_
        refine zw_putI X hB fp_Crew_18 (fun h => by cases h) 6 (hs 6 _ rfl) rfl d_Crew_gather_29 (fun H locs hB => ?_)
        obtain ⟨mi_1, emi_1⟩ : ∃ y, y = zw_up mi 6 2 wk := ⟨_, rfl⟩
        rw [← emi_1] at hB
        exact zc_vret X hr hlocks hB (by subst emi_1; rfl) (by subst emi_1; rfl) (by subst emi_1; rfl) d_Crew_gather_32
      · rw [if_neg c_4]
        have hlt : i < w := zn_lt (by omega) (by rw [← ew]; exact c_4)
        have hin : vp_in (nI i) 16 := vp_in_nI (by omega) (by decide)
        refine lv_aload_n hx hb d_Crew_gather_7 rfl (lv_at hl 1 rfl) ?_
        refine zw_getR X hB fl_Crew_9 6 (hs 6 _ rfl) rfl d_Crew_gather_8 ?_
        refine lv_iload_n hx hb d_Crew_gather_11 rfl (lv_at hl 0 rfl) ?_
        refine lv_iload_n hx hb d_Crew_gather_12 rfl (lv_at hl 0 rfl) ?_
        refine zw_iast X hB 28 (hs 28 _ rfl) hin d_Crew_gather_13 (fun H locs hB => ?_)
        obtain ⟨mi_2, emi_2⟩ : ∃ y, y = zw_up mi 28 (nI i).toNatClampNeg (nI i) := ⟨_, rfl⟩
        rw [← emi_2] at hB
        refine lv_aload_n hx hb d_Crew_gather_14 rfl (lv_at hl 1 rfl) ?_
        refine zw_getR X hB fl_Crew_15 6 (hs 6 _ rfl) rfl d_Crew_gather_15 ?_
        refine lv_iload_n hx hb d_Crew_gather_18 rfl (lv_at hl 0 rfl) ?_
        refine lv_iconst (v := (-1)) hx hb d_Crew_gather_19 (by decide) ?_
        refine zw_iast X hB 29 (hs 29 _ rfl) hin d_Crew_gather_20 (fun H locs hB => ?_)
        obtain ⟨mi_3, emi_3⟩ : ∃ y, y = zw_up mi_2 29 (nI i).toNatClampNeg (-1) := ⟨_, rfl⟩
        rw [← emi_3] at hB
        refine lv_iinc (v := nI (i + 1)) (lv' := [(2, .int (nI (i + 1))), (0, .ref (ad 6)), (1, .int wk)]) hx hb d_Crew_gather_21 hl (k := 0) rfl (nI_1 i) (by decide) rfl (fun ls hl => ?_)
        refine lv_goto (tgt := 2) hx hb d_Crew_gather_24 (by decide) ?_
        subst emi_3
        subst emi_2
        rw [nI_1 i]
        exact ih (i + 1)  _ H locs ls (by omega) (by omega) hB (lv_sub hl [0, 1, 2] rfl)
  refine lv_iconst (v := 0) hx hb d_Crew_gather_0 (by decide) ?_
  refine lv_istore_n (lv' := [(2, .int 0), (0, .ref (ad 6)), (1, .int wk)]) hx hb d_Crew_gather_1 rfl hl (by decide) rfl (fun ls hl => ?_)
  exact loop 17 0 _ _ _ ls rfl (by omega) hB (lv_sub hl [0, 1, 2] rfl)

set_option maxHeartbeats 4000000 in
set_option maxRecDepth 100000 in
theorem c_Crew_whoseTurn {l : Launch} {D : va_G} {cA : Nat → ClassId} {ad : Nat → Nat} {sh : zw_Sh} {n : Nat} (hn : n ≤ 16) (hs : ∀ (k : Nat) (q : zw_Sp), shX n k = some q → sh k = some q) (z : Nat) (mi : zw_I) (ml : zw_L) (x : Int64) (h1 : ¬ mi 6 2 ≤ 0 → vp_in (p_place mi x) 16) (h2 : ¬ mi 6 2 ≤ 0 → ¬ (mi 6 2).toInt64 = 0) :
    zc_M l D cA Y_Crew_whoseTurn 0 0 0 ad sh sh z [.ref (ad 6), .long x] mi ml (some (.int (p_turn mi x))) mi ml z := by
  refine zc_enter (own := R_Crew) (by decide) rfl (Nat.le_of_ble_eq_true rfl) ?_
  intro p e s m below meth c X hr hlocks hnm hB ls hl
  have X : zw_C D cA R_Crew prog_3_method_3_code 3 p m c s := X
  have hr : meth.sig.returnType = (some FieldType.int) := hr
  have hx := X.1
  have hb := X.2.1
  have hl : lv_has ls 3 [(0, .ref (ad 6)), (1, .long x)] := hl
  unfold p_turn
  refine lv_aload_n hx hb d_Crew_whoseTurn_0 rfl (lv_at hl 0 rfl) ?_
  refine zw_getI X hB fl_Crew_18 6 (hs 6 _ rfl) rfl d_Crew_whoseTurn_1 ?_
  refine lv_if_le (tgt := 26) hx hb d_Crew_whoseTurn_4 (by decide) (fun c_4 => ?_) (fun c_4 => ?_)
  · rw [if_pos c_4]
    refine lv_iconst (v := (-1)) hx hb d_Crew_whoseTurn_26 (by decide) ?_
    exact zc_iret X hr hlocks hB (by rfl) (by rfl) (by rfl) d_Crew_whoseTurn_27
  · rw [if_neg c_4]
    refine lv_aload_n hx hb d_Crew_whoseTurn_7 rfl (lv_at hl 0 rfl) ?_
    refine zw_getR X hB fl_Crew_9 6 (hs 6 _ rfl) rfl d_Crew_whoseTurn_8 ?_
    refine lv_lload_n hx hb d_Crew_whoseTurn_11 rfl (lv_at hl 1 rfl) ?_
    refine lv_bipush (v := 33) hx hb d_Crew_whoseTurn_12 (by decide) ?_
    refine lv_lushr (v := (x.toUInt64 >>> ((33 : Int32).toInt64.toUInt64 &&& Int64.toUInt64 63)).toInt64) hx hb d_Crew_whoseTurn_14 rfl ?_
    refine lv_aload_n hx hb d_Crew_whoseTurn_15 rfl (lv_at hl 0 rfl) ?_
    refine zw_getI X hB fl_Crew_18 6 (hs 6 _ rfl) rfl d_Crew_whoseTurn_16 ?_
    refine lv_i2l (v := (mi 6 2).toInt64) hx hb d_Crew_whoseTurn_19 rfl ?_
    refine lv_lrem hx hb d_Crew_whoseTurn_20 (h2 c_4) ?_
    refine lv_l2i (v := (((x.toUInt64 >>> ((33 : Int32).toInt64.toUInt64 &&& Int64.toUInt64 63)).toInt64) - ((x.toUInt64 >>> ((33 : Int32).toInt64.toUInt64 &&& Int64.toUInt64 63)).toInt64) / ((mi 6 2).toInt64) * ((mi 6 2).toInt64)).toInt32) hx hb d_Crew_whoseTurn_21 rfl ?_
    refine zw_iald X hB 28 (hs 28 _ rfl) (h1 c_4) d_Crew_whoseTurn_22 ?_
    refine lv_goto (tgt := 27) hx hb d_Crew_whoseTurn_23 (by decide) ?_
    exact zc_iret X hr hlocks hB (by rfl) (by rfl) (by rfl) d_Crew_whoseTurn_27

set_option maxHeartbeats 4000000 in
set_option maxRecDepth 100000 in
theorem c_Crew_lose {l : Launch} {D : va_G} {cA : Nat → ClassId} {ad : Nat → Nat} {sh : zw_Sh} {n : Nat} (hn : n ≤ 16) (hs : ∀ (k : Nat) (q : zw_Sp), shX n k = some q → sh k = some q) (z : Nat) (mi : zw_I) (ml : zw_L) (wk : Int32) (w : Nat) (hw : w ≤ 16) (ew : mi 6 2 = nI w) :
    zc_M l D cA Y_Crew_lose 0 0 0 ad sh sh z [.ref (ad 6), .int wk] mi ml none (p_lose wk 17 0 0 mi) ml z := by
  refine zc_enter (own := R_Crew) (by decide) rfl (Nat.le_of_ble_eq_true rfl) ?_
  intro p e s m below meth c X hr hlocks hnm hB ls hl
  have X : zw_C D cA R_Crew prog_3_method_4_code 4 p m c s := X
  have hr : meth.sig.returnType = none := hr
  have hx := X.1
  have hb := X.2.1
  have hl : lv_has ls 4 [(0, .ref (ad 6)), (1, .int wk)] := hl
  have loop : ∀ (f i : Nat) (q : Nat) (mi : zw_I) (H : Heap) (locs : List Loc) (ls : Array Slot), i + f = 17 → i ≤ w → q ≤ i → mi 6 2 = nI w → zw_B D cA ad sh (zw_A ad sh z) s.heap mi ml z H locs → lv_has ls 4 [(3, .int (nI i)), (2, .int (nI q)), (0, .ref (ad 6)), (1, .int wk)] →
      zc_W l D cA ad sh sh z [.ref (ad 6), .int wk] 0 0 0 none (p_lose wk f (nI q) (nI i) mi) ml z p e s m below meth c H locs 0 0 (F0 m 4 ls []) := by
    intro f
    induction f with
    | zero =>
      intro i q mi H locs ls hi h2 hq ew hB hl
      omega
    | succ f ih =>
      intro i q mi H locs ls hi h2 hq ew hB hl
      rw [p_lose]
      refine lv_iload_n hx hb d_Crew_lose_4 rfl (lv_at hl 0 rfl) ?_
      refine lv_aload_n hx hb d_Crew_lose_5 rfl (lv_at hl 2 rfl) ?_
      refine zw_getI X hB fl_Crew_18 6 (hs 6 _ rfl) rfl d_Crew_lose_6 ?_
      refine lv_icmp_ge (tgt := 43) hx hb d_Crew_lose_9 (by decide) (fun c_9 => ?_) (fun c_9 => ?_)
      · rw [if_pos c_9]
        refine lv_aload_n hx hb d_Crew_lose_43 rfl (lv_at hl 2 rfl) ?_
        refine lv_iload_n hx hb d_Crew_lose_44 rfl (lv_at hl 1 rfl) ?_
        refine zw_putI X hB fp_Crew_18 (fun h => by cases h) 6 (hs 6 _ rfl) rfl d_Crew_lose_45 (fun H locs hB => ?_)
        obtain ⟨mi_1, emi_1⟩ : ∃ y, y = zw_up mi 6 2 (nI q) := ⟨_, rfl⟩
        rw [← emi_1] at hB
        exact zc_vret X hr hlocks hB (by subst emi_1; rfl) (by subst emi_1; rfl) (by subst emi_1; rfl) d_Crew_lose_48
      · rw [if_neg c_9]
        have hlt : i < w := zn_lt (by omega) (by rw [← ew]; exact c_9)
        have hin : vp_in (nI i) 16 := vp_in_nI (by omega) (by decide)
        have hinq : vp_in (nI q) 16 := vp_in_nI (by omega) (by decide)
        refine lv_aload_n hx hb d_Crew_lose_12 rfl (lv_at hl 2 rfl) ?_
        refine zw_getR X hB fl_Crew_9 6 (hs 6 _ rfl) rfl d_Crew_lose_13 ?_
        refine lv_iload_n hx hb d_Crew_lose_16 rfl (lv_at hl 0 rfl) ?_
        refine zw_iald X hB 28 (hs 28 _ rfl) hin d_Crew_lose_17 ?_
        refine lv_iload_n hx hb d_Crew_lose_18 rfl (lv_at hl 3 rfl) ?_
        refine lv_icmp_eq (tgt := 37) hx hb d_Crew_lose_19 (by decide) (fun c_19 => ?_) (fun c_19 => ?_)
        · rw [if_pos c_19]
          refine lv_iinc (v := nI (i + 1)) (lv' := [(3, .int (nI (i + 1))), (2, .int (nI q)), (0, .ref (ad 6)), (1, .int wk)]) hx hb d_Crew_lose_37 hl (k := 0) rfl (nI_1 i) (by decide) rfl (fun ls hl => ?_)
          refine lv_goto (tgt := 4) hx hb d_Crew_lose_40 (by decide) ?_
          rw [nI_1 i]
          exact ih (i + 1) q _ H locs ls (by omega) (by omega) (by omega) (by first | assumption | simpa [zw_up] using ew) hB (lv_sub hl [0, 1, 2, 3] rfl)
        · rw [if_neg c_19]
          refine lv_aload_n hx hb d_Crew_lose_22 rfl (lv_at hl 2 rfl) ?_
          refine zw_getR X hB fl_Crew_9 6 (hs 6 _ rfl) rfl d_Crew_lose_23 ?_
          refine lv_iload_n hx hb d_Crew_lose_26 rfl (lv_at hl 1 rfl) ?_
          refine lv_aload_n hx hb d_Crew_lose_27 rfl (lv_at hl 2 rfl) ?_
          refine zw_getR X hB fl_Crew_9 6 (hs 6 _ rfl) rfl d_Crew_lose_28 ?_
          refine lv_iload_n hx hb d_Crew_lose_31 rfl (lv_at hl 0 rfl) ?_
          refine zw_iald X hB 28 (hs 28 _ rfl) hin d_Crew_lose_32 ?_
          refine zw_iast X hB 28 (hs 28 _ rfl) hinq d_Crew_lose_33 (fun H locs hB => ?_)
          obtain ⟨mi_2, emi_2⟩ : ∃ y, y = zw_up mi 28 (nI q).toNatClampNeg (mi 28 (nI i).toNatClampNeg) := ⟨_, rfl⟩
          rw [← emi_2] at hB
          refine lv_iinc (v := nI (q + 1)) (lv' := [(2, .int (nI (q + 1))), (3, .int (nI i)), (0, .ref (ad 6)), (1, .int wk)]) hx hb d_Crew_lose_34 hl (k := 1) rfl (nI_1 q) (by decide) rfl (fun ls hl => ?_)
          refine lv_iinc (v := nI (i + 1)) (lv' := [(3, .int (nI (i + 1))), (2, .int (nI (q + 1))), (0, .ref (ad 6)), (1, .int wk)]) hx hb d_Crew_lose_37 hl (k := 1) rfl (nI_1 i) (by decide) rfl (fun ls hl => ?_)
          refine lv_goto (tgt := 4) hx hb d_Crew_lose_40 (by decide) ?_
          subst emi_2
          rw [nI_1 i, nI_1 q]
          exact ih (i + 1) (q + 1) _ H locs ls (by omega) (by omega) (by omega) (by first | assumption | simpa [zw_up] using ew) hB (lv_sub hl [0, 1, 2, 3] rfl)
  refine lv_iconst (v := 0) hx hb d_Crew_lose_0 (by decide) ?_
  refine lv_istore_n (lv' := [(2, .int 0), (0, .ref (ad 6)), (1, .int wk)]) hx hb d_Crew_lose_1 rfl hl (by decide) rfl (fun ls hl => ?_)
  refine lv_iconst (v := 0) hx hb d_Crew_lose_2 (by decide) ?_
  refine lv_istore_n (lv' := [(3, .int 0), (2, .int 0), (0, .ref (ad 6)), (1, .int wk)]) hx hb d_Crew_lose_3 rfl hl (by decide) rfl (fun ls hl => ?_)
  exact loop 17 0 0 _ _ _ ls rfl (by omega) (by omega) ew hB (lv_sub hl [0, 1, 2, 3] rfl)

set_option maxHeartbeats 4000000 in
set_option maxRecDepth 100000 in
theorem c_Failings_add {l : Launch} {D : va_G} {cA : Nat → ClassId} {ad : Nat → Nat} {sh : zw_Sh} {n : Nat} (hn : n ≤ 16) (hs : ∀ (k : Nat) (q : zw_Sp), shX n k = some q → sh k = some q) (z : Nat) (mi : zw_I) (ml : zw_L) (w : Int32) (x : Int32) (s0 : Int32) (t : Int32) (h5 : vp_in (mi 3 5) 8) :
    zc_M l D cA Y_Failings_add 0 0 0 ad sh sh z [.ref (ad 3), .int w, .int x, .int s0, .int t] mi ml (some (.int (p_fadd w x s0 t mi 3 5))) (p_fadd w x s0 t mi) ml z := by
  refine zc_enter (own := R_Failings) (by decide) rfl (Nat.le_of_ble_eq_true rfl) ?_
  intro p e s m below meth c X hr hlocks hnm hB ls hl
  have X : zw_C D cA R_Failings prog_4_method_2_code 5 p m c s := X
  have hr : meth.sig.returnType = (some FieldType.int) := hr
  have hx := X.1
  have hb := X.2.1
  have hl : lv_has ls 5 [(0, .ref (ad 3)), (1, .int w), (2, .int x), (3, .int s0), (4, .int t)] := hl
  refine lv_aload_n hx hb d_Failings_add_0 rfl (lv_at hl 0 rfl) ?_
  refine zw_getR X hB fl_Failings_9 3 (hs 3 _ rfl) rfl d_Failings_add_1 ?_
  refine lv_aload_n hx hb d_Failings_add_4 rfl (lv_at hl 0 rfl) ?_
  refine zw_getI X hB fl_Failings_27 3 (hs 3 _ rfl) rfl d_Failings_add_5 ?_
  refine lv_iload_n hx hb d_Failings_add_8 rfl (lv_at hl 1 rfl) ?_
  refine zw_iast X hB 14 (hs 14 _ rfl) h5 d_Failings_add_9 (fun H locs hB => ?_)
  obtain ⟨mi_1, emi_1⟩ : ∃ y, y = zw_up mi 14 (mi 3 5).toNatClampNeg w := ⟨_, rfl⟩
  rw [← emi_1] at hB
  refine lv_aload_n hx hb d_Failings_add_10 rfl (lv_at hl 0 rfl) ?_
  refine zw_getR X hB fl_Failings_15 3 (hs 3 _ rfl) rfl d_Failings_add_11 ?_
  refine lv_aload_n hx hb d_Failings_add_14 rfl (lv_at hl 0 rfl) ?_
  refine zw_getI X hB fl_Failings_27 3 (hs 3 _ rfl) rfl d_Failings_add_15 ?_
  refine lv_iload_n hx hb d_Failings_add_18 rfl (lv_at hl 2 rfl) ?_
  refine zw_iast X hB 15 (hs 15 _ rfl) (by subst_vars; simpa [zw_up] using h5) d_Failings_add_19 (fun H locs hB => ?_)
  obtain ⟨mi_2, emi_2⟩ : ∃ y, y = zw_up mi_1 15 (mi_1 3 5).toNatClampNeg x := ⟨_, rfl⟩
  rw [← emi_2] at hB
  refine lv_aload_n hx hb d_Failings_add_20 rfl (lv_at hl 0 rfl) ?_
  refine zw_getR X hB fl_Failings_18 3 (hs 3 _ rfl) rfl d_Failings_add_21 ?_
  refine lv_aload_n hx hb d_Failings_add_24 rfl (lv_at hl 0 rfl) ?_
  refine zw_getI X hB fl_Failings_27 3 (hs 3 _ rfl) rfl d_Failings_add_25 ?_
  refine lv_iload_n hx hb d_Failings_add_28 rfl (lv_at hl 3 rfl) ?_
  refine zw_iast X hB 16 (hs 16 _ rfl) (by subst_vars; simpa [zw_up] using h5) d_Failings_add_29 (fun H locs hB => ?_)
  obtain ⟨mi_3, emi_3⟩ : ∃ y, y = zw_up mi_2 16 (mi_2 3 5).toNatClampNeg s0 := ⟨_, rfl⟩
  rw [← emi_3] at hB
  refine lv_aload_n hx hb d_Failings_add_30 rfl (lv_at hl 0 rfl) ?_
  refine zw_getR X hB fl_Failings_21 3 (hs 3 _ rfl) rfl d_Failings_add_31 ?_
  refine lv_aload_n hx hb d_Failings_add_34 rfl (lv_at hl 0 rfl) ?_
  refine zw_getI X hB fl_Failings_27 3 (hs 3 _ rfl) rfl d_Failings_add_35 ?_
  refine lv_iload hx hb d_Failings_add_38 (lv_at hl 4 rfl) ?_
  refine zw_iast X hB 17 (hs 17 _ rfl) (by subst_vars; simpa [zw_up] using h5) d_Failings_add_40 (fun H locs hB => ?_)
  obtain ⟨mi_4, emi_4⟩ : ∃ y, y = zw_up mi_3 17 (mi_3 3 5).toNatClampNeg t := ⟨_, rfl⟩
  rw [← emi_4] at hB
  refine lv_aload_n hx hb d_Failings_add_41 rfl (lv_at hl 0 rfl) ?_
  refine lv_dup hx hb d_Failings_add_42 rfl ?_
  refine zw_getI X hB fl_Failings_27 3 (hs 3 _ rfl) rfl d_Failings_add_43 ?_
  refine lv_iconst (v := 1) hx hb d_Failings_add_46 (by decide) ?_
  refine lv_iadd hx hb d_Failings_add_47 ?_
  refine zw_putI X hB fp_Failings_27 (fun h => by cases h) 3 (hs 3 _ rfl) rfl d_Failings_add_48 (fun H locs hB => ?_)
  obtain ⟨mi_5, emi_5⟩ : ∃ y, y = zw_up mi_4 3 5 ((mi_4 3 5) + 1) := ⟨_, rfl⟩
  rw [← emi_5] at hB
  refine lv_aload_n hx hb d_Failings_add_51 rfl (lv_at hl 0 rfl) ?_
  refine zw_getI X hB fl_Failings_27 3 (hs 3 _ rfl) rfl d_Failings_add_52 ?_
  exact zc_iret X hr hlocks hB (by subst emi_5; subst emi_4; subst emi_3; subst emi_2; subst emi_1; rfl) (by subst emi_5; subst emi_4; subst emi_3; subst emi_2; subst emi_1; rfl) (by subst emi_5; subst emi_4; subst emi_3; subst emi_2; subst emi_1; rfl) d_Failings_add_55

set_option maxHeartbeats 4000000 in
set_option maxRecDepth 100000 in
theorem c_Failings_renew {l : Launch} {D : va_G} {cA : Nat → ClassId} {ad : Nat → Nat} {sh : zw_Sh} {n : Nat} (hn : n ≤ 16) (hs : ∀ (k : Nat) (q : zw_Sp), shX n k = some q → sh k = some q) (z : Nat) (mi : zw_I) (ml : zw_L) (w : Nat) (hw : w ≤ 8) (ew : mi 3 5 = nI w) :
    zc_M l D cA Y_Failings_renew 0 0 0 ad sh sh z [.ref (ad 3)] mi ml none (p_renew 9 0 mi) ml z := by
  refine zc_enter (own := R_Failings) (by decide) rfl (Nat.le_of_ble_eq_true rfl) ?_
  intro p e s m below meth c X hr hlocks hnm hB ls hl
  have X : zw_C D cA R_Failings prog_4_method_3_code 2 p m c s := X
  have hr : meth.sig.returnType = none := hr
  have hx := X.1
  have hb := X.2.1
  have hl : lv_has ls 2 [(0, .ref (ad 3))] := hl
  have loop : ∀ (f i : Nat) (mi : zw_I) (H : Heap) (locs : List Loc) (ls : Array Slot), i + f = 9 → i ≤ w → mi 3 5 = nI w → zw_B D cA ad sh (zw_A ad sh z) s.heap mi ml z H locs → lv_has ls 2 [(1, .int (nI i)), (0, .ref (ad 3))] →
      zc_W l D cA ad sh sh z [.ref (ad 3)] 0 0 0 none (p_renew f (nI i) mi) ml z p e s m below meth c H locs 0 0 (F0 m 2 ls []) := by
    intro f
    induction f with
    | zero =>
      intro i  mi H locs ls hi h2 ew hB hl
      omega
    | succ f ih =>
      intro i  mi H locs ls hi h2 ew hB hl
      rw [p_renew]
      refine lv_iload_n hx hb d_Failings_renew_2 rfl (lv_at hl 0 rfl) ?_
      refine lv_aload_n hx hb d_Failings_renew_3 rfl (lv_at hl 1 rfl) ?_
      refine zw_getI X hB fl_Failings_27 3 (hs 3 _ rfl) rfl d_Failings_renew_4 ?_
      refine lv_icmp_ge (tgt := 28) hx hb d_Failings_renew_7 (by decide) (fun c_7 => ?_) (fun c_7 => ?_)
      · rw [if_pos c_7]
        exact zc_vret X hr hlocks hB (by rfl) (by rfl) (by rfl) d_Failings_renew_28
      · rw [if_neg c_7]
        have hlt : i < w := zn_lt (by omega) (by rw [← ew]; exact c_7)
        have hin : vp_in (nI i) 8 := vp_in_nI (by omega) (by decide)
        refine lv_aload_n hx hb d_Failings_renew_10 rfl (lv_at hl 1 rfl) ?_
        refine zw_getR X hB fl_Failings_24 3 (hs 3 _ rfl) rfl d_Failings_renew_11 ?_
        refine lv_iload_n hx hb d_Failings_renew_14 rfl (lv_at hl 0 rfl) ?_
        refine lv_aload_n hx hb d_Failings_renew_15 rfl (lv_at hl 1 rfl) ?_
        refine zw_getR X hB fl_Failings_21 3 (hs 3 _ rfl) rfl d_Failings_renew_16 ?_
        refine lv_iload_n hx hb d_Failings_renew_19 rfl (lv_at hl 0 rfl) ?_
        refine zw_iald X hB 17 (hs 17 _ rfl) hin d_Failings_renew_20 ?_
        refine zw_iast X hB 18 (hs 18 _ rfl) hin d_Failings_renew_21 (fun H locs hB => ?_)
        obtain ⟨mi_1, emi_1⟩ : ∃ y, y = zw_up mi 18 (nI i).toNatClampNeg (mi 17 (nI i).toNatClampNeg) := ⟨_, rfl⟩
        rw [← emi_1] at hB
        refine lv_iinc (v := nI (i + 1)) (lv' := [(1, .int (nI (i + 1))), (0, .ref (ad 3))]) hx hb d_Failings_renew_22 hl (k := 0) rfl (nI_1 i) (by decide) rfl (fun ls hl => ?_)
        refine lv_goto (tgt := 2) hx hb d_Failings_renew_25 (by decide) ?_
        subst emi_1
        rw [nI_1 i]
        exact ih (i + 1)  _ H locs ls (by omega) (by omega) (by simpa [zw_up] using ew) hB (lv_sub hl [0, 1] rfl)
  refine lv_iconst (v := 0) hx hb d_Failings_renew_0 (by decide) ?_
  refine lv_istore_n (lv' := [(1, .int 0), (0, .ref (ad 3))]) hx hb d_Failings_renew_1 rfl hl (by decide) rfl (fun ls hl => ?_)
  exact loop 9 0 _ _ _ ls rfl (by omega) ew hB (lv_sub hl [0, 1] rfl)

set_option maxHeartbeats 4000000 in
set_option maxRecDepth 100000 in
theorem c_Failings_strike {l : Launch} {D : va_G} {cA : Nat → ClassId} {ad : Nat → Nat} {sh : zw_Sh} {n : Nat} (hn : n ≤ 16) (hs : ∀ (k : Nat) (q : zw_Sp), shX n k = some q → sh k = some q) (z : Nat) (mi : zw_I) (ml : zw_L) (w0 : Int32) (x : Int32) (s0 : Int32) (w : Nat) (hw : w ≤ 8) (ew : mi 3 5 = nI w) :
    zc_M l D cA Y_Failings_strike 0 0 0 ad sh sh z [.ref (ad 3), .int w0, .int x, .int s0] mi ml (some (.int ((p_strike w0 x s0 mi 9 0).1))) ((p_strike w0 x s0 mi 9 0).2) ml z := by
  refine zc_enter (own := R_Failings) (by decide) rfl (Nat.le_of_ble_eq_true rfl) ?_
  intro p e s m below meth c X hr hlocks hnm hB ls hl
  have X : zw_C D cA R_Failings prog_4_method_4_code 5 p m c s := X
  have hr : meth.sig.returnType = (some FieldType.boolean) := hr
  have hx := X.1
  have hb := X.2.1
  have hl : lv_has ls 5 [(0, .ref (ad 3)), (1, .int w0), (2, .int x), (3, .int s0)] := hl
  have loop : ∀ (f i : Nat)  (H : Heap) (locs : List Loc) (ls : Array Slot), i + f = 9 → i ≤ w → zw_B D cA ad sh (zw_A ad sh z) s.heap mi ml z H locs → lv_has ls 5 [(4, .int (nI i)), (0, .ref (ad 3)), (1, .int w0), (2, .int x), (3, .int s0)] →
      zc_W l D cA ad sh sh z [.ref (ad 3), .int w0, .int x, .int s0] 0 0 0 (some (.int ((p_strike w0 x s0 mi f (nI i)).1))) ((p_strike w0 x s0 mi f (nI i)).2) ml z p e s m below meth c H locs 0 0 (F0 m 3 ls []) := by
    intro f
    induction f with
    | zero =>
      intro i   H locs ls hi h2 hB hl
      omega
    | succ f ih =>
      intro i   H locs ls hi h2 hB hl
      rw [p_strike]
      refine lv_iload hx hb d_Failings_strike_3 (lv_at hl 0 rfl) ?_
      refine lv_aload_n hx hb d_Failings_strike_5 rfl (lv_at hl 1 rfl) ?_
      refine zw_getI X hB fl_Failings_27 3 (hs 3 _ rfl) rfl d_Failings_strike_6 ?_
      refine lv_icmp_ge (tgt := 74) hx hb d_Failings_strike_9 (by decide) (fun c_9 => ?_) (fun c_9 => ?_)
      · rw [if_pos c_9]
        refine lv_iconst (v := 0) hx hb d_Failings_strike_74 (by decide) ?_
        exact zc_zret X hr hlocks hB (by rfl) (by rfl) (by rfl) (by rfl) d_Failings_strike_75
      · rw [if_neg c_9]
        have hlt : i < w := zn_lt (by omega) (by rw [← ew]; exact c_9)
        have hin : vp_in (nI i) 8 := vp_in_nI (by omega) (by decide)
        refine lv_aload_n hx hb d_Failings_strike_12 rfl (lv_at hl 1 rfl) ?_
        refine zw_getR X hB fl_Failings_9 3 (hs 3 _ rfl) rfl d_Failings_strike_13 ?_
        refine lv_iload hx hb d_Failings_strike_16 (lv_at hl 0 rfl) ?_
        refine zw_iald X hB 14 (hs 14 _ rfl) hin d_Failings_strike_18 ?_
        refine lv_iload_n hx hb d_Failings_strike_19 rfl (lv_at hl 2 rfl) ?_
        refine lv_icmp_ne (tgt := 68) hx hb d_Failings_strike_20 (by decide) (fun c_20 => ?_) (fun c_20 => ?_)
        · rw [if_neg c_20]
          refine lv_iinc (v := nI (i + 1)) (lv' := [(4, .int (nI (i + 1))), (0, .ref (ad 3)), (1, .int w0), (2, .int x), (3, .int s0)]) hx hb d_Failings_strike_68 hl (k := 0) rfl (nI_1 i) (by decide) rfl (fun ls hl => ?_)
          refine lv_goto (tgt := 3) hx hb d_Failings_strike_71 (by decide) ?_
          rw [nI_1 i]
          exact ih (i + 1)   H locs ls (by omega) (by omega) hB (lv_sub hl [0, 1, 2, 3, 4] rfl)
        · rw [if_pos c_20]
          refine lv_aload_n hx hb d_Failings_strike_23 rfl (lv_at hl 1 rfl) ?_
          refine zw_getR X hB fl_Failings_15 3 (hs 3 _ rfl) rfl d_Failings_strike_24 ?_
          refine lv_iload hx hb d_Failings_strike_27 (lv_at hl 0 rfl) ?_
          refine zw_iald X hB 15 (hs 15 _ rfl) hin d_Failings_strike_29 ?_
          refine lv_iload_n hx hb d_Failings_strike_30 rfl (lv_at hl 3 rfl) ?_
          refine lv_icmp_ne (tgt := 68) hx hb d_Failings_strike_31 (by decide) (fun c_31 => ?_) (fun c_31 => ?_)
          · rw [if_neg c_31]
            refine lv_iinc (v := nI (i + 1)) (lv' := [(4, .int (nI (i + 1))), (0, .ref (ad 3)), (1, .int w0), (2, .int x), (3, .int s0)]) hx hb d_Failings_strike_68 hl (k := 0) rfl (nI_1 i) (by decide) rfl (fun ls hl => ?_)
            refine lv_goto (tgt := 3) hx hb d_Failings_strike_71 (by decide) ?_
            rw [nI_1 i]
            exact ih (i + 1)   H locs ls (by omega) (by omega) hB (lv_sub hl [0, 1, 2, 3, 4] rfl)
          · rw [if_pos c_31]
            refine lv_aload_n hx hb d_Failings_strike_34 rfl (lv_at hl 1 rfl) ?_
            refine zw_getR X hB fl_Failings_18 3 (hs 3 _ rfl) rfl d_Failings_strike_35 ?_
            refine lv_iload hx hb d_Failings_strike_38 (lv_at hl 0 rfl) ?_
            refine zw_iald X hB 16 (hs 16 _ rfl) hin d_Failings_strike_40 ?_
            refine lv_iload_n hx hb d_Failings_strike_41 rfl (lv_at hl 4 rfl) ?_
            refine lv_icmp_ne (tgt := 68) hx hb d_Failings_strike_42 (by decide) (fun c_42 => ?_) (fun c_42 => ?_)
            · rw [if_neg c_42]
              refine lv_iinc (v := nI (i + 1)) (lv' := [(4, .int (nI (i + 1))), (0, .ref (ad 3)), (1, .int w0), (2, .int x), (3, .int s0)]) hx hb d_Failings_strike_68 hl (k := 0) rfl (nI_1 i) (by decide) rfl (fun ls hl => ?_)
              refine lv_goto (tgt := 3) hx hb d_Failings_strike_71 (by decide) ?_
              rw [nI_1 i]
              exact ih (i + 1)   H locs ls (by omega) (by omega) hB (lv_sub hl [0, 1, 2, 3, 4] rfl)
            · rw [if_pos c_42]
              refine lv_aload_n hx hb d_Failings_strike_45 rfl (lv_at hl 1 rfl) ?_
              refine zw_getR X hB fl_Failings_24 3 (hs 3 _ rfl) rfl d_Failings_strike_46 ?_
              refine lv_iload hx hb d_Failings_strike_49 (lv_at hl 0 rfl) ?_
              refine zw_iald X hB 18 (hs 18 _ rfl) hin d_Failings_strike_51 ?_
              refine lv_if_le (tgt := 68) hx hb d_Failings_strike_52 (by decide) (fun c_52 => ?_) (fun c_52 => ?_)
              · rw [if_pos c_52]
                refine lv_iinc (v := nI (i + 1)) (lv' := [(4, .int (nI (i + 1))), (0, .ref (ad 3)), (1, .int w0), (2, .int x), (3, .int s0)]) hx hb d_Failings_strike_68 hl (k := 0) rfl (nI_1 i) (by decide) rfl (fun ls hl => ?_)
                refine lv_goto (tgt := 3) hx hb d_Failings_strike_71 (by decide) ?_
                rw [nI_1 i]
                exact ih (i + 1)   H locs ls (by omega) (by omega) hB (lv_sub hl [0, 1, 2, 3, 4] rfl)
              · rw [if_neg c_52]
                refine lv_aload_n hx hb d_Failings_strike_55 rfl (lv_at hl 1 rfl) ?_
                refine zw_getR X hB fl_Failings_24 3 (hs 3 _ rfl) rfl d_Failings_strike_56 ?_
                refine lv_iload hx hb d_Failings_strike_59 (lv_at hl 0 rfl) ?_
                refine lv_dup2_11 hx hb d_Failings_strike_61 rfl rfl ?_
                refine zw_iald X hB 18 (hs 18 _ rfl) hin d_Failings_strike_62 ?_
                refine lv_iconst (v := 1) hx hb d_Failings_strike_63 (by decide) ?_
                refine lv_isub hx hb d_Failings_strike_64 ?_
                refine zw_iast X hB 18 (hs 18 _ rfl) hin d_Failings_strike_65 (fun H locs hB => ?_)
                obtain ⟨mi_1, emi_1⟩ : ∃ y, y = zw_up mi 18 (nI i).toNatClampNeg ((mi 18 (nI i).toNatClampNeg) - 1) := ⟨_, rfl⟩
                rw [← emi_1] at hB
                refine lv_iconst (v := 1) hx hb d_Failings_strike_66 (by decide) ?_
                exact zc_zret X hr hlocks hB (by rfl) (by subst emi_1; rfl) (by subst emi_1; rfl) (by subst emi_1; rfl) d_Failings_strike_67
  refine lv_iconst (v := 0) hx hb d_Failings_strike_0 (by decide) ?_
  refine lv_istore (lv' := [(4, .int 0), (0, .ref (ad 3)), (1, .int w0), (2, .int x), (3, .int s0)]) hx hb d_Failings_strike_1 hl (by decide) rfl (fun ls hl => ?_)
  exact loop 9 0  _ _ ls rfl (by omega) hB (lv_sub hl [0, 1, 2, 3, 4] rfl)

set_option maxHeartbeats 4000000 in
set_option maxRecDepth 100000 in
theorem c_Needs_add {l : Launch} {D : va_G} {cA : Nat → ClassId} {ad : Nat → Nat} {sh : zw_Sh} {n : Nat} (hn : n ≤ 16) (hs : ∀ (k : Nat) (q : zw_Sp), shX n k = some q → sh k = some q) (z : Nat) (mi : zw_I) (ml : zw_L) (x : Int32) (s0 : Int32) (o : Int32) (m0 : Int32) (h1 : vp_in x n) (h2 : vp_in (mi 10 x.toNatClampNeg) 6) :
    zc_M l D cA Y_Needs_add 0 0 0 ad sh sh z [.ref (ad 2), .int x, .int s0, .int o, .int m0] mi ml (some (.int (p_nadd x s0 o m0 mi 10 x.toNatClampNeg))) (p_nadd x s0 o m0 mi) ml z := by
  refine zc_enter (own := R_Needs) (by decide) rfl (Nat.le_of_ble_eq_true rfl) ?_
  intro p e s m below meth c X hr hlocks hnm hB ls hl
  have X : zw_C D cA R_Needs prog_6_method_2_code 6 p m c s := X
  have hr : meth.sig.returnType = (some FieldType.int) := hr
  have hx := X.1
  have hb := X.2.1
  have hl : lv_has ls 6 [(0, .ref (ad 2)), (1, .int x), (2, .int s0), (3, .int o), (4, .int m0)] := hl
  refine lv_aload_n hx hb d_Needs_add_0 rfl (lv_at hl 0 rfl) ?_
  refine zw_getR X hB fl_Needs_9 2 (hs 2 _ rfl) rfl d_Needs_add_1 ?_
  refine lv_iload_n hx hb d_Needs_add_4 rfl (lv_at hl 1 rfl) ?_
  refine zw_iald X hB 10 (hs 10 _ rfl) h1 d_Needs_add_5 ?_
  refine lv_istore (lv' := [(5, .int (mi 10 x.toNatClampNeg)), (0, .ref (ad 2)), (1, .int x), (2, .int s0), (3, .int o), (4, .int m0)]) hx hb d_Needs_add_6 hl (by decide) rfl (fun ls hl => ?_)
  refine lv_aload_n hx hb d_Needs_add_8 rfl (lv_at hl 1 rfl) ?_
  refine zw_getR X hB fl_Needs_17 2 (hs 2 _ rfl) rfl d_Needs_add_9 ?_
  refine lv_iload_n hx hb d_Needs_add_12 rfl (lv_at hl 2 rfl) ?_
  refine zw_aald X hB 11 (Or.inl rfl) (hs 11 _ rfl) h1 d_Needs_add_13 ?_
  refine lv_iload hx hb d_Needs_add_14 (lv_at hl 0 rfl) ?_
  refine lv_iload_n hx hb d_Needs_add_16 rfl (lv_at hl 3 rfl) ?_
  refine zw_iast X hB (64 + x.toNatClampNeg) (hs _ _ (shr0 hn (vlt h1))) h2 d_Needs_add_17 (fun H locs hB => ?_)
  obtain ⟨mi_1, emi_1⟩ : ∃ y, y = zw_up mi (64 + x.toNatClampNeg) (mi 10 x.toNatClampNeg).toNatClampNeg s0 := ⟨_, rfl⟩
  rw [← emi_1] at hB
  refine lv_aload_n hx hb d_Needs_add_18 rfl (lv_at hl 1 rfl) ?_
  refine zw_getR X hB fl_Needs_20 2 (hs 2 _ rfl) rfl d_Needs_add_19 ?_
  refine lv_iload_n hx hb d_Needs_add_22 rfl (lv_at hl 2 rfl) ?_
  refine zw_aald X hB 12 (Or.inl rfl) (hs 12 _ rfl) h1 d_Needs_add_23 ?_
  refine lv_iload hx hb d_Needs_add_24 (lv_at hl 0 rfl) ?_
  refine lv_iload_n hx hb d_Needs_add_26 rfl (lv_at hl 4 rfl) ?_
  refine zw_iast X hB (80 + x.toNatClampNeg) (hs _ _ (shr1 hn (vlt h1))) h2 d_Needs_add_27 (fun H locs hB => ?_)
  obtain ⟨mi_2, emi_2⟩ : ∃ y, y = zw_up mi_1 (80 + x.toNatClampNeg) (mi 10 x.toNatClampNeg).toNatClampNeg o := ⟨_, rfl⟩
  rw [← emi_2] at hB
  refine lv_aload_n hx hb d_Needs_add_28 rfl (lv_at hl 1 rfl) ?_
  refine zw_getR X hB fl_Needs_23 2 (hs 2 _ rfl) rfl d_Needs_add_29 ?_
  refine lv_iload_n hx hb d_Needs_add_32 rfl (lv_at hl 2 rfl) ?_
  refine zw_aald X hB 13 (Or.inl rfl) (hs 13 _ rfl) h1 d_Needs_add_33 ?_
  refine lv_iload hx hb d_Needs_add_34 (lv_at hl 0 rfl) ?_
  refine lv_iload hx hb d_Needs_add_36 (lv_at hl 5 rfl) ?_
  refine zw_iast X hB (96 + x.toNatClampNeg) (hs _ _ (shr2 hn (vlt h1))) h2 d_Needs_add_38 (fun H locs hB => ?_)
  obtain ⟨mi_3, emi_3⟩ : ∃ y, y = zw_up mi_2 (96 + x.toNatClampNeg) (mi 10 x.toNatClampNeg).toNatClampNeg m0 := ⟨_, rfl⟩
  rw [← emi_3] at hB
  refine lv_aload_n hx hb d_Needs_add_39 rfl (lv_at hl 1 rfl) ?_
  refine zw_getR X hB fl_Needs_9 2 (hs 2 _ rfl) rfl d_Needs_add_40 ?_
  refine lv_iload_n hx hb d_Needs_add_43 rfl (lv_at hl 2 rfl) ?_
  refine lv_iload hx hb d_Needs_add_44 (lv_at hl 0 rfl) ?_
  refine lv_iconst (v := 1) hx hb d_Needs_add_46 (by decide) ?_
  refine lv_iadd hx hb d_Needs_add_47 ?_
  refine zw_iast X hB 10 (hs 10 _ rfl) h1 d_Needs_add_48 (fun H locs hB => ?_)
  obtain ⟨mi_4, emi_4⟩ : ∃ y, y = zw_up mi_3 10 x.toNatClampNeg ((mi 10 x.toNatClampNeg) + 1) := ⟨_, rfl⟩
  rw [← emi_4] at hB
  refine lv_aload_n hx hb d_Needs_add_49 rfl (lv_at hl 1 rfl) ?_
  refine zw_getR X hB fl_Needs_9 2 (hs 2 _ rfl) rfl d_Needs_add_50 ?_
  refine lv_iload_n hx hb d_Needs_add_53 rfl (lv_at hl 2 rfl) ?_
  refine zw_iald X hB 10 (hs 10 _ rfl) h1 d_Needs_add_54 ?_
  exact zc_iret X hr hlocks hB (by subst emi_4; subst emi_3; subst emi_2; subst emi_1; rfl) (by subst emi_4; subst emi_3; subst emi_2; subst emi_1; rfl) (by subst emi_4; subst emi_3; subst emi_2; subst emi_1; rfl) d_Needs_add_55

set_option maxHeartbeats 4000000 in
set_option maxRecDepth 100000 in
theorem c_Needs_firstUnmet {l : Launch} {D : va_G} {cA : Nat → ClassId} {ad : Nat → Nat} {sh : zw_Sh} {n : Nat} (hn : n ≤ 16) (hs : ∀ (k : Nat) (q : zw_Sp), shX n k = some q → sh k = some q) (z : Nat) (mi : zw_I) (ml : zw_L) (x : Int32) (s0 : Int32) (h1 : vp_in x n) (w : Nat) (hw : w ≤ 6) (ew : mi 10 x.toNatClampNeg = nI w) (ho : ∀ k : Nat, k < 6 → vp_in (mi (80 + x.toNatClampNeg) k) n) :
    zc_M l D cA Y_Needs_firstUnmet 0 0 0 ad sh sh z [.ref (ad 2), .int x, .int s0, .ref (ad 23)] mi ml (some (.int (p_unmet mi x s0 7 0))) mi ml z := by
  refine zc_enter (own := R_Needs) (by decide) rfl (Nat.le_of_ble_eq_true rfl) ?_
  intro p e s m below meth c X hr hlocks hnm hB ls hl
  have X : zw_C D cA R_Needs prog_6_method_3_code 6 p m c s := X
  have hr : meth.sig.returnType = (some FieldType.int) := hr
  have hx := X.1
  have hb := X.2.1
  have hl : lv_has ls 6 [(0, .ref (ad 2)), (1, .int x), (2, .int s0), (3, .ref (ad 23))] := hl
  have loop : ∀ (f i : Nat)  (H : Heap) (locs : List Loc) (ls : Array Slot), i + f = 7 → i ≤ w → zw_B D cA ad sh (zw_A ad sh z) s.heap mi ml z H locs → lv_has ls 6 [(4, .int (nI i)), (0, .ref (ad 2)), (1, .int x), (2, .int s0), (3, .ref (ad 23))] →
      zc_W l D cA ad sh sh z [.ref (ad 2), .int x, .int s0, .ref (ad 23)] 0 0 0 (some (.int (p_unmet mi x s0 f (nI i)))) mi ml z p e s m below meth c H locs 0 0 (F0 m 3 ls []) := by
    intro f
    induction f with
    | zero =>
      intro i   H locs ls hi h2 hB hl
      omega
    | succ f ih =>
      intro i   H locs ls hi h2 hB hl
      rw [p_unmet]
      refine lv_iload hx hb d_Needs_firstUnmet_3 (lv_at hl 0 rfl) ?_
      refine lv_aload_n hx hb d_Needs_firstUnmet_5 rfl (lv_at hl 1 rfl) ?_
      refine zw_getR X hB fl_Needs_9 2 (hs 2 _ rfl) rfl d_Needs_firstUnmet_6 ?_
      refine lv_iload_n hx hb d_Needs_firstUnmet_9 rfl (lv_at hl 2 rfl) ?_
      refine zw_iald X hB 10 (hs 10 _ rfl) h1 d_Needs_firstUnmet_10 ?_
      refine lv_icmp_ge (tgt := 63) hx hb d_Needs_firstUnmet_11 (by decide) (fun c_11 => ?_) (fun c_11 => ?_)
      · rw [if_pos c_11]
        refine lv_iconst (v := (-1)) hx hb d_Needs_firstUnmet_63 (by decide) ?_
        exact zc_iret X hr hlocks hB (by rfl) (by rfl) (by rfl) d_Needs_firstUnmet_64
      · rw [if_neg c_11]
        have hlt : i < w := zn_lt (by omega) (by rw [← ew]; exact c_11)
        have hin : vp_in (nI i) 6 := vp_in_nI (by omega) (by decide)
        have ho1 := ho (nI i).toNatClampNeg (vlt hin)
        refine lv_aload_n hx hb d_Needs_firstUnmet_14 rfl (lv_at hl 1 rfl) ?_
        refine zw_getR X hB fl_Needs_20 2 (hs 2 _ rfl) rfl d_Needs_firstUnmet_15 ?_
        refine lv_iload_n hx hb d_Needs_firstUnmet_18 rfl (lv_at hl 2 rfl) ?_
        refine zw_aald X hB 12 (Or.inl rfl) (hs 12 _ rfl) h1 d_Needs_firstUnmet_19 ?_
        refine lv_iload hx hb d_Needs_firstUnmet_20 (lv_at hl 0 rfl) ?_
        refine zw_iald X hB (80 + x.toNatClampNeg) (hs _ _ (shr1 hn (vlt h1))) hin d_Needs_firstUnmet_22 ?_
        refine lv_istore (lv' := [(5, .int (mi (80 + x.toNatClampNeg) (nI i).toNatClampNeg)), (4, .int (nI i)), (0, .ref (ad 2)), (1, .int x), (2, .int s0), (3, .ref (ad 23))]) hx hb d_Needs_firstUnmet_23 hl (by decide) rfl (fun ls hl => ?_)
        refine lv_aload_n hx hb d_Needs_firstUnmet_25 rfl (lv_at hl 2 rfl) ?_
        refine zw_getR X hB fl_Needs_17 2 (hs 2 _ rfl) rfl d_Needs_firstUnmet_26 ?_
        refine lv_iload_n hx hb d_Needs_firstUnmet_29 rfl (lv_at hl 3 rfl) ?_
        refine zw_aald X hB 11 (Or.inl rfl) (hs 11 _ rfl) h1 d_Needs_firstUnmet_30 ?_
        refine lv_iload hx hb d_Needs_firstUnmet_31 (lv_at hl 1 rfl) ?_
        refine zw_iald X hB (64 + x.toNatClampNeg) (hs _ _ (shr0 hn (vlt h1))) hin d_Needs_firstUnmet_33 ?_
        refine lv_iload_n hx hb d_Needs_firstUnmet_34 rfl (lv_at hl 4 rfl) ?_
        refine lv_icmp_ne (tgt := 57) hx hb d_Needs_firstUnmet_35 (by decide) (fun c_35 => ?_) (fun c_35 => ?_)
        · rw [if_neg c_35]
          refine lv_iinc (v := nI (i + 1)) (lv' := [(4, .int (nI (i + 1))), (5, .int (mi (80 + x.toNatClampNeg) (nI i).toNatClampNeg)), (0, .ref (ad 2)), (1, .int x), (2, .int s0), (3, .ref (ad 23))]) hx hb d_Needs_firstUnmet_57 hl (k := 1) rfl (nI_1 i) (by decide) rfl (fun ls hl => ?_)
          refine lv_goto (tgt := 3) hx hb d_Needs_firstUnmet_60 (by decide) ?_
          rw [nI_1 i]
          exact ih (i + 1)   H locs ls (by omega) (by omega) hB (lv_sub hl [0, 2, 3, 4, 5] rfl)
        · rw [if_pos c_35]
          refine lv_aload_n hx hb d_Needs_firstUnmet_38 rfl (lv_at hl 5 rfl) ?_
          refine lv_iload hx hb d_Needs_firstUnmet_39 (lv_at hl 0 rfl) ?_
          refine zw_iald X hB 23 (hs 23 _ rfl) ho1 d_Needs_firstUnmet_41 ?_
          refine lv_aload_n hx hb d_Needs_firstUnmet_42 rfl (lv_at hl 2 rfl) ?_
          refine zw_getR X hB fl_Needs_23 2 (hs 2 _ rfl) rfl d_Needs_firstUnmet_43 ?_
          refine lv_iload_n hx hb d_Needs_firstUnmet_46 rfl (lv_at hl 3 rfl) ?_
          refine zw_aald X hB 13 (Or.inl rfl) (hs 13 _ rfl) h1 d_Needs_firstUnmet_47 ?_
          refine lv_iload hx hb d_Needs_firstUnmet_48 (lv_at hl 1 rfl) ?_
          refine zw_iald X hB (96 + x.toNatClampNeg) (hs _ _ (shr2 hn (vlt h1))) hin d_Needs_firstUnmet_50 ?_
          refine lv_icmp_ge (tgt := 57) hx hb d_Needs_firstUnmet_51 (by decide) (fun c_51 => ?_) (fun c_51 => ?_)
          · rw [if_pos c_51]
            refine lv_iinc (v := nI (i + 1)) (lv' := [(4, .int (nI (i + 1))), (5, .int (mi (80 + x.toNatClampNeg) (nI i).toNatClampNeg)), (0, .ref (ad 2)), (1, .int x), (2, .int s0), (3, .ref (ad 23))]) hx hb d_Needs_firstUnmet_57 hl (k := 1) rfl (nI_1 i) (by decide) rfl (fun ls hl => ?_)
            refine lv_goto (tgt := 3) hx hb d_Needs_firstUnmet_60 (by decide) ?_
            rw [nI_1 i]
            exact ih (i + 1)   H locs ls (by omega) (by omega) hB (lv_sub hl [0, 2, 3, 4, 5] rfl)
          · rw [if_neg c_51]
            refine lv_iload hx hb d_Needs_firstUnmet_54 (lv_at hl 0 rfl) ?_
            exact zc_iret X hr hlocks hB (by rfl) (by rfl) (by rfl) d_Needs_firstUnmet_56
  refine lv_iconst (v := 0) hx hb d_Needs_firstUnmet_0 (by decide) ?_
  refine lv_istore (lv' := [(4, .int 0), (0, .ref (ad 2)), (1, .int x), (2, .int s0), (3, .ref (ad 23))]) hx hb d_Needs_firstUnmet_1 hl (by decide) rfl (fun ls hl => ?_)
  exact loop 7 0  _ _ ls rfl (by omega) hB (lv_sub hl [0, 1, 2, 3, 4] rfl)

set_option maxHeartbeats 4000000 in
set_option maxRecDepth 100000 in
theorem c_Needs_sumOfValues {l : Launch} {D : va_G} {cA : Nat → ClassId} {ad : Nat → Nat} {sh : zw_Sh} {n : Nat} (hn : n ≤ 16) (hs : ∀ (k : Nat) (q : zw_Sp), shX n k = some q → sh k = some q) (z : Nat) (mi : zw_I) (ml : zw_L) (x : Int32) (s0 : Int32) (h1 : vp_in x n) (w : Nat) (hw : w ≤ 6) (ew : mi 10 x.toNatClampNeg = nI w) (ho : ∀ k : Nat, k < 6 → vp_in (mi (80 + x.toNatClampNeg) k) n) (hm : ∀ k : Nat, k < 6 → vp_in (mi (96 + x.toNatClampNeg) k) 21) :
    zc_M l D cA Y_Needs_sumOfValues 0 0 0 ad sh sh z [.ref (ad 2), .int x, .int s0, .ref (ad 24)] mi ml (some (.long (p_sum mi ml x s0 7 0 0))) mi ml z := by
  refine zc_enter (own := R_Needs) (by decide) rfl (Nat.le_of_ble_eq_true rfl) ?_
  intro p e s m below meth c X hr hlocks hnm hB ls hl
  have X : zw_C D cA R_Needs prog_6_method_4_code 7 p m c s := X
  have hr : meth.sig.returnType = (some FieldType.long) := hr
  have hx := X.1
  have hb := X.2.1
  have hl : lv_has ls 7 [(0, .ref (ad 2)), (1, .int x), (2, .int s0), (3, .ref (ad 24))] := hl
  have loop : ∀ (f i : Nat) (a : Int64)  (H : Heap) (locs : List Loc) (ls : Array Slot), i + f = 7 → i ≤ w → zw_B D cA ad sh (zw_A ad sh z) s.heap mi ml z H locs → lv_has ls 7 [(6, .int (nI i)), (4, .long a), (0, .ref (ad 2)), (1, .int x), (2, .int s0), (3, .ref (ad 24))] →
      zc_W l D cA ad sh sh z [.ref (ad 2), .int x, .int s0, .ref (ad 24)] 0 0 0 (some (.long (p_sum mi ml x s0 f (nI i) a))) mi ml z p e s m below meth c H locs 0 0 (F0 m 6 ls []) := by
    intro f
    induction f with
    | zero =>
      intro i a  H locs ls hi h2 hB hl
      omega
    | succ f ih =>
      intro i a  H locs ls hi h2 hB hl
      rw [p_sum]
      refine lv_iload hx hb d_Needs_sumOfValues_6 (lv_at hl 0 rfl) ?_
      refine lv_aload_n hx hb d_Needs_sumOfValues_8 rfl (lv_at hl 2 rfl) ?_
      refine zw_getR X hB fl_Needs_9 2 (hs 2 _ rfl) rfl d_Needs_sumOfValues_9 ?_
      refine lv_iload_n hx hb d_Needs_sumOfValues_12 rfl (lv_at hl 3 rfl) ?_
      refine zw_iald X hB 10 (hs 10 _ rfl) h1 d_Needs_sumOfValues_13 ?_
      refine lv_icmp_ge (tgt := 62) hx hb d_Needs_sumOfValues_14 (by decide) (fun c_14 => ?_) (fun c_14 => ?_)
      · rw [if_pos c_14]
        refine lv_lload hx hb d_Needs_sumOfValues_62 (lv_at hl 1 rfl) ?_
        exact zc_lret X hr hlocks hB (by rfl) (by rfl) (by rfl) d_Needs_sumOfValues_64
      · rw [if_neg c_14]
        have hlt : i < w := zn_lt (by omega) (by rw [← ew]; exact c_14)
        have hin : vp_in (nI i) 6 := vp_in_nI (by omega) (by decide)
        have ho1 := ho (nI i).toNatClampNeg (vlt hin)
        have hm1 := hm (nI i).toNatClampNeg (vlt hin)
        refine lv_aload_n hx hb d_Needs_sumOfValues_17 rfl (lv_at hl 2 rfl) ?_
        refine zw_getR X hB fl_Needs_17 2 (hs 2 _ rfl) rfl d_Needs_sumOfValues_18 ?_
        refine lv_iload_n hx hb d_Needs_sumOfValues_21 rfl (lv_at hl 3 rfl) ?_
        refine zw_aald X hB 11 (Or.inl rfl) (hs 11 _ rfl) h1 d_Needs_sumOfValues_22 ?_
        refine lv_iload hx hb d_Needs_sumOfValues_23 (lv_at hl 0 rfl) ?_
        refine zw_iald X hB (64 + x.toNatClampNeg) (hs _ _ (shr0 hn (vlt h1))) hin d_Needs_sumOfValues_25 ?_
        refine lv_iload_n hx hb d_Needs_sumOfValues_26 rfl (lv_at hl 4 rfl) ?_
        refine lv_icmp_ne (tgt := 56) hx hb d_Needs_sumOfValues_27 (by decide) (fun c_27 => ?_) (fun c_27 => ?_)
        · rw [if_neg c_27]
          refine lv_iinc (v := nI (i + 1)) (lv' := [(6, .int (nI (i + 1))), (4, .long a), (0, .ref (ad 2)), (1, .int x), (2, .int s0), (3, .ref (ad 24))]) hx hb d_Needs_sumOfValues_56 hl (k := 0) rfl (nI_1 i) (by decide) rfl (fun ls hl => ?_)
          refine lv_goto (tgt := 6) hx hb d_Needs_sumOfValues_59 (by decide) ?_
          rw [nI_1 i]
          exact ih (i + 1) _  H locs ls (by omega) (by omega) hB (lv_sub hl [0, 1, 2, 3, 4, 5] rfl)
        · rw [if_pos c_27]
          refine lv_lload hx hb d_Needs_sumOfValues_30 (lv_at hl 1 rfl) ?_
          refine lv_aload_n hx hb d_Needs_sumOfValues_32 rfl (lv_at hl 5 rfl) ?_
          refine lv_aload_n hx hb d_Needs_sumOfValues_33 rfl (lv_at hl 2 rfl) ?_
          refine zw_getR X hB fl_Needs_20 2 (hs 2 _ rfl) rfl d_Needs_sumOfValues_34 ?_
          refine lv_iload_n hx hb d_Needs_sumOfValues_37 rfl (lv_at hl 3 rfl) ?_
          refine zw_aald X hB 12 (Or.inl rfl) (hs 12 _ rfl) h1 d_Needs_sumOfValues_38 ?_
          refine lv_iload hx hb d_Needs_sumOfValues_39 (lv_at hl 0 rfl) ?_
          refine zw_iald X hB (80 + x.toNatClampNeg) (hs _ _ (shr1 hn (vlt h1))) hin d_Needs_sumOfValues_41 ?_
          refine zw_aald X hB 24 (Or.inr rfl) (hs 24 _ rfl) ho1 d_Needs_sumOfValues_42 ?_
          refine lv_aload_n hx hb d_Needs_sumOfValues_43 rfl (lv_at hl 2 rfl) ?_
          refine zw_getR X hB fl_Needs_23 2 (hs 2 _ rfl) rfl d_Needs_sumOfValues_44 ?_
          refine lv_iload_n hx hb d_Needs_sumOfValues_47 rfl (lv_at hl 3 rfl) ?_
          refine zw_aald X hB 13 (Or.inl rfl) (hs 13 _ rfl) h1 d_Needs_sumOfValues_48 ?_
          refine lv_iload hx hb d_Needs_sumOfValues_49 (lv_at hl 0 rfl) ?_
          refine zw_iald X hB (96 + x.toNatClampNeg) (hs _ _ (shr2 hn (vlt h1))) hin d_Needs_sumOfValues_51 ?_
          refine zw_lald X hB (112 + (mi (80 + x.toNatClampNeg) (nI i).toNatClampNeg).toNatClampNeg) (hs _ _ (shr3 hn (vlt ho1))) hm1 d_Needs_sumOfValues_52 ?_
          refine lv_ladd hx hb d_Needs_sumOfValues_53 ?_
          refine lv_lstore (lv' := [(4, .long (a + (ml (112 + (mi (80 + x.toNatClampNeg) (nI i).toNatClampNeg).toNatClampNeg) (mi (96 + x.toNatClampNeg) (nI i).toNatClampNeg).toNatClampNeg))), (6, .int (nI i)), (0, .ref (ad 2)), (1, .int x), (2, .int s0), (3, .ref (ad 24))]) hx hb d_Needs_sumOfValues_54 hl (by decide) rfl (fun ls hl => ?_)
          refine lv_iinc (v := nI (i + 1)) (lv' := [(6, .int (nI (i + 1))), (4, .long (a + (ml (112 + (mi (80 + x.toNatClampNeg) (nI i).toNatClampNeg).toNatClampNeg) (mi (96 + x.toNatClampNeg) (nI i).toNatClampNeg).toNatClampNeg))), (0, .ref (ad 2)), (1, .int x), (2, .int s0), (3, .ref (ad 24))]) hx hb d_Needs_sumOfValues_56 hl (k := 1) rfl (nI_1 i) (by decide) rfl (fun ls hl => ?_)
          refine lv_goto (tgt := 6) hx hb d_Needs_sumOfValues_59 (by decide) ?_
          rw [nI_1 i]
          exact ih (i + 1) _  H locs ls (by omega) (by omega) hB (lv_sub hl [0, 1, 2, 3, 4, 5] rfl)
  refine lv_lconst (v := 0) hx hb d_Needs_sumOfValues_0 (by decide) ?_
  refine lv_lstore (lv' := [(4, .long 0), (0, .ref (ad 2)), (1, .int x), (2, .int s0), (3, .ref (ad 24))]) hx hb d_Needs_sumOfValues_1 hl (by decide) rfl (fun ls hl => ?_)
  refine lv_iconst (v := 0) hx hb d_Needs_sumOfValues_3 (by decide) ?_
  refine lv_istore (lv' := [(6, .int 0), (4, .long 0), (0, .ref (ad 2)), (1, .int x), (2, .int s0), (3, .ref (ad 24))]) hx hb d_Needs_sumOfValues_4 hl (by decide) rfl (fun ls hl => ?_)
  exact loop 7 0 0  _ _ ls rfl (by omega) hB (lv_sub hl [0, 1, 2, 3, 4, 5] rfl)
end
section
abbrev Y_Plan_reset : zc_Y := (⟨R_Plan, "reset", "()V"⟩, prog_7_method_2_code, 2, none)
abbrev Y_Course_isFinished : zc_Y := (⟨R_Course, "isFinished", "(I)Z"⟩, prog_2_method_4_code, 2, (some FieldType.boolean))
abbrev Y_Course_canTake : zc_Y := (⟨R_Course, "canTake", "()Z"⟩, prog_2_method_7_code, 2, (some FieldType.boolean))
abbrev Y_Course_shareToWaitFor : zc_Y := (⟨R_Course, "shareToWaitFor", "(I)I"⟩, prog_2_method_8_code, 2, (some FieldType.int))
abbrev Y_Course_isStuck : zc_Y := (⟨R_Course, "isStuck", "()Z"⟩, prog_2_method_6_code, 3, (some FieldType.boolean))
abbrev Y_Course_endByState : zc_Y := (⟨R_Course, "endByState", "()I"⟩, prog_2_method_5_code, 1, (some FieldType.int))
abbrev Y_Course_take : zc_Y := (⟨R_Course, "take", "(I)Z"⟩, prog_2_method_10_code, 3, (some FieldType.boolean))
abbrev Y_Course_fail : zc_Y := (⟨R_Course, "fail", "(II)V"⟩, prog_2_method_11_code, 3, none)
abbrev Y_Course_doStep : zc_Y := (⟨R_Course, "doStep", "(II)V"⟩, prog_2_method_12_code, 6, none)
theorem d_Plan_reset_0 : decode prog_7_method_2_code 0 = .ok (.iconst 0, 1) := by decide +kernel
theorem d_Plan_reset_1 : decode prog_7_method_2_code 1 = .ok (.istore_n 1, 1) := by decide +kernel
theorem d_Plan_reset_2 : decode prog_7_method_2_code 2 = .ok (.iload_n 1, 1) := by decide +kernel
theorem d_Plan_reset_3 : decode prog_7_method_2_code 3 = .ok (.aload_n 0, 1) := by decide +kernel
theorem d_Plan_reset_4 : decode prog_7_method_2_code 4 = .ok (.getfield 9, 3) := by decide +kernel
theorem d_Plan_reset_7 : decode prog_7_method_2_code 7 = .ok (.if_icmp .ge 41, 3) := by decide +kernel
theorem d_Plan_reset_10 : decode prog_7_method_2_code 10 = .ok (.aload_n 0, 1) := by decide +kernel
theorem d_Plan_reset_11 : decode prog_7_method_2_code 11 = .ok (.getfield 18, 3) := by decide +kernel
theorem d_Plan_reset_14 : decode prog_7_method_2_code 14 = .ok (.iload_n 1, 1) := by decide +kernel
theorem d_Plan_reset_15 : decode prog_7_method_2_code 15 = .ok (.iconst 1, 1) := by decide +kernel
theorem d_Plan_reset_16 : decode prog_7_method_2_code 16 = .ok (.iastore, 1) := by decide +kernel
theorem d_Plan_reset_17 : decode prog_7_method_2_code 17 = .ok (.aload_n 0, 1) := by decide +kernel
theorem d_Plan_reset_18 : decode prog_7_method_2_code 18 = .ok (.getfield 22, 3) := by decide +kernel
theorem d_Plan_reset_21 : decode prog_7_method_2_code 21 = .ok (.iload_n 1, 1) := by decide +kernel
theorem d_Plan_reset_22 : decode prog_7_method_2_code 22 = .ok (.iconst 1, 1) := by decide +kernel
theorem d_Plan_reset_23 : decode prog_7_method_2_code 23 = .ok (.iastore, 1) := by decide +kernel
theorem d_Plan_reset_24 : decode prog_7_method_2_code 24 = .ok (.aload_n 0, 1) := by decide +kernel
theorem d_Plan_reset_25 : decode prog_7_method_2_code 25 = .ok (.getfield 25, 3) := by decide +kernel
theorem d_Plan_reset_28 : decode prog_7_method_2_code 28 = .ok (.iload_n 1, 1) := by decide +kernel
theorem d_Plan_reset_29 : decode prog_7_method_2_code 29 = .ok (.iload_n 1, 1) := by decide +kernel
theorem d_Plan_reset_30 : decode prog_7_method_2_code 30 = .ok (.i2l, 1) := by decide +kernel
theorem d_Plan_reset_31 : decode prog_7_method_2_code 31 = .ok (.lastore, 1) := by decide +kernel
theorem d_Plan_reset_32 : decode prog_7_method_2_code 32 = .ok (.aload_n 0, 1) := by decide +kernel
theorem d_Plan_reset_33 : decode prog_7_method_2_code 33 = .ok (.getfield 34, 3) := by decide +kernel
theorem d_Plan_reset_36 : decode prog_7_method_2_code 36 = .ok (.getfield 48, 3) := by decide +kernel
theorem d_Plan_reset_39 : decode prog_7_method_2_code 39 = .ok (.iload_n 1, 1) := by decide +kernel
theorem d_Plan_reset_40 : decode prog_7_method_2_code 40 = .ok (.iconst 0, 1) := by decide +kernel
theorem d_Plan_reset_41 : decode prog_7_method_2_code 41 = .ok (.iastore, 1) := by decide +kernel
theorem d_Plan_reset_42 : decode prog_7_method_2_code 42 = .ok (.iinc 1 1, 3) := by decide +kernel
theorem d_Plan_reset_45 : decode prog_7_method_2_code 45 = .ok (.goto (-43), 3) := by decide +kernel
theorem d_Plan_reset_48 : decode prog_7_method_2_code 48 = .ok (.aload_n 0, 1) := by decide +kernel
theorem d_Plan_reset_49 : decode prog_7_method_2_code 49 = .ok (.getfield 41, 3) := by decide +kernel
theorem d_Plan_reset_52 : decode prog_7_method_2_code 52 = .ok (.iconst 0, 1) := by decide +kernel
theorem d_Plan_reset_53 : decode prog_7_method_2_code 53 = .ok (.putfield 51, 3) := by decide +kernel
theorem d_Plan_reset_56 : decode prog_7_method_2_code 56 = .ok (.aload_n 0, 1) := by decide +kernel
theorem d_Plan_reset_57 : decode prog_7_method_2_code 57 = .ok (.iconst (-1), 1) := by decide +kernel
theorem d_Plan_reset_58 : decode prog_7_method_2_code 58 = .ok (.putfield 53, 3) := by decide +kernel
theorem d_Plan_reset_61 : decode prog_7_method_2_code 61 = .ok (.return_, 1) := by decide +kernel
theorem d_Course_isFinished_0 : decode prog_2_method_4_code 0 = .ok (.aload_n 0, 1) := by decide +kernel
theorem d_Course_isFinished_1 : decode prog_2_method_4_code 1 = .ok (.getfield 37, 3) := by decide +kernel
theorem d_Course_isFinished_4 : decode prog_2_method_4_code 4 = .ok (.iload_n 1, 1) := by decide +kernel
theorem d_Course_isFinished_5 : decode prog_2_method_4_code 5 = .ok (.iaload, 1) := by decide +kernel
theorem d_Course_isFinished_6 : decode prog_2_method_4_code 6 = .ok (.aload_n 0, 1) := by decide +kernel
theorem d_Course_isFinished_7 : decode prog_2_method_4_code 7 = .ok (.getfield 9, 3) := by decide +kernel
theorem d_Course_isFinished_10 : decode prog_2_method_4_code 10 = .ok (.getfield 116, 3) := by decide +kernel
theorem d_Course_isFinished_13 : decode prog_2_method_4_code 13 = .ok (.iload_n 1, 1) := by decide +kernel
theorem d_Course_isFinished_14 : decode prog_2_method_4_code 14 = .ok (.iaload, 1) := by decide +kernel
theorem d_Course_isFinished_15 : decode prog_2_method_4_code 15 = .ok (.if_icmp .lt 7, 3) := by decide +kernel
theorem d_Course_isFinished_18 : decode prog_2_method_4_code 18 = .ok (.iconst 1, 1) := by decide +kernel
theorem d_Course_isFinished_19 : decode prog_2_method_4_code 19 = .ok (.goto 4, 3) := by decide +kernel
theorem d_Course_isFinished_22 : decode prog_2_method_4_code 22 = .ok (.iconst 0, 1) := by decide +kernel
theorem d_Course_isFinished_23 : decode prog_2_method_4_code 23 = .ok (.ireturn, 1) := by decide +kernel
theorem d_Course_canTake_0 : decode prog_2_method_7_code 0 = .ok (.aload_n 0, 1) := by decide +kernel
theorem d_Course_canTake_1 : decode prog_2_method_7_code 1 = .ok (.getfield 26, 3) := by decide +kernel
theorem d_Course_canTake_4 : decode prog_2_method_7_code 4 = .ok (.invokevirtual 145, 3) := by decide +kernel
theorem d_Course_canTake_7 : decode prog_2_method_7_code 7 = .ok (.istore_n 1, 1) := by decide +kernel
theorem d_Course_canTake_8 : decode prog_2_method_7_code 8 = .ok (.iload_n 1, 1) := by decide +kernel
theorem d_Course_canTake_9 : decode prog_2_method_7_code 9 = .ok (.iconst (-1), 1) := by decide +kernel
theorem d_Course_canTake_10 : decode prog_2_method_7_code 10 = .ok (.if_icmp .eq 31, 3) := by decide +kernel
theorem d_Course_canTake_13 : decode prog_2_method_7_code 13 = .ok (.aload_n 0, 1) := by decide +kernel
theorem d_Course_canTake_14 : decode prog_2_method_7_code 14 = .ok (.getfield 79, 3) := by decide +kernel
theorem d_Course_canTake_17 : decode prog_2_method_7_code 17 = .ok (.aload_n 0, 1) := by decide +kernel
theorem d_Course_canTake_18 : decode prog_2_method_7_code 18 = .ok (.getfield 9, 3) := by decide +kernel
theorem d_Course_canTake_21 : decode prog_2_method_7_code 21 = .ok (.getfield 148, 3) := by decide +kernel
theorem d_Course_canTake_24 : decode prog_2_method_7_code 24 = .ok (.iload_n 1, 1) := by decide +kernel
theorem d_Course_canTake_25 : decode prog_2_method_7_code 25 = .ok (.iaload, 1) := by decide +kernel
theorem d_Course_canTake_26 : decode prog_2_method_7_code 26 = .ok (.iadd, 1) := by decide +kernel
theorem d_Course_canTake_27 : decode prog_2_method_7_code 27 = .ok (.aload_n 0, 1) := by decide +kernel
theorem d_Course_canTake_28 : decode prog_2_method_7_code 28 = .ok (.getfield 9, 3) := by decide +kernel
theorem d_Course_canTake_31 : decode prog_2_method_7_code 31 = .ok (.getfield 151, 3) := by decide +kernel
theorem d_Course_canTake_34 : decode prog_2_method_7_code 34 = .ok (.if_icmp .gt 7, 3) := by decide +kernel
theorem d_Course_canTake_37 : decode prog_2_method_7_code 37 = .ok (.iconst 1, 1) := by decide +kernel
theorem d_Course_canTake_38 : decode prog_2_method_7_code 38 = .ok (.goto 4, 3) := by decide +kernel
theorem d_Course_canTake_41 : decode prog_2_method_7_code 41 = .ok (.iconst 0, 1) := by decide +kernel
theorem d_Course_canTake_42 : decode prog_2_method_7_code 42 = .ok (.ireturn, 1) := by decide +kernel
theorem d_Course_shareToWaitFor_0 : decode prog_2_method_8_code 0 = .ok (.aload_n 0, 1) := by decide +kernel
theorem d_Course_shareToWaitFor_1 : decode prog_2_method_8_code 1 = .ok (.getfield 9, 3) := by decide +kernel
theorem d_Course_shareToWaitFor_4 : decode prog_2_method_8_code 4 = .ok (.getfield 154, 3) := by decide +kernel
theorem d_Course_shareToWaitFor_7 : decode prog_2_method_8_code 7 = .ok (.iload_n 1, 1) := by decide +kernel
theorem d_Course_shareToWaitFor_8 : decode prog_2_method_8_code 8 = .ok (.aload_n 0, 1) := by decide +kernel
theorem d_Course_shareToWaitFor_9 : decode prog_2_method_8_code 9 = .ok (.getfield 37, 3) := by decide +kernel
theorem d_Course_shareToWaitFor_12 : decode prog_2_method_8_code 12 = .ok (.iload_n 1, 1) := by decide +kernel
theorem d_Course_shareToWaitFor_13 : decode prog_2_method_8_code 13 = .ok (.iaload, 1) := by decide +kernel
theorem d_Course_shareToWaitFor_14 : decode prog_2_method_8_code 14 = .ok (.aload_n 0, 1) := by decide +kernel
theorem d_Course_shareToWaitFor_15 : decode prog_2_method_8_code 15 = .ok (.getfield 37, 3) := by decide +kernel
theorem d_Course_shareToWaitFor_18 : decode prog_2_method_8_code 18 = .ok (.invokevirtual 158, 3) := by decide +kernel
theorem d_Course_shareToWaitFor_21 : decode prog_2_method_8_code 21 = .ok (.ireturn, 1) := by decide +kernel
theorem d_Course_isStuck_0 : decode prog_2_method_6_code 0 = .ok (.iconst 0, 1) := by decide +kernel
theorem d_Course_isStuck_1 : decode prog_2_method_6_code 1 = .ok (.istore_n 1, 1) := by decide +kernel
theorem d_Course_isStuck_2 : decode prog_2_method_6_code 2 = .ok (.iload_n 1, 1) := by decide +kernel
theorem d_Course_isStuck_3 : decode prog_2_method_6_code 3 = .ok (.aload_n 0, 1) := by decide +kernel
theorem d_Course_isStuck_4 : decode prog_2_method_6_code 4 = .ok (.getfield 33, 3) := by decide +kernel
theorem d_Course_isStuck_7 : decode prog_2_method_6_code 7 = .ok (.getfield 125, 3) := by decide +kernel
theorem d_Course_isStuck_10 : decode prog_2_method_6_code 10 = .ok (.if_icmp .ge 53, 3) := by decide +kernel
theorem d_Course_isStuck_13 : decode prog_2_method_6_code 13 = .ok (.aload_n 0, 1) := by decide +kernel
theorem d_Course_isStuck_14 : decode prog_2_method_6_code 14 = .ok (.getfield 33, 3) := by decide +kernel
theorem d_Course_isStuck_17 : decode prog_2_method_6_code 17 = .ok (.getfield 132, 3) := by decide +kernel
theorem d_Course_isStuck_20 : decode prog_2_method_6_code 20 = .ok (.aload_n 0, 1) := by decide +kernel
theorem d_Course_isStuck_21 : decode prog_2_method_6_code 21 = .ok (.getfield 33, 3) := by decide +kernel
theorem d_Course_isStuck_24 : decode prog_2_method_6_code 24 = .ok (.getfield 135, 3) := by decide +kernel
theorem d_Course_isStuck_27 : decode prog_2_method_6_code 27 = .ok (.iload_n 1, 1) := by decide +kernel
theorem d_Course_isStuck_28 : decode prog_2_method_6_code 28 = .ok (.iaload, 1) := by decide +kernel
theorem d_Course_isStuck_29 : decode prog_2_method_6_code 29 = .ok (.iaload, 1) := by decide +kernel
theorem d_Course_isStuck_30 : decode prog_2_method_6_code 30 = .ok (.istore_n 2, 1) := by decide +kernel
theorem d_Course_isStuck_31 : decode prog_2_method_6_code 31 = .ok (.iload_n 2, 1) := by decide +kernel
theorem d_Course_isStuck_32 : decode prog_2_method_6_code 32 = .ok (.iconst (-1), 1) := by decide +kernel
theorem d_Course_isStuck_33 : decode prog_2_method_6_code 33 = .ok (.if_icmp .ne 13, 3) := by decide +kernel
theorem d_Course_isStuck_36 : decode prog_2_method_6_code 36 = .ok (.aload_n 0, 1) := by decide +kernel
theorem d_Course_isStuck_37 : decode prog_2_method_6_code 37 = .ok (.invokevirtual 138, 3) := by decide +kernel
theorem d_Course_isStuck_40 : decode prog_2_method_6_code 40 = .ok (.ifCond .eq 17, 3) := by decide +kernel
theorem d_Course_isStuck_43 : decode prog_2_method_6_code 43 = .ok (.goto 12, 3) := by decide +kernel
theorem d_Course_isStuck_46 : decode prog_2_method_6_code 46 = .ok (.aload_n 0, 1) := by decide +kernel
theorem d_Course_isStuck_47 : decode prog_2_method_6_code 47 = .ok (.iload_n 2, 1) := by decide +kernel
theorem d_Course_isStuck_48 : decode prog_2_method_6_code 48 = .ok (.invokevirtual 141, 3) := by decide +kernel
theorem d_Course_isStuck_51 : decode prog_2_method_6_code 51 = .ok (.iconst (-1), 1) := by decide +kernel
theorem d_Course_isStuck_52 : decode prog_2_method_6_code 52 = .ok (.if_icmp .ne 5, 3) := by decide +kernel
theorem d_Course_isStuck_55 : decode prog_2_method_6_code 55 = .ok (.iconst 0, 1) := by decide +kernel
theorem d_Course_isStuck_56 : decode prog_2_method_6_code 56 = .ok (.ireturn, 1) := by decide +kernel
theorem d_Course_isStuck_57 : decode prog_2_method_6_code 57 = .ok (.iinc 1 1, 3) := by decide +kernel
theorem d_Course_isStuck_60 : decode prog_2_method_6_code 60 = .ok (.goto (-58), 3) := by decide +kernel
theorem d_Course_isStuck_63 : decode prog_2_method_6_code 63 = .ok (.iconst 1, 1) := by decide +kernel
theorem d_Course_isStuck_64 : decode prog_2_method_6_code 64 = .ok (.ireturn, 1) := by decide +kernel
theorem d_Course_endByState_0 : decode prog_2_method_5_code 0 = .ok (.aload_n 0, 1) := by decide +kernel
theorem d_Course_endByState_1 : decode prog_2_method_5_code 1 = .ok (.getfield 76, 3) := by decide +kernel
theorem d_Course_endByState_4 : decode prog_2_method_5_code 4 = .ok (.aload_n 0, 1) := by decide +kernel
theorem d_Course_endByState_5 : decode prog_2_method_5_code 5 = .ok (.getfield 9, 3) := by decide +kernel
theorem d_Course_endByState_8 : decode prog_2_method_5_code 8 = .ok (.getfield 17, 3) := by decide +kernel
theorem d_Course_endByState_11 : decode prog_2_method_5_code 11 = .ok (.if_icmp .lt 5, 3) := by decide +kernel
theorem d_Course_endByState_14 : decode prog_2_method_5_code 14 = .ok (.iconst 0, 1) := by decide +kernel
theorem d_Course_endByState_15 : decode prog_2_method_5_code 15 = .ok (.ireturn, 1) := by decide +kernel
theorem d_Course_endByState_16 : decode prog_2_method_5_code 16 = .ok (.aload_n 0, 1) := by decide +kernel
theorem d_Course_endByState_17 : decode prog_2_method_5_code 17 = .ok (.getfield 9, 3) := by decide +kernel
theorem d_Course_endByState_20 : decode prog_2_method_5_code 20 = .ok (.getfield 119, 3) := by decide +kernel
theorem d_Course_endByState_23 : decode prog_2_method_5_code 23 = .ok (.iconst (-1), 1) := by decide +kernel
theorem d_Course_endByState_24 : decode prog_2_method_5_code 24 = .ok (.if_icmp .eq 19, 3) := by decide +kernel
theorem d_Course_endByState_27 : decode prog_2_method_5_code 27 = .ok (.aload_n 0, 1) := by decide +kernel
theorem d_Course_endByState_28 : decode prog_2_method_5_code 28 = .ok (.aload_n 0, 1) := by decide +kernel
theorem d_Course_endByState_29 : decode prog_2_method_5_code 29 = .ok (.getfield 9, 3) := by decide +kernel
theorem d_Course_endByState_32 : decode prog_2_method_5_code 32 = .ok (.getfield 119, 3) := by decide +kernel
theorem d_Course_endByState_35 : decode prog_2_method_5_code 35 = .ok (.invokevirtual 122, 3) := by decide +kernel
theorem d_Course_endByState_38 : decode prog_2_method_5_code 38 = .ok (.ifCond .eq 5, 3) := by decide +kernel
theorem d_Course_endByState_41 : decode prog_2_method_5_code 41 = .ok (.iconst 1, 1) := by decide +kernel
theorem d_Course_endByState_42 : decode prog_2_method_5_code 42 = .ok (.ireturn, 1) := by decide +kernel
theorem d_Course_endByState_43 : decode prog_2_method_5_code 43 = .ok (.aload_n 0, 1) := by decide +kernel
theorem d_Course_endByState_44 : decode prog_2_method_5_code 44 = .ok (.getfield 33, 3) := by decide +kernel
theorem d_Course_endByState_47 : decode prog_2_method_5_code 47 = .ok (.getfield 125, 3) := by decide +kernel
theorem d_Course_endByState_50 : decode prog_2_method_5_code 50 = .ok (.ifCond .ne 5, 3) := by decide +kernel
theorem d_Course_endByState_53 : decode prog_2_method_5_code 53 = .ok (.iconst (-1), 1) := by decide +kernel
theorem d_Course_endByState_54 : decode prog_2_method_5_code 54 = .ok (.ireturn, 1) := by decide +kernel
theorem d_Course_endByState_55 : decode prog_2_method_5_code 55 = .ok (.aload_n 0, 1) := by decide +kernel
theorem d_Course_endByState_56 : decode prog_2_method_5_code 56 = .ok (.invokevirtual 128, 3) := by decide +kernel
theorem d_Course_endByState_59 : decode prog_2_method_5_code 59 = .ok (.ifCond .eq 8, 3) := by decide +kernel
theorem d_Course_endByState_62 : decode prog_2_method_5_code 62 = .ok (.bipush (-2), 2) := by decide +kernel
theorem d_Course_endByState_64 : decode prog_2_method_5_code 64 = .ok (.goto 4, 3) := by decide +kernel
theorem d_Course_endByState_67 : decode prog_2_method_5_code 67 = .ok (.iconst 2, 1) := by decide +kernel
theorem d_Course_endByState_68 : decode prog_2_method_5_code 68 = .ok (.ireturn, 1) := by decide +kernel
theorem d_Course_take_0 : decode prog_2_method_10_code 0 = .ok (.aload_n 0, 1) := by decide +kernel
theorem d_Course_take_1 : decode prog_2_method_10_code 1 = .ok (.invokevirtual 138, 3) := by decide +kernel
theorem d_Course_take_4 : decode prog_2_method_10_code 4 = .ok (.ifCond .ne 15, 3) := by decide +kernel
theorem d_Course_take_7 : decode prog_2_method_10_code 7 = .ok (.aload_n 0, 1) := by decide +kernel
theorem d_Course_take_8 : decode prog_2_method_10_code 8 = .ok (.dup, 1) := by decide +kernel
theorem d_Course_take_9 : decode prog_2_method_10_code 9 = .ok (.getfield 88, 3) := by decide +kernel
theorem d_Course_take_12 : decode prog_2_method_10_code 12 = .ok (.iconst 1, 1) := by decide +kernel
theorem d_Course_take_13 : decode prog_2_method_10_code 13 = .ok (.iadd, 1) := by decide +kernel
theorem d_Course_take_14 : decode prog_2_method_10_code 14 = .ok (.putfield 88, 3) := by decide +kernel
theorem d_Course_take_17 : decode prog_2_method_10_code 17 = .ok (.iconst 0, 1) := by decide +kernel
theorem d_Course_take_18 : decode prog_2_method_10_code 18 = .ok (.ireturn, 1) := by decide +kernel
theorem d_Course_take_19 : decode prog_2_method_10_code 19 = .ok (.aload_n 0, 1) := by decide +kernel
theorem d_Course_take_20 : decode prog_2_method_10_code 20 = .ok (.getfield 26, 3) := by decide +kernel
theorem d_Course_take_23 : decode prog_2_method_10_code 23 = .ok (.invokevirtual 145, 3) := by decide +kernel
theorem d_Course_take_26 : decode prog_2_method_10_code 26 = .ok (.istore_n 2, 1) := by decide +kernel
theorem d_Course_take_27 : decode prog_2_method_10_code 27 = .ok (.aload_n 0, 1) := by decide +kernel
theorem d_Course_take_28 : decode prog_2_method_10_code 28 = .ok (.getfield 26, 3) := by decide +kernel
theorem d_Course_take_31 : decode prog_2_method_10_code 31 = .ok (.invokevirtual 178, 3) := by decide +kernel
theorem d_Course_take_34 : decode prog_2_method_10_code 34 = .ok (.aload_n 0, 1) := by decide +kernel
theorem d_Course_take_35 : decode prog_2_method_10_code 35 = .ok (.getfield 33, 3) := by decide +kernel
theorem d_Course_take_38 : decode prog_2_method_10_code 38 = .ok (.getfield 132, 3) := by decide +kernel
theorem d_Course_take_41 : decode prog_2_method_10_code 41 = .ok (.iload_n 1, 1) := by decide +kernel
theorem d_Course_take_42 : decode prog_2_method_10_code 42 = .ok (.iload_n 2, 1) := by decide +kernel
theorem d_Course_take_43 : decode prog_2_method_10_code 43 = .ok (.iastore, 1) := by decide +kernel
theorem d_Course_take_44 : decode prog_2_method_10_code 44 = .ok (.aload_n 0, 1) := by decide +kernel
theorem d_Course_take_45 : decode prog_2_method_10_code 45 = .ok (.getfield 46, 3) := by decide +kernel
theorem d_Course_take_48 : decode prog_2_method_10_code 48 = .ok (.iload_n 2, 1) := by decide +kernel
theorem d_Course_take_49 : decode prog_2_method_10_code 49 = .ok (.dup2, 1) := by decide +kernel
theorem d_Course_take_50 : decode prog_2_method_10_code 50 = .ok (.iaload, 1) := by decide +kernel
theorem d_Course_take_51 : decode prog_2_method_10_code 51 = .ok (.iconst 1, 1) := by decide +kernel
theorem d_Course_take_52 : decode prog_2_method_10_code 52 = .ok (.iadd, 1) := by decide +kernel
theorem d_Course_take_53 : decode prog_2_method_10_code 53 = .ok (.iastore, 1) := by decide +kernel
theorem d_Course_take_54 : decode prog_2_method_10_code 54 = .ok (.aload_n 0, 1) := by decide +kernel
theorem d_Course_take_55 : decode prog_2_method_10_code 55 = .ok (.dup, 1) := by decide +kernel
theorem d_Course_take_56 : decode prog_2_method_10_code 56 = .ok (.getfield 79, 3) := by decide +kernel
theorem d_Course_take_59 : decode prog_2_method_10_code 59 = .ok (.aload_n 0, 1) := by decide +kernel
theorem d_Course_take_60 : decode prog_2_method_10_code 60 = .ok (.getfield 9, 3) := by decide +kernel
theorem d_Course_take_63 : decode prog_2_method_10_code 63 = .ok (.getfield 148, 3) := by decide +kernel
theorem d_Course_take_66 : decode prog_2_method_10_code 66 = .ok (.iload_n 2, 1) := by decide +kernel
theorem d_Course_take_67 : decode prog_2_method_10_code 67 = .ok (.iaload, 1) := by decide +kernel
theorem d_Course_take_68 : decode prog_2_method_10_code 68 = .ok (.iadd, 1) := by decide +kernel
theorem d_Course_take_69 : decode prog_2_method_10_code 69 = .ok (.putfield 79, 3) := by decide +kernel
theorem d_Course_take_72 : decode prog_2_method_10_code 72 = .ok (.aload_n 0, 1) := by decide +kernel
theorem d_Course_take_73 : decode prog_2_method_10_code 73 = .ok (.aload_n 0, 1) := by decide +kernel
theorem d_Course_take_74 : decode prog_2_method_10_code 74 = .ok (.getfield 82, 3) := by decide +kernel
theorem d_Course_take_77 : decode prog_2_method_10_code 77 = .ok (.aload_n 0, 1) := by decide +kernel
theorem d_Course_take_78 : decode prog_2_method_10_code 78 = .ok (.getfield 79, 3) := by decide +kernel
theorem d_Course_take_81 : decode prog_2_method_10_code 81 = .ok (.invokestatic 181, 3) := by decide +kernel
theorem d_Course_take_84 : decode prog_2_method_10_code 84 = .ok (.putfield 82, 3) := by decide +kernel
theorem d_Course_take_87 : decode prog_2_method_10_code 87 = .ok (.iconst 1, 1) := by decide +kernel
theorem d_Course_take_88 : decode prog_2_method_10_code 88 = .ok (.ireturn, 1) := by decide +kernel
theorem d_Course_fail_0 : decode prog_2_method_11_code 0 = .ok (.aload_n 0, 1) := by decide +kernel
theorem d_Course_fail_1 : decode prog_2_method_11_code 1 = .ok (.getfield 33, 3) := by decide +kernel
theorem d_Course_fail_4 : decode prog_2_method_11_code 4 = .ok (.iload_n 1, 1) := by decide +kernel
theorem d_Course_fail_5 : decode prog_2_method_11_code 5 = .ok (.invokevirtual 187, 3) := by decide +kernel
theorem d_Course_fail_8 : decode prog_2_method_11_code 8 = .ok (.aload_n 0, 1) := by decide +kernel
theorem d_Course_fail_9 : decode prog_2_method_11_code 9 = .ok (.getfield 37, 3) := by decide +kernel
theorem d_Course_fail_12 : decode prog_2_method_11_code 12 = .ok (.iload_n 2, 1) := by decide +kernel
theorem d_Course_fail_13 : decode prog_2_method_11_code 13 = .ok (.iconst 0, 1) := by decide +kernel
theorem d_Course_fail_14 : decode prog_2_method_11_code 14 = .ok (.iastore, 1) := by decide +kernel
theorem d_Course_fail_15 : decode prog_2_method_11_code 15 = .ok (.aload_n 0, 1) := by decide +kernel
theorem d_Course_fail_16 : decode prog_2_method_11_code 16 = .ok (.dup, 1) := by decide +kernel
theorem d_Course_fail_17 : decode prog_2_method_11_code 17 = .ok (.getfield 79, 3) := by decide +kernel
theorem d_Course_fail_20 : decode prog_2_method_11_code 20 = .ok (.aload_n 0, 1) := by decide +kernel
theorem d_Course_fail_21 : decode prog_2_method_11_code 21 = .ok (.getfield 9, 3) := by decide +kernel
theorem d_Course_fail_24 : decode prog_2_method_11_code 24 = .ok (.getfield 148, 3) := by decide +kernel
theorem d_Course_fail_27 : decode prog_2_method_11_code 27 = .ok (.iload_n 2, 1) := by decide +kernel
theorem d_Course_fail_28 : decode prog_2_method_11_code 28 = .ok (.iaload, 1) := by decide +kernel
theorem d_Course_fail_29 : decode prog_2_method_11_code 29 = .ok (.isub, 1) := by decide +kernel
theorem d_Course_fail_30 : decode prog_2_method_11_code 30 = .ok (.putfield 79, 3) := by decide +kernel
theorem d_Course_fail_33 : decode prog_2_method_11_code 33 = .ok (.aload_n 0, 1) := by decide +kernel
theorem d_Course_fail_34 : decode prog_2_method_11_code 34 = .ok (.getfield 26, 3) := by decide +kernel
theorem d_Course_fail_37 : decode prog_2_method_11_code 37 = .ok (.iload_n 2, 1) := by decide +kernel
theorem d_Course_fail_38 : decode prog_2_method_11_code 38 = .ok (.invokevirtual 190, 3) := by decide +kernel
theorem d_Course_fail_41 : decode prog_2_method_11_code 41 = .ok (.return_, 1) := by decide +kernel
theorem d_Course_doStep_0 : decode prog_2_method_12_code 0 = .ok (.aload_n 0, 1) := by decide +kernel
theorem d_Course_doStep_1 : decode prog_2_method_12_code 1 = .ok (.getfield 37, 3) := by decide +kernel
theorem d_Course_doStep_4 : decode prog_2_method_12_code 4 = .ok (.iload_n 2, 1) := by decide +kernel
theorem d_Course_doStep_5 : decode prog_2_method_12_code 5 = .ok (.iaload, 1) := by decide +kernel
theorem d_Course_doStep_6 : decode prog_2_method_12_code 6 = .ok (.istore_n 3, 1) := by decide +kernel
theorem d_Course_doStep_7 : decode prog_2_method_12_code 7 = .ok (.aload_n 0, 1) := by decide +kernel
theorem d_Course_doStep_8 : decode prog_2_method_12_code 8 = .ok (.getfield 43, 3) := by decide +kernel
theorem d_Course_doStep_11 : decode prog_2_method_12_code 11 = .ok (.iload_n 2, 1) := by decide +kernel
theorem d_Course_doStep_12 : decode prog_2_method_12_code 12 = .ok (.aaload, 1) := by decide +kernel
theorem d_Course_doStep_13 : decode prog_2_method_12_code 13 = .ok (.iload_n 3, 1) := by decide +kernel
theorem d_Course_doStep_14 : decode prog_2_method_12_code 14 = .ok (.laload, 1) := by decide +kernel
theorem d_Course_doStep_15 : decode prog_2_method_12_code 15 = .ok (.ldc2_w 104, 3) := by decide +kernel
theorem d_Course_doStep_18 : decode prog_2_method_12_code 18 = .ok (.lmul, 1) := by decide +kernel
theorem d_Course_doStep_19 : decode prog_2_method_12_code 19 = .ok (.iload_n 3, 1) := by decide +kernel
theorem d_Course_doStep_20 : decode prog_2_method_12_code 20 = .ok (.i2l, 1) := by decide +kernel
theorem d_Course_doStep_21 : decode prog_2_method_12_code 21 = .ok (.ladd, 1) := by decide +kernel
theorem d_Course_doStep_22 : decode prog_2_method_12_code 22 = .ok (.lconst 1, 1) := by decide +kernel
theorem d_Course_doStep_23 : decode prog_2_method_12_code 23 = .ok (.ladd, 1) := by decide +kernel
theorem d_Course_doStep_24 : decode prog_2_method_12_code 24 = .ok (.aload_n 0, 1) := by decide +kernel
theorem d_Course_doStep_25 : decode prog_2_method_12_code 25 = .ok (.getfield 9, 3) := by decide +kernel
theorem d_Course_doStep_28 : decode prog_2_method_12_code 28 = .ok (.getfield 154, 3) := by decide +kernel
theorem d_Course_doStep_31 : decode prog_2_method_12_code 31 = .ok (.iload_n 2, 1) := by decide +kernel
theorem d_Course_doStep_32 : decode prog_2_method_12_code 32 = .ok (.iload_n 3, 1) := by decide +kernel
theorem d_Course_doStep_33 : decode prog_2_method_12_code 33 = .ok (.aload_n 0, 1) := by decide +kernel
theorem d_Course_doStep_34 : decode prog_2_method_12_code 34 = .ok (.getfield 43, 3) := by decide +kernel
theorem d_Course_doStep_37 : decode prog_2_method_12_code 37 = .ok (.invokevirtual 193, 3) := by decide +kernel
theorem d_Course_doStep_40 : decode prog_2_method_12_code 40 = .ok (.ladd, 1) := by decide +kernel
theorem d_Course_doStep_41 : decode prog_2_method_12_code 41 = .ok (.lstore 4, 2) := by decide +kernel
theorem d_Course_doStep_43 : decode prog_2_method_12_code 43 = .ok (.aload_n 0, 1) := by decide +kernel
theorem d_Course_doStep_44 : decode prog_2_method_12_code 44 = .ok (.getfield 43, 3) := by decide +kernel
theorem d_Course_doStep_47 : decode prog_2_method_12_code 47 = .ok (.iload_n 2, 1) := by decide +kernel
theorem d_Course_doStep_48 : decode prog_2_method_12_code 48 = .ok (.aaload, 1) := by decide +kernel
theorem d_Course_doStep_49 : decode prog_2_method_12_code 49 = .ok (.iload_n 3, 1) := by decide +kernel
theorem d_Course_doStep_50 : decode prog_2_method_12_code 50 = .ok (.iconst 1, 1) := by decide +kernel
theorem d_Course_doStep_51 : decode prog_2_method_12_code 51 = .ok (.iadd, 1) := by decide +kernel
theorem d_Course_doStep_52 : decode prog_2_method_12_code 52 = .ok (.lload 4, 2) := by decide +kernel
theorem d_Course_doStep_54 : decode prog_2_method_12_code 54 = .ok (.lload 4, 2) := by decide +kernel
theorem d_Course_doStep_56 : decode prog_2_method_12_code 56 = .ok (.bipush 29, 2) := by decide +kernel
theorem d_Course_doStep_58 : decode prog_2_method_12_code 58 = .ok (.lushr, 1) := by decide +kernel
theorem d_Course_doStep_59 : decode prog_2_method_12_code 59 = .ok (.lxor, 1) := by decide +kernel
theorem d_Course_doStep_60 : decode prog_2_method_12_code 60 = .ok (.lastore, 1) := by decide +kernel
theorem d_Course_doStep_61 : decode prog_2_method_12_code 61 = .ok (.aload_n 0, 1) := by decide +kernel
theorem d_Course_doStep_62 : decode prog_2_method_12_code 62 = .ok (.getfield 37, 3) := by decide +kernel
theorem d_Course_doStep_65 : decode prog_2_method_12_code 65 = .ok (.iload_n 2, 1) := by decide +kernel
theorem d_Course_doStep_66 : decode prog_2_method_12_code 66 = .ok (.iload_n 3, 1) := by decide +kernel
theorem d_Course_doStep_67 : decode prog_2_method_12_code 67 = .ok (.iconst 1, 1) := by decide +kernel
theorem d_Course_doStep_68 : decode prog_2_method_12_code 68 = .ok (.iadd, 1) := by decide +kernel
theorem d_Course_doStep_69 : decode prog_2_method_12_code 69 = .ok (.iastore, 1) := by decide +kernel
theorem d_Course_doStep_70 : decode prog_2_method_12_code 70 = .ok (.aload_n 0, 1) := by decide +kernel
theorem d_Course_doStep_71 : decode prog_2_method_12_code 71 = .ok (.dup, 1) := by decide +kernel
theorem d_Course_doStep_72 : decode prog_2_method_12_code 72 = .ok (.getfield 94, 3) := by decide +kernel
theorem d_Course_doStep_75 : decode prog_2_method_12_code 75 = .ok (.iconst 1, 1) := by decide +kernel
theorem d_Course_doStep_76 : decode prog_2_method_12_code 76 = .ok (.iadd, 1) := by decide +kernel
theorem d_Course_doStep_77 : decode prog_2_method_12_code 77 = .ok (.putfield 94, 3) := by decide +kernel
theorem d_Course_doStep_80 : decode prog_2_method_12_code 80 = .ok (.aload_n 0, 1) := by decide +kernel
theorem d_Course_doStep_81 : decode prog_2_method_12_code 81 = .ok (.iload_n 2, 1) := by decide +kernel
theorem d_Course_doStep_82 : decode prog_2_method_12_code 82 = .ok (.invokevirtual 122, 3) := by decide +kernel
theorem d_Course_doStep_85 : decode prog_2_method_12_code 85 = .ok (.ifCond .eq 51, 3) := by decide +kernel
theorem d_Course_doStep_88 : decode prog_2_method_12_code 88 = .ok (.aload_n 0, 1) := by decide +kernel
theorem d_Course_doStep_89 : decode prog_2_method_12_code 89 = .ok (.getfield 33, 3) := by decide +kernel
theorem d_Course_doStep_92 : decode prog_2_method_12_code 92 = .ok (.getfield 132, 3) := by decide +kernel
theorem d_Course_doStep_95 : decode prog_2_method_12_code 95 = .ok (.iload_n 1, 1) := by decide +kernel
theorem d_Course_doStep_96 : decode prog_2_method_12_code 96 = .ok (.iconst (-1), 1) := by decide +kernel
theorem d_Course_doStep_97 : decode prog_2_method_12_code 97 = .ok (.iastore, 1) := by decide +kernel
theorem d_Course_doStep_98 : decode prog_2_method_12_code 98 = .ok (.aload_n 0, 1) := by decide +kernel
theorem d_Course_doStep_99 : decode prog_2_method_12_code 99 = .ok (.dup, 1) := by decide +kernel
theorem d_Course_doStep_100 : decode prog_2_method_12_code 100 = .ok (.getfield 79, 3) := by decide +kernel
theorem d_Course_doStep_103 : decode prog_2_method_12_code 103 = .ok (.aload_n 0, 1) := by decide +kernel
theorem d_Course_doStep_104 : decode prog_2_method_12_code 104 = .ok (.getfield 9, 3) := by decide +kernel
theorem d_Course_doStep_107 : decode prog_2_method_12_code 107 = .ok (.getfield 148, 3) := by decide +kernel
theorem d_Course_doStep_110 : decode prog_2_method_12_code 110 = .ok (.iload_n 2, 1) := by decide +kernel
theorem d_Course_doStep_111 : decode prog_2_method_12_code 111 = .ok (.iaload, 1) := by decide +kernel
theorem d_Course_doStep_112 : decode prog_2_method_12_code 112 = .ok (.isub, 1) := by decide +kernel
theorem d_Course_doStep_113 : decode prog_2_method_12_code 113 = .ok (.putfield 79, 3) := by decide +kernel
theorem d_Course_doStep_116 : decode prog_2_method_12_code 116 = .ok (.aload_n 0, 1) := by decide +kernel
theorem d_Course_doStep_117 : decode prog_2_method_12_code 117 = .ok (.getfield 54, 3) := by decide +kernel
theorem d_Course_doStep_120 : decode prog_2_method_12_code 120 = .ok (.aload_n 0, 1) := by decide +kernel
theorem d_Course_doStep_121 : decode prog_2_method_12_code 121 = .ok (.getfield 76, 3) := by decide +kernel
theorem d_Course_doStep_124 : decode prog_2_method_12_code 124 = .ok (.iload_n 2, 1) := by decide +kernel
theorem d_Course_doStep_125 : decode prog_2_method_12_code 125 = .ok (.iastore, 1) := by decide +kernel
theorem d_Course_doStep_126 : decode prog_2_method_12_code 126 = .ok (.aload_n 0, 1) := by decide +kernel
theorem d_Course_doStep_127 : decode prog_2_method_12_code 127 = .ok (.dup, 1) := by decide +kernel
theorem d_Course_doStep_128 : decode prog_2_method_12_code 128 = .ok (.getfield 76, 3) := by decide +kernel
theorem d_Course_doStep_131 : decode prog_2_method_12_code 131 = .ok (.iconst 1, 1) := by decide +kernel
theorem d_Course_doStep_132 : decode prog_2_method_12_code 132 = .ok (.iadd, 1) := by decide +kernel
theorem d_Course_doStep_133 : decode prog_2_method_12_code 133 = .ok (.putfield 76, 3) := by decide +kernel
theorem d_Course_doStep_136 : decode prog_2_method_12_code 136 = .ok (.return_, 1) := by decide +kernel
theorem fl_Course_9 : zw_FL R_Course 9 0 0 := ⟨R_Course, T_Course, 15, rfl, by decide, ly_Course, Or.inl (zw_in (List.mem_of_getElem? (i := 206) (by decide +kernel)) (by decide +kernel))⟩
theorem fl_Course_17 : zw_FL R_Course 17 5 0 := ⟨R_Plan, T_Plan, 8, rfl, by decide, ly_Plan, Or.inr ⟨"TileShares", (zw_in (List.mem_of_getElem? (i := 121) (by decide +kernel)) (by decide +kernel))⟩⟩
theorem fl_Course_26 : zw_FL R_Course 26 0 1 := ⟨R_Course, T_Course, 15, rfl, by decide, ly_Course, Or.inl (zw_in (List.mem_of_getElem? (i := 207) (by decide +kernel)) (by decide +kernel))⟩
theorem fl_Course_33 : zw_FL R_Course 33 0 2 := ⟨R_Course, T_Course, 15, rfl, by decide, ly_Course, Or.inl (zw_in (List.mem_of_getElem? (i := 208) (by decide +kernel)) (by decide +kernel))⟩
theorem fl_Course_37 : zw_FL R_Course 37 0 3 := ⟨R_Course, T_Course, 15, rfl, by decide, ly_Course, Or.inl (zw_in (List.mem_of_getElem? (i := 210) (by decide +kernel)) (by decide +kernel))⟩
theorem fl_Course_43 : zw_FL R_Course 43 0 4 := ⟨R_Course, T_Course, 15, rfl, by decide, ly_Course, Or.inl (zw_in (List.mem_of_getElem? (i := 211) (by decide +kernel)) (by decide +kernel))⟩
theorem fl_Course_46 : zw_FL R_Course 46 0 5 := ⟨R_Course, T_Course, 15, rfl, by decide, ly_Course, Or.inl (zw_in (List.mem_of_getElem? (i := 213) (by decide +kernel)) (by decide +kernel))⟩
theorem fl_Course_54 : zw_FL R_Course 54 0 7 := ⟨R_Course, T_Course, 15, rfl, by decide, ly_Course, Or.inl (zw_in (List.mem_of_getElem? (i := 217) (by decide +kernel)) (by decide +kernel))⟩
theorem fl_Course_76 : zw_FL R_Course 76 0 8 := ⟨R_Course, T_Course, 15, rfl, by decide, ly_Course, Or.inl (zw_in (List.mem_of_getElem? (i := 219) (by decide +kernel)) (by decide +kernel))⟩
theorem fl_Course_79 : zw_FL R_Course 79 0 9 := ⟨R_Course, T_Course, 15, rfl, by decide, ly_Course, Or.inl (zw_in (List.mem_of_getElem? (i := 221) (by decide +kernel)) (by decide +kernel))⟩
theorem fl_Course_82 : zw_FL R_Course 82 0 10 := ⟨R_Course, T_Course, 15, rfl, by decide, ly_Course, Or.inl (zw_in (List.mem_of_getElem? (i := 222) (by decide +kernel)) (by decide +kernel))⟩
theorem fl_Course_88 : zw_FL R_Course 88 0 12 := ⟨R_Course, T_Course, 15, rfl, by decide, ly_Course, Or.inl (zw_in (List.mem_of_getElem? (i := 226) (by decide +kernel)) (by decide +kernel))⟩
theorem fl_Course_94 : zw_FL R_Course 94 0 14 := ⟨R_Course, T_Course, 15, rfl, by decide, ly_Course, Or.inl (zw_in (List.mem_of_getElem? (i := 230) (by decide +kernel)) (by decide +kernel))⟩
theorem fl_Course_116 : zw_FL R_Course 116 5 2 := ⟨R_Plan, T_Plan, 8, rfl, by decide, ly_Plan, Or.inr ⟨"TileShares", (zw_in (List.mem_of_getElem? (i := 128) (by decide +kernel)) (by decide +kernel))⟩⟩
theorem fl_Course_119 : zw_FL R_Course 119 5 7 := ⟨R_Plan, T_Plan, 8, rfl, by decide, ly_Plan, Or.inr ⟨"TileShares", (zw_in (List.mem_of_getElem? (i := 142) (by decide +kernel)) (by decide +kernel))⟩⟩
theorem fl_Course_125 : zw_FL R_Course 125 1 2 := ⟨R_Crew, T_Crew, 3, rfl, by decide, ly_Crew, Or.inr ⟨"TileShares", (zw_in (List.mem_of_getElem? (i := 194) (by decide +kernel)) (by decide +kernel))⟩⟩
theorem fl_Course_132 : zw_FL R_Course 132 1 1 := ⟨R_Crew, T_Crew, 3, rfl, by decide, ly_Crew, Or.inr ⟨"TileShares", (zw_in (List.mem_of_getElem? (i := 192) (by decide +kernel)) (by decide +kernel))⟩⟩
theorem fl_Course_135 : zw_FL R_Course 135 1 0 := ⟨R_Crew, T_Crew, 3, rfl, by decide, ly_Crew, Or.inr ⟨"TileShares", (zw_in (List.mem_of_getElem? (i := 190) (by decide +kernel)) (by decide +kernel))⟩⟩
theorem fl_Course_148 : zw_FL R_Course 148 5 3 := ⟨R_Plan, T_Plan, 8, rfl, by decide, ly_Plan, Or.inr ⟨"TileShares", (zw_in (List.mem_of_getElem? (i := 131) (by decide +kernel)) (by decide +kernel))⟩⟩
theorem fl_Course_151 : zw_FL R_Course 151 5 1 := ⟨R_Plan, T_Plan, 8, rfl, by decide, ly_Plan, Or.inr ⟨"TileShares", (zw_in (List.mem_of_getElem? (i := 125) (by decide +kernel)) (by decide +kernel))⟩⟩
theorem fl_Course_154 : zw_FL R_Course 154 5 5 := ⟨R_Plan, T_Plan, 8, rfl, by decide, ly_Plan, Or.inr ⟨"TileShares", (zw_in (List.mem_of_getElem? (i := 137) (by decide +kernel)) (by decide +kernel))⟩⟩
theorem fl_Plan_9 : zw_FL R_Plan 9 5 0 := ⟨R_Plan, T_Plan, 8, rfl, by decide, ly_Plan, Or.inl (zw_in (List.mem_of_getElem? (i := 120) (by decide +kernel)) (by decide +kernel))⟩
theorem fl_Plan_18 : zw_FL R_Plan 18 5 2 := ⟨R_Plan, T_Plan, 8, rfl, by decide, ly_Plan, Or.inl (zw_in (List.mem_of_getElem? (i := 126) (by decide +kernel)) (by decide +kernel))⟩
theorem fl_Plan_22 : zw_FL R_Plan 22 5 3 := ⟨R_Plan, T_Plan, 8, rfl, by decide, ly_Plan, Or.inl (zw_in (List.mem_of_getElem? (i := 129) (by decide +kernel)) (by decide +kernel))⟩
theorem fl_Plan_25 : zw_FL R_Plan 25 5 4 := ⟨R_Plan, T_Plan, 8, rfl, by decide, ly_Plan, Or.inl (zw_in (List.mem_of_getElem? (i := 132) (by decide +kernel)) (by decide +kernel))⟩
theorem fl_Plan_34 : zw_FL R_Plan 34 5 5 := ⟨R_Plan, T_Plan, 8, rfl, by decide, ly_Plan, Or.inl (zw_in (List.mem_of_getElem? (i := 135) (by decide +kernel)) (by decide +kernel))⟩
theorem fl_Plan_41 : zw_FL R_Plan 41 5 6 := ⟨R_Plan, T_Plan, 8, rfl, by decide, ly_Plan, Or.inl (zw_in (List.mem_of_getElem? (i := 138) (by decide +kernel)) (by decide +kernel))⟩
theorem fl_Plan_48 : zw_FL R_Plan 48 4 0 := ⟨R_Needs, T_Needs, 4, rfl, by decide, ly_Needs, Or.inr ⟨"TileShares", (zw_in (List.mem_of_getElem? (i := 73) (by decide +kernel)) (by decide +kernel))⟩⟩
theorem fp_Course_76 : zw_FP R_Course 76 0 8 (.int) false := ⟨R_Course, T_Course, 15, ty_Course, rfl, by decide, ly_Course, ty_Course_ok, rfl, nm_Course, rfl, Or.inl ⟨(zw_in (List.mem_of_getElem? (i := 219) (by decide +kernel)) (by decide +kernel)), fun h => by cases h⟩⟩
theorem fp_Course_79 : zw_FP R_Course 79 0 9 (.int) false := ⟨R_Course, T_Course, 15, ty_Course, rfl, by decide, ly_Course, ty_Course_ok, rfl, nm_Course, rfl, Or.inl ⟨(zw_in (List.mem_of_getElem? (i := 221) (by decide +kernel)) (by decide +kernel)), fun h => by cases h⟩⟩
theorem fp_Course_82 : zw_FP R_Course 82 0 10 (.int) false := ⟨R_Course, T_Course, 15, ty_Course, rfl, by decide, ly_Course, ty_Course_ok, rfl, nm_Course, rfl, Or.inl ⟨(zw_in (List.mem_of_getElem? (i := 222) (by decide +kernel)) (by decide +kernel)), fun h => by cases h⟩⟩
theorem fp_Course_88 : zw_FP R_Course 88 0 12 (.int) false := ⟨R_Course, T_Course, 15, ty_Course, rfl, by decide, ly_Course, ty_Course_ok, rfl, nm_Course, rfl, Or.inl ⟨(zw_in (List.mem_of_getElem? (i := 226) (by decide +kernel)) (by decide +kernel)), fun h => by cases h⟩⟩
theorem fp_Course_94 : zw_FP R_Course 94 0 14 (.int) false := ⟨R_Course, T_Course, 15, ty_Course, rfl, by decide, ly_Course, ty_Course_ok, rfl, nm_Course, rfl, Or.inl ⟨(zw_in (List.mem_of_getElem? (i := 230) (by decide +kernel)) (by decide +kernel)), fun h => by cases h⟩⟩
theorem fp_Plan_51 : zw_FP R_Plan 51 2 5 (.int) false := ⟨R_Failings, T_Failings, 6, ty_Failings, rfl, by decide, ly_Failings, ty_Failings_ok, rfl, nm_Failings, rfl, Or.inr ⟨rfl, "TileShares", (zw_in (List.mem_of_getElem? (i := 101) (by decide +kernel)) (by decide +kernel))⟩⟩
theorem fp_Plan_53 : zw_FP R_Plan 53 5 7 (.int) false := ⟨R_Plan, T_Plan, 8, ty_Plan, rfl, by decide, ly_Plan, ty_Plan_ok, rfl, nm_Plan, rfl, Or.inl ⟨(zw_in (List.mem_of_getElem? (i := 141) (by decide +kernel)) (by decide +kernel)), fun h => by cases h⟩⟩
theorem mv_Course_122 : zw_MV R_Course 122 Y_Course_isFinished R_Course 1 := ⟨Or.inl (zw_in (List.mem_of_getElem? (i := 486) (by decide +kernel)) (by decide +kernel)), (zw_in (List.mem_of_getElem? (i := 487) (by decide +kernel)) (by decide +kernel)), (zw_in (List.mem_of_getElem? (i := 488) (by decide +kernel)) (by decide +kernel)), (zw_in (List.mem_of_getElem? (i := 489) (by decide +kernel)) (by decide +kernel)), (zw_in (List.mem_of_getElem? (i := 30) (by decide +kernel)) (by decide +kernel)), by decide +kernel, by decide +kernel⟩
theorem mv_Course_128 : zw_MV R_Course 128 Y_Course_isStuck R_Course 0 := ⟨Or.inl (zw_in (List.mem_of_getElem? (i := 490) (by decide +kernel)) (by decide +kernel)), (zw_in (List.mem_of_getElem? (i := 492) (by decide +kernel)) (by decide +kernel)), (zw_in (List.mem_of_getElem? (i := 4) (by decide +kernel)) (by decide +kernel)), (zw_in (List.mem_of_getElem? (i := 493) (by decide +kernel)) (by decide +kernel)), (zw_in (List.mem_of_getElem? (i := 30) (by decide +kernel)) (by decide +kernel)), by decide +kernel, by decide +kernel⟩
theorem mv_Course_138 : zw_MV R_Course 138 Y_Course_canTake R_Course 0 := ⟨Or.inl (zw_in (List.mem_of_getElem? (i := 494) (by decide +kernel)) (by decide +kernel)), (zw_in (List.mem_of_getElem? (i := 496) (by decide +kernel)) (by decide +kernel)), (zw_in (List.mem_of_getElem? (i := 5) (by decide +kernel)) (by decide +kernel)), (zw_in (List.mem_of_getElem? (i := 497) (by decide +kernel)) (by decide +kernel)), (zw_in (List.mem_of_getElem? (i := 30) (by decide +kernel)) (by decide +kernel)), by decide +kernel, by decide +kernel⟩
theorem mv_Course_141 : zw_MV R_Course 141 Y_Course_shareToWaitFor R_Course 1 := ⟨Or.inl (zw_in (List.mem_of_getElem? (i := 502) (by decide +kernel)) (by decide +kernel)), (zw_in (List.mem_of_getElem? (i := 504) (by decide +kernel)) (by decide +kernel)), (zw_in (List.mem_of_getElem? (i := 6) (by decide +kernel)) (by decide +kernel)), (zw_in (List.mem_of_getElem? (i := 505) (by decide +kernel)) (by decide +kernel)), (zw_in (List.mem_of_getElem? (i := 30) (by decide +kernel)) (by decide +kernel)), by decide +kernel, by decide +kernel⟩
theorem mv_Course_145 : zw_MV R_Course 145 Y_Line_first R_Line 0 := ⟨Or.inl (zw_in (List.mem_of_getElem? (i := 498) (by decide +kernel)) (by decide +kernel)), (zw_in (List.mem_of_getElem? (i := 499) (by decide +kernel)) (by decide +kernel)), (zw_in (List.mem_of_getElem? (i := 500) (by decide +kernel)) (by decide +kernel)), (zw_in (List.mem_of_getElem? (i := 501) (by decide +kernel)) (by decide +kernel)), (zw_in (List.mem_of_getElem? (i := 31) (by decide +kernel)) (by decide +kernel)), by decide +kernel, by decide +kernel⟩
theorem mv_Course_158 : zw_MV R_Course 158 Y_Needs_firstUnmet R_Needs 3 := ⟨Or.inl (zw_in (List.mem_of_getElem? (i := 506) (by decide +kernel)) (by decide +kernel)), (zw_in (List.mem_of_getElem? (i := 507) (by decide +kernel)) (by decide +kernel)), (zw_in (List.mem_of_getElem? (i := 508) (by decide +kernel)) (by decide +kernel)), (zw_in (List.mem_of_getElem? (i := 509) (by decide +kernel)) (by decide +kernel)), (zw_in (List.mem_of_getElem? (i := 28) (by decide +kernel)) (by decide +kernel)), by decide +kernel, by decide +kernel⟩
theorem mv_Course_178 : zw_MV R_Course 178 Y_Line_dropFirst R_Line 0 := ⟨Or.inl (zw_in (List.mem_of_getElem? (i := 524) (by decide +kernel)) (by decide +kernel)), (zw_in (List.mem_of_getElem? (i := 525) (by decide +kernel)) (by decide +kernel)), (zw_in (List.mem_of_getElem? (i := 526) (by decide +kernel)) (by decide +kernel)), (zw_in (List.mem_of_getElem? (i := 527) (by decide +kernel)) (by decide +kernel)), (zw_in (List.mem_of_getElem? (i := 31) (by decide +kernel)) (by decide +kernel)), by decide +kernel, by decide +kernel⟩
theorem km_Course_181 : Cond.methodLink R_Course 181 Lib.Math.max.name ∈ zw_Tb := (zw_in (List.mem_of_getElem? (i := 532) (by decide +kernel)) (by decide +kernel))
theorem km_max_st : Cond.static Lib.Math.max.name ∈ zw_Tb := (zw_in (List.mem_of_getElem? (i := 56) (by decide +kernel)) (by decide +kernel))
theorem km_max_co : Cond.code Lib.Math.max.name Lib.Math.max.code 2 (some .int) ∈ zw_Tb := (zw_in (List.mem_of_getElem? (i := 57) (by decide +kernel)) (by decide +kernel))
theorem km_math_in : Cond.initialized "java/lang/Math" ∈ zw_Tb := (zw_in (List.mem_of_getElem? (i := 26) (by decide +kernel)) (by decide +kernel))
theorem mv_Course_187 : zw_MV R_Course 187 Y_Crew_lose R_Crew 1 := ⟨Or.inl (zw_in (List.mem_of_getElem? (i := 541) (by decide +kernel)) (by decide +kernel)), (zw_in (List.mem_of_getElem? (i := 542) (by decide +kernel)) (by decide +kernel)), (zw_in (List.mem_of_getElem? (i := 543) (by decide +kernel)) (by decide +kernel)), (zw_in (List.mem_of_getElem? (i := 544) (by decide +kernel)) (by decide +kernel)), (zw_in (List.mem_of_getElem? (i := 32) (by decide +kernel)) (by decide +kernel)), by decide +kernel, by decide +kernel⟩
theorem mv_Course_190 : zw_MV R_Course 190 Y_Line_append R_Line 1 := ⟨Or.inl (zw_in (List.mem_of_getElem? (i := 545) (by decide +kernel)) (by decide +kernel)), (zw_in (List.mem_of_getElem? (i := 546) (by decide +kernel)) (by decide +kernel)), (zw_in (List.mem_of_getElem? (i := 547) (by decide +kernel)) (by decide +kernel)), (zw_in (List.mem_of_getElem? (i := 548) (by decide +kernel)) (by decide +kernel)), (zw_in (List.mem_of_getElem? (i := 31) (by decide +kernel)) (by decide +kernel)), by decide +kernel, by decide +kernel⟩
theorem mv_Course_193 : zw_MV R_Course 193 Y_Needs_sumOfValues R_Needs 3 := ⟨Or.inl (zw_in (List.mem_of_getElem? (i := 553) (by decide +kernel)) (by decide +kernel)), (zw_in (List.mem_of_getElem? (i := 554) (by decide +kernel)) (by decide +kernel)), (zw_in (List.mem_of_getElem? (i := 555) (by decide +kernel)) (by decide +kernel)), (zw_in (List.mem_of_getElem? (i := 556) (by decide +kernel)) (by decide +kernel)), (zw_in (List.mem_of_getElem? (i := 28) (by decide +kernel)) (by decide +kernel)), by decide +kernel, by decide +kernel⟩
theorem kc_Course_104 : Cond.constantLong R_Course 104 6364136223846793005 ∈ zw_Tb := (zw_in (List.mem_of_getElem? (i := 510) (by decide +kernel)) (by decide +kernel))
theorem kc_Course_106 : Cond.constantLong R_Course 106 1442695040888963407 ∈ zw_Tb := (zw_in (List.mem_of_getElem? (i := 511) (by decide +kernel)) (by decide +kernel))
theorem kc_Model_111 : Cond.constantLong R_Model 111 6364136223846793005 ∈ zw_Tb := (zw_in (List.mem_of_getElem? (i := 786) (by decide +kernel)) (by decide +kernel))
theorem kc_Model_163 : Cond.constantLong R_Model 163 1442695040888963407 ∈ zw_Tb := (zw_in (List.mem_of_getElem? (i := 787) (by decide +kernel)) (by decide +kernel))
theorem kc_Law_65 : Cond.constantLong R_Law 65 4294967295 ∈ zw_Tb := (zw_in (List.mem_of_getElem? (i := 825) (by decide +kernel)) (by decide +kernel))
set_option maxHeartbeats 4000000 in
set_option maxRecDepth 100000 in
theorem c_Plan_reset {l : Launch} {D : va_G} {cA : Nat → ClassId} {ad : Nat → Nat} {sh : zw_Sh} {n : Nat} (hn : n ≤ 16) (hs : ∀ (k : Nat) (q : zw_Sp), shX n k = some q → sh k = some q) (z : Nat) (mi : zw_I) (ml : zw_L) (e0 : mi 1 0 = nI n) :
    zc_M l D cA Y_Plan_reset 0 0 0 ad sh sh z [.ref (ad 1)] mi ml none ((p_reset n (n + 1) 0 mi ml).1) ((p_reset n (n + 1) 0 mi ml).2) z := by
  refine zc_enter (own := R_Plan) (by decide) rfl (Nat.le_of_ble_eq_true rfl) ?_
  intro p e s m below meth c X hr hlocks hnm hB ls hl
  have X : zw_C D cA R_Plan prog_7_method_2_code 2 p m c s := X
  have hr : meth.sig.returnType = none := hr
  have hx := X.1
  have hb := X.2.1
  have hl : lv_has ls 2 [(0, .ref (ad 1))] := hl
  have loop : ∀ (f i : Nat) (mi : zw_I) (ml : zw_L) (H : Heap) (locs : List Loc) (ls : Array Slot), i + f = n + 1 → i ≤ n → mi 1 0 = nI n → zw_B D cA ad sh (zw_A ad sh z) s.heap mi ml z H locs → lv_has ls 2 [(1, .int (nI i)), (0, .ref (ad 1))] →
      zc_W l D cA ad sh sh z [.ref (ad 1)] 0 0 0 none ((p_reset n f (nI i) mi ml).1) ((p_reset n f (nI i) mi ml).2) z p e s m below meth c H locs 0 0 (F0 m 2 ls []) := by
    intro f
    induction f with
    | zero =>
      intro i  mi ml H locs ls hi h2 e0 hB hl
      omega
    | succ f ih =>
      intro i  mi ml H locs ls hi h2 e0 hB hl
      rw [p_reset]
      refine lv_iload_n hx hb d_Plan_reset_2 rfl (lv_at hl 0 rfl) ?_
      refine lv_aload_n hx hb d_Plan_reset_3 rfl (lv_at hl 1 rfl) ?_
      refine zw_getI X hB fl_Plan_9 1 (hs 1 _ rfl) rfl d_Plan_reset_4 ?_
      refine lv_icmp_ge (tgt := 48) hx hb d_Plan_reset_7 (by decide) (fun c_7 => ?_) (fun c_7 => ?_)
      · rw [e0] at c_7
        rw [if_pos c_7]
        refine lv_aload_n hx hb d_Plan_reset_48 rfl (lv_at hl 1 rfl) ?_
        refine zw_getR X hB fl_Plan_41 1 (hs 1 _ rfl) rfl d_Plan_reset_49 ?_
        refine lv_iconst (v := 0) hx hb d_Plan_reset_52 (by decide) ?_
        refine zw_putI X hB fp_Plan_51 (fun h => by cases h) 3 (hs 3 _ rfl) rfl d_Plan_reset_53 (fun H locs hB => ?_)
        obtain ⟨mi_1, emi_1⟩ : ∃ y, y = zw_up mi 3 5 0 := ⟨_, rfl⟩
        rw [← emi_1] at hB
        refine lv_aload_n hx hb d_Plan_reset_56 rfl (lv_at hl 1 rfl) ?_
        refine lv_iconst (v := (-1)) hx hb d_Plan_reset_57 (by decide) ?_
        refine zw_putI X hB fp_Plan_53 (fun h => by cases h) 1 (hs 1 _ rfl) rfl d_Plan_reset_58 (fun H locs hB => ?_)
        obtain ⟨mi_2, emi_2⟩ : ∃ y, y = zw_up mi_1 1 7 (-1) := ⟨_, rfl⟩
        rw [← emi_2] at hB
        exact zc_vret X hr hlocks hB (by subst emi_2; subst emi_1; rfl) (by subst emi_2; subst emi_1; rfl) (by subst emi_2; subst emi_1; rfl) d_Plan_reset_61
      · rw [e0] at c_7
        rw [if_neg c_7]
        have hlt : i < n := zn_lt (by omega) c_7
        have hin : vp_in (nI i) n := vp_in_nI hlt (by omega)
        refine lv_aload_n hx hb d_Plan_reset_10 rfl (lv_at hl 1 rfl) ?_
        refine zw_getR X hB fl_Plan_18 1 (hs 1 _ rfl) rfl d_Plan_reset_11 ?_
        refine lv_iload_n hx hb d_Plan_reset_14 rfl (lv_at hl 0 rfl) ?_
        refine lv_iconst (v := 1) hx hb d_Plan_reset_15 (by decide) ?_
        refine zw_iast X hB 7 (hs 7 _ rfl) hin d_Plan_reset_16 (fun H locs hB => ?_)
        obtain ⟨mi_3, emi_3⟩ : ∃ y, y = zw_up mi 7 (nI i).toNatClampNeg 1 := ⟨_, rfl⟩
        rw [← emi_3] at hB
        refine lv_aload_n hx hb d_Plan_reset_17 rfl (lv_at hl 1 rfl) ?_
        refine zw_getR X hB fl_Plan_22 1 (hs 1 _ rfl) rfl d_Plan_reset_18 ?_
        refine lv_iload_n hx hb d_Plan_reset_21 rfl (lv_at hl 0 rfl) ?_
        refine lv_iconst (v := 1) hx hb d_Plan_reset_22 (by decide) ?_
        refine zw_iast X hB 8 (hs 8 _ rfl) hin d_Plan_reset_23 (fun H locs hB => ?_)
        obtain ⟨mi_4, emi_4⟩ : ∃ y, y = zw_up mi_3 8 (nI i).toNatClampNeg 1 := ⟨_, rfl⟩
        rw [← emi_4] at hB
        refine lv_aload_n hx hb d_Plan_reset_24 rfl (lv_at hl 1 rfl) ?_
        refine zw_getR X hB fl_Plan_25 1 (hs 1 _ rfl) rfl d_Plan_reset_25 ?_
        refine lv_iload_n hx hb d_Plan_reset_28 rfl (lv_at hl 0 rfl) ?_
        refine lv_iload_n hx hb d_Plan_reset_29 rfl (lv_at hl 0 rfl) ?_
        refine lv_i2l (v := (nI i).toInt64) hx hb d_Plan_reset_30 rfl ?_
        refine zw_last X hB 9 (hs 9 _ rfl) hin d_Plan_reset_31 (fun H locs hB => ?_)
        obtain ⟨ml_5, eml_5⟩ : ∃ y, y = zw_up ml 9 (nI i).toNatClampNeg ((nI i).toInt64) := ⟨_, rfl⟩
        rw [← eml_5] at hB
        refine lv_aload_n hx hb d_Plan_reset_32 rfl (lv_at hl 1 rfl) ?_
        refine zw_getR X hB fl_Plan_34 1 (hs 1 _ rfl) rfl d_Plan_reset_33 ?_
        refine zw_getR X hB fl_Plan_48 2 (hs 2 _ rfl) rfl d_Plan_reset_36 ?_
        refine lv_iload_n hx hb d_Plan_reset_39 rfl (lv_at hl 0 rfl) ?_
        refine lv_iconst (v := 0) hx hb d_Plan_reset_40 (by decide) ?_
        refine zw_iast X hB 10 (hs 10 _ rfl) hin d_Plan_reset_41 (fun H locs hB => ?_)
        obtain ⟨mi_6, emi_6⟩ : ∃ y, y = zw_up mi_4 10 (nI i).toNatClampNeg 0 := ⟨_, rfl⟩
        rw [← emi_6] at hB
        refine lv_iinc (v := nI (i + 1)) (lv' := [(1, .int (nI (i + 1))), (0, .ref (ad 1))]) hx hb d_Plan_reset_42 hl (k := 0) rfl (nI_1 i) (by decide) rfl (fun ls hl => ?_)
        refine lv_goto (tgt := 2) hx hb d_Plan_reset_45 (by decide) ?_
        subst emi_6
        subst eml_5
        subst emi_4
        subst emi_3
        rw [nI_1 i]
        exact ih (i + 1)  _ _ H locs ls (by omega) (by omega) (by simpa [zw_up] using e0) hB (lv_sub hl [0, 1] rfl)
  refine lv_iconst (v := 0) hx hb d_Plan_reset_0 (by decide) ?_
  refine lv_istore_n (lv' := [(1, .int 0), (0, .ref (ad 1))]) hx hb d_Plan_reset_1 rfl hl (by decide) rfl (fun ls hl => ?_)
  exact loop (n + 1) 0 _ _ _ _ ls (by omega) (by omega) e0 hB (lv_sub hl [0, 1] rfl)

set_option maxHeartbeats 4000000 in
set_option maxRecDepth 100000 in
theorem c_Course_isFinished {l : Launch} {D : va_G} {cA : Nat → ClassId} {ad : Nat → Nat} {sh : zw_Sh} {n : Nat} (hn : n ≤ 16) (hs : ∀ (k : Nat) (q : zw_Sp), shX n k = some q → sh k = some q) (z : Nat) (mi : zw_I) (ml : zw_L) (x : Int32) (h1 : vp_in x n) :
    zc_M l D cA Y_Course_isFinished 0 0 0 ad sh sh z [.ref (ad 5), .int x] mi ml (some (.int (p_isFin mi x))) mi ml z := by
  refine zc_enter (own := R_Course) (by decide) rfl (Nat.le_of_ble_eq_true rfl) ?_
  intro p e s m below meth c X hr hlocks hnm hB ls hl
  have X : zw_C D cA R_Course prog_2_method_4_code 2 p m c s := X
  have hr : meth.sig.returnType = (some FieldType.boolean) := hr
  have hx := X.1
  have hb := X.2.1
  have hl : lv_has ls 2 [(0, .ref (ad 5)), (1, .int x)] := hl
  unfold p_isFin
  refine lv_aload_n hx hb d_Course_isFinished_0 rfl (lv_at hl 0 rfl) ?_
  refine zw_getR X hB fl_Course_37 5 (hs 5 _ rfl) rfl d_Course_isFinished_1 ?_
  refine lv_iload_n hx hb d_Course_isFinished_4 rfl (lv_at hl 1 rfl) ?_
  refine zw_iald X hB 23 (hs 23 _ rfl) h1 d_Course_isFinished_5 ?_
  refine lv_aload_n hx hb d_Course_isFinished_6 rfl (lv_at hl 0 rfl) ?_
  refine zw_getR X hB fl_Course_9 5 (hs 5 _ rfl) rfl d_Course_isFinished_7 ?_
  refine zw_getR X hB fl_Course_116 1 (hs 1 _ rfl) rfl d_Course_isFinished_10 ?_
  refine lv_iload_n hx hb d_Course_isFinished_13 rfl (lv_at hl 1 rfl) ?_
  refine zw_iald X hB 7 (hs 7 _ rfl) h1 d_Course_isFinished_14 ?_
  refine lv_icmp_lt (tgt := 22) hx hb d_Course_isFinished_15 (by decide) (fun c_15 => ?_) (fun c_15 => ?_)
  · rw [if_pos c_15]
    refine lv_iconst (v := 0) hx hb d_Course_isFinished_22 (by decide) ?_
    exact zc_zret X hr hlocks hB (by rfl) (by rfl) (by rfl) (by rfl) d_Course_isFinished_23
  · rw [if_neg c_15]
    refine lv_iconst (v := 1) hx hb d_Course_isFinished_18 (by decide) ?_
    refine lv_goto (tgt := 23) hx hb d_Course_isFinished_19 (by decide) ?_
    exact zc_zret X hr hlocks hB (by rfl) (by rfl) (by rfl) (by rfl) d_Course_isFinished_23

set_option maxHeartbeats 4000000 in
set_option maxRecDepth 100000 in
theorem c_Course_canTake {l : Launch} {D : va_G} {cA : Nat → ClassId} {ad : Nat → Nat} {sh : zw_Sh} {n : Nat} (hn : n ≤ 16) (hs : ∀ (k : Nat) (q : zw_Sp), shX n k = some q → sh k = some q) (z : Nat) (mi : zw_I) (ml : zw_L) (hI : zi n mi) :
    zc_M l D cA Y_Course_canTake 1 0 0 ad sh sh z [.ref (ad 5)] mi ml (some (.int (p_canTake mi))) mi ml z := by
  refine zc_enter (own := R_Course) (by decide) rfl (Nat.le_of_ble_eq_true rfl) ?_
  intro p e s m below meth c X hr hlocks hnm hB ls hl
  have X : zw_C D cA R_Course prog_2_method_7_code 2 p m c s := X
  have hr : meth.sig.returnType = (some FieldType.boolean) := hr
  have hx := X.1
  have hb := X.2.1
  have hl : lv_has ls 2 [(0, .ref (ad 5))] := hl
  unfold p_canTake
  refine lv_aload_n hx hb d_Course_canTake_0 rfl (lv_at hl 0 rfl) ?_
  refine zw_getR X hB fl_Course_26 5 (hs 5 _ rfl) rfl d_Course_canTake_1 ?_
  refine zw_callVr X hB mv_Course_145 4 (hs 4 _ rfl) rfl (c_Line_first hn hs z mi ml hI.2.2.2.1.1) rfl hl.1 ⟨Nat.le_of_ble_eq_true rfl, Nat.le_of_ble_eq_true rfl⟩ rfl (Nat.le_of_ble_eq_true rfl) ⟨Nat.le_of_ble_eq_true rfl, Nat.le_of_ble_eq_true rfl⟩ d_Course_canTake_4 (fun H locs hB => ?_)
  refine lv_istore_n (lv' := [(1, .int (p_first mi)), (0, .ref (ad 5))]) hx hb d_Course_canTake_7 rfl hl (by decide) rfl (fun ls hl => ?_)
  refine lv_iload_n hx hb d_Course_canTake_8 rfl (lv_at hl 0 rfl) ?_
  refine lv_iconst (v := (-1)) hx hb d_Course_canTake_9 (by decide) ?_
  refine lv_icmp_eq (tgt := 41) hx hb d_Course_canTake_10 (by decide) (fun c_10 => ?_) (fun c_10 => ?_)
  · rw [if_pos c_10]
    refine lv_iconst (v := 0) hx hb d_Course_canTake_41 (by decide) ?_
    exact zc_zret X hr hlocks hB (by rfl) (by rfl) (by rfl) (by rfl) d_Course_canTake_42
  · rw [if_neg c_10]
    refine lv_aload_n hx hb d_Course_canTake_13 rfl (lv_at hl 1 rfl) ?_
    refine zw_getI X hB fl_Course_79 5 (hs 5 _ rfl) rfl d_Course_canTake_14 ?_
    refine lv_aload_n hx hb d_Course_canTake_17 rfl (lv_at hl 1 rfl) ?_
    refine zw_getR X hB fl_Course_9 5 (hs 5 _ rfl) rfl d_Course_canTake_18 ?_
    refine zw_getR X hB fl_Course_148 1 (hs 1 _ rfl) rfl d_Course_canTake_21 ?_
    refine lv_iload_n hx hb d_Course_canTake_24 rfl (lv_at hl 0 rfl) ?_
    refine zw_iald X hB 8 (hs 8 _ rfl) (zi_firstN hI c_10) d_Course_canTake_25 ?_
    refine lv_iadd hx hb d_Course_canTake_26 ?_
    refine lv_aload_n hx hb d_Course_canTake_27 rfl (lv_at hl 1 rfl) ?_
    refine zw_getR X hB fl_Course_9 5 (hs 5 _ rfl) rfl d_Course_canTake_28 ?_
    refine zw_getI X hB fl_Course_151 1 (hs 1 _ rfl) rfl d_Course_canTake_31 ?_
    refine lv_icmp_gt (tgt := 41) hx hb d_Course_canTake_34 (by decide) (fun c_34 => ?_) (fun c_34 => ?_)
    · rw [if_pos c_34]
      refine lv_iconst (v := 0) hx hb d_Course_canTake_41 (by decide) ?_
      exact zc_zret X hr hlocks hB (by rfl) (by rfl) (by rfl) (by rfl) d_Course_canTake_42
    · rw [if_neg c_34]
      refine lv_iconst (v := 1) hx hb d_Course_canTake_37 (by decide) ?_
      refine lv_goto (tgt := 42) hx hb d_Course_canTake_38 (by decide) ?_
      exact zc_zret X hr hlocks hB (by rfl) (by rfl) (by rfl) (by rfl) d_Course_canTake_42

set_option maxHeartbeats 4000000 in
set_option maxRecDepth 100000 in
theorem c_Course_shareToWaitFor {l : Launch} {D : va_G} {cA : Nat → ClassId} {ad : Nat → Nat} {sh : zw_Sh} {n : Nat} (hn : n ≤ 16) (hs : ∀ (k : Nat) (q : zw_Sp), shX n k = some q → sh k = some q) (z : Nat) (mi : zw_I) (ml : zw_L) (x : Int32) (hI : zi n mi) (h1 : vp_in x n) :
    zc_M l D cA Y_Course_shareToWaitFor 1 0 0 ad sh sh z [.ref (ad 5), .int x] mi ml (some (.int (p_wait mi x))) mi ml z := by
  refine zc_enter (own := R_Course) (by decide) rfl (Nat.le_of_ble_eq_true rfl) ?_
  intro p e s m below meth c X hr hlocks hnm hB ls hl
  have X : zw_C D cA R_Course prog_2_method_8_code 2 p m c s := X
  have hr : meth.sig.returnType = (some FieldType.int) := hr
  have hx := X.1
  have hb := X.2.1
  have hl : lv_has ls 2 [(0, .ref (ad 5)), (1, .int x)] := hl
  obtain ⟨⟨w, hw, ew⟩, hom⟩ := hI.2.1 _ (vlt h1)
  refine lv_aload_n hx hb d_Course_shareToWaitFor_0 rfl (lv_at hl 0 rfl) ?_
  refine zw_getR X hB fl_Course_9 5 (hs 5 _ rfl) rfl d_Course_shareToWaitFor_1 ?_
  refine zw_getR X hB fl_Course_154 1 (hs 1 _ rfl) rfl d_Course_shareToWaitFor_4 ?_
  refine lv_iload_n hx hb d_Course_shareToWaitFor_7 rfl (lv_at hl 1 rfl) ?_
  refine lv_aload_n hx hb d_Course_shareToWaitFor_8 rfl (lv_at hl 0 rfl) ?_
  refine zw_getR X hB fl_Course_37 5 (hs 5 _ rfl) rfl d_Course_shareToWaitFor_9 ?_
  refine lv_iload_n hx hb d_Course_shareToWaitFor_12 rfl (lv_at hl 1 rfl) ?_
  refine zw_iald X hB 23 (hs 23 _ rfl) h1 d_Course_shareToWaitFor_13 ?_
  refine lv_aload_n hx hb d_Course_shareToWaitFor_14 rfl (lv_at hl 0 rfl) ?_
  refine zw_getR X hB fl_Course_37 5 (hs 5 _ rfl) rfl d_Course_shareToWaitFor_15 ?_
  refine zw_callVr X hB mv_Course_158 2 (hs 2 _ rfl) rfl (c_Needs_firstUnmet hn hs z mi ml x (mi 23 x.toNatClampNeg) h1 w hw ew (fun k hk => (hom k hk).1)) rfl hl.1 ⟨Nat.le_of_ble_eq_true rfl, Nat.le_of_ble_eq_true rfl⟩ rfl (Nat.le_of_ble_eq_true rfl) ⟨Nat.le_of_ble_eq_true rfl, Nat.le_of_ble_eq_true rfl⟩ d_Course_shareToWaitFor_18 (fun H locs hB => ?_)
  exact zc_iret X hr hlocks hB (by rfl) (by rfl) (by rfl) d_Course_shareToWaitFor_21

set_option maxHeartbeats 4000000 in
set_option maxRecDepth 100000 in
theorem c_Course_isStuck {l : Launch} {D : va_G} {cA : Nat → ClassId} {ad : Nat → Nat} {sh : zw_Sh} {n : Nat} (hn : n ≤ 16) (hs : ∀ (k : Nat) (q : zw_Sp), shX n k = some q → sh k = some q) (z : Nat) (mi : zw_I) (ml : zw_L) (hI : zi n mi) :
    zc_M l D cA Y_Course_isStuck 2 0 0 ad sh sh z [.ref (ad 5)] mi ml (some (.int (p_stuck mi 17 0))) mi ml z := by
  refine zc_enter (own := R_Course) (by decide) rfl (Nat.le_of_ble_eq_true rfl) ?_
  intro p e s m below meth c X hr hlocks hnm hB ls hl
  have X : zw_C D cA R_Course prog_2_method_6_code 3 p m c s := X
  have hr : meth.sig.returnType = (some FieldType.boolean) := hr
  have hx := X.1
  have hb := X.2.1
  have hl : lv_has ls 3 [(0, .ref (ad 5))] := hl
  have loop : ∀ (f i : Nat)  (H : Heap) (locs : List Loc) (ls : Array Slot), i + f = 17 → nI i ≤ mi 6 2 → zw_B D cA ad sh (zw_A ad sh z) s.heap mi ml z H locs → lv_has ls 3 [(1, .int (nI i)), (0, .ref (ad 5))] →
      zc_W l D cA ad sh sh z [.ref (ad 5)] 2 0 0 (some (.int (p_stuck mi f (nI i)))) mi ml z p e s m below meth c H locs 0 0 (F0 m 2 ls []) := by
    intro f
    induction f with
    | zero =>
      intro i   H locs ls hi h2 hB hl
      obtain ⟨w, hw, ew⟩ := hI.2.2.2.2.1
      rw [ew] at h2
      have := zn_le (by omega) (by omega) h2
      omega
    | succ f ih =>
      intro i   H locs ls hi h2 hB hl
      rw [p_stuck]
      refine lv_iload_n hx hb d_Course_isStuck_2 rfl (lv_at hl 0 rfl) ?_
      refine lv_aload_n hx hb d_Course_isStuck_3 rfl (lv_at hl 1 rfl) ?_
      refine zw_getR X hB fl_Course_33 5 (hs 5 _ rfl) rfl d_Course_isStuck_4 ?_
      refine zw_getI X hB fl_Course_125 6 (hs 6 _ rfl) rfl d_Course_isStuck_7 ?_
      refine lv_icmp_ge (tgt := 63) hx hb d_Course_isStuck_10 (by decide) (fun c_10 => ?_) (fun c_10 => ?_)
      · rw [if_pos c_10]
        refine lv_iconst (v := 1) hx hb d_Course_isStuck_63 (by decide) ?_
        exact zc_zret X hr hlocks hB (by rfl) (by rfl) (by rfl) (by rfl) d_Course_isStuck_64
      · rw [if_neg c_10]
        obtain ⟨w, hw, ew⟩ := hI.2.2.2.2.1
        have hlt : i < w := zn_lt (by omega) (by rw [← ew]; exact c_10)
        have hin : vp_in (nI i) 16 := vp_in_nI (by omega) (by decide)
        have hlv := hI.2.2.2.2.2.1 _ (vlt hin)
        have hhd := hI.2.2.2.2.2.2 _ (vlt hlv)
        refine lv_aload_n hx hb d_Course_isStuck_13 rfl (lv_at hl 1 rfl) ?_
        refine zw_getR X hB fl_Course_33 5 (hs 5 _ rfl) rfl d_Course_isStuck_14 ?_
        refine zw_getR X hB fl_Course_132 6 (hs 6 _ rfl) rfl d_Course_isStuck_17 ?_
        refine lv_aload_n hx hb d_Course_isStuck_20 rfl (lv_at hl 1 rfl) ?_
        refine zw_getR X hB fl_Course_33 5 (hs 5 _ rfl) rfl d_Course_isStuck_21 ?_
        refine zw_getR X hB fl_Course_135 6 (hs 6 _ rfl) rfl d_Course_isStuck_24 ?_
        refine lv_iload_n hx hb d_Course_isStuck_27 rfl (lv_at hl 0 rfl) ?_
        refine zw_iald X hB 28 (hs 28 _ rfl) hin d_Course_isStuck_28 ?_
        refine zw_iald X hB 29 (hs 29 _ rfl) hlv d_Course_isStuck_29 ?_
        refine lv_istore_n (lv' := [(2, .int (mi 29 (mi 28 (nI i).toNatClampNeg).toNatClampNeg)), (1, .int (nI i)), (0, .ref (ad 5))]) hx hb d_Course_isStuck_30 rfl hl (by decide) rfl (fun ls hl => ?_)
        refine lv_iload_n hx hb d_Course_isStuck_31 rfl (lv_at hl 0 rfl) ?_
        refine lv_iconst (v := (-1)) hx hb d_Course_isStuck_32 (by decide) ?_
        refine lv_icmp_ne (tgt := 46) hx hb d_Course_isStuck_33 (by decide) (fun c_33 => ?_) (fun c_33 => ?_)
        · rw [if_neg c_33]
          refine lv_aload_n hx hb d_Course_isStuck_46 rfl (lv_at hl 2 rfl) ?_
          refine lv_iload_n hx hb d_Course_isStuck_47 rfl (lv_at hl 0 rfl) ?_
          refine zw_callVr X hB mv_Course_141 5 (hs 5 _ rfl) rfl (c_Course_shareToWaitFor hn hs z mi ml (mi 29 (mi 28 (nI i).toNatClampNeg).toNatClampNeg) hI (hhd.elim (fun e => absurd e c_33) id)) rfl hl.1 ⟨Nat.le_of_ble_eq_true rfl, Nat.le_of_ble_eq_true rfl⟩ rfl (Nat.le_of_ble_eq_true rfl) ⟨Nat.le_of_ble_eq_true rfl, Nat.le_of_ble_eq_true rfl⟩ d_Course_isStuck_48 (fun H locs hB => ?_)
          refine lv_iconst (v := (-1)) hx hb d_Course_isStuck_51 (by decide) ?_
          refine lv_icmp_ne (tgt := 57) hx hb d_Course_isStuck_52 (by decide) (fun c_52 => ?_) (fun c_52 => ?_)
          · rw [if_neg c_52]
            refine lv_iinc (v := nI (i + 1)) (lv' := [(1, .int (nI (i + 1))), (2, .int (mi 29 (mi 28 (nI i).toNatClampNeg).toNatClampNeg)), (0, .ref (ad 5))]) hx hb d_Course_isStuck_57 hl (k := 1) rfl (nI_1 i) (by decide) rfl (fun ls hl => ?_)
            refine lv_goto (tgt := 2) hx hb d_Course_isStuck_60 (by decide) ?_
            rw [nI_1 i]
            exact ih (i + 1)   H locs ls (by omega) (by rw [ew]; exact nI_le (by omega) (by omega)) hB (lv_sub hl [0, 2] rfl)
          · rw [if_pos c_52]
            refine lv_iconst (v := 0) hx hb d_Course_isStuck_55 (by decide) ?_
            exact zc_zret X hr hlocks hB (by rfl) (by rfl) (by rfl) (by rfl) d_Course_isStuck_56
        · rw [if_pos c_33]
          refine lv_aload_n hx hb d_Course_isStuck_36 rfl (lv_at hl 2 rfl) ?_
          refine zw_callVr X hB mv_Course_138 5 (hs 5 _ rfl) rfl (c_Course_canTake hn hs z mi ml hI) rfl hl.1 ⟨Nat.le_of_ble_eq_true rfl, Nat.le_of_ble_eq_true rfl⟩ rfl (Nat.le_of_ble_eq_true rfl) ⟨Nat.le_of_ble_eq_true rfl, Nat.le_of_ble_eq_true rfl⟩ d_Course_isStuck_37 (fun H locs hB => ?_)
          refine lv_if_eq (tgt := 57) hx hb d_Course_isStuck_40 (by decide) (fun c_40 => ?_) (fun c_40 => ?_)
          · rw [if_pos c_40]
            refine lv_iinc (v := nI (i + 1)) (lv' := [(1, .int (nI (i + 1))), (2, .int (mi 29 (mi 28 (nI i).toNatClampNeg).toNatClampNeg)), (0, .ref (ad 5))]) hx hb d_Course_isStuck_57 hl (k := 1) rfl (nI_1 i) (by decide) rfl (fun ls hl => ?_)
            refine lv_goto (tgt := 2) hx hb d_Course_isStuck_60 (by decide) ?_
            rw [nI_1 i]
            exact ih (i + 1)   H locs ls (by omega) (by rw [ew]; exact nI_le (by omega) (by omega)) hB (lv_sub hl [0, 2] rfl)
          · rw [if_neg c_40]
            refine lv_goto (tgt := 55) hx hb d_Course_isStuck_43 (by decide) ?_
            refine lv_iconst (v := 0) hx hb d_Course_isStuck_55 (by decide) ?_
            exact zc_zret X hr hlocks hB (by rfl) (by rfl) (by rfl) (by rfl) d_Course_isStuck_56
  refine lv_iconst (v := 0) hx hb d_Course_isStuck_0 (by decide) ?_
  refine lv_istore_n (lv' := [(1, .int 0), (0, .ref (ad 5))]) hx hb d_Course_isStuck_1 rfl hl (by decide) rfl (fun ls hl => ?_)
  exact loop 17 0  _ _ ls rfl (by obtain ⟨w, hw, ew⟩ := hI.2.2.2.2.1; rw [ew]; exact nI_le (by omega) (by omega)) hB (lv_sub hl [0, 1] rfl)

set_option maxHeartbeats 4000000 in
set_option maxRecDepth 100000 in
theorem c_Course_endByState {l : Launch} {D : va_G} {cA : Nat → ClassId} {ad : Nat → Nat} {sh : zw_Sh} {n : Nat} (hn : n ≤ 16) (hs : ∀ (k : Nat) (q : zw_Sp), shX n k = some q → sh k = some q) (z : Nat) (mi : zw_I) (ml : zw_L) (hI : zi n mi) :
    zc_M l D cA Y_Course_endByState 3 0 0 ad sh sh z [.ref (ad 5)] mi ml (some (.int (p_end mi))) mi ml z := by
  refine zc_enter (own := R_Course) (by decide) rfl (Nat.le_of_ble_eq_true rfl) ?_
  intro p e s m below meth c X hr hlocks hnm hB ls hl
  have X : zw_C D cA R_Course prog_2_method_5_code 1 p m c s := X
  have hr : meth.sig.returnType = (some FieldType.int) := hr
  have hx := X.1
  have hb := X.2.1
  have hl : lv_has ls 1 [(0, .ref (ad 5))] := hl
  unfold p_end
  refine lv_aload_n hx hb d_Course_endByState_0 rfl (lv_at hl 0 rfl) ?_
  refine zw_getI X hB fl_Course_76 5 (hs 5 _ rfl) rfl d_Course_endByState_1 ?_
  refine lv_aload_n hx hb d_Course_endByState_4 rfl (lv_at hl 0 rfl) ?_
  refine zw_getR X hB fl_Course_9 5 (hs 5 _ rfl) rfl d_Course_endByState_5 ?_
  refine zw_getI X hB fl_Course_17 1 (hs 1 _ rfl) rfl d_Course_endByState_8 ?_
  refine lv_icmp_lt (tgt := 16) hx hb d_Course_endByState_11 (by decide) (fun c_11 => ?_) (fun c_11 => ?_)
  · rw [if_pos c_11]
    refine lv_aload_n hx hb d_Course_endByState_16 rfl (lv_at hl 0 rfl) ?_
    refine zw_getR X hB fl_Course_9 5 (hs 5 _ rfl) rfl d_Course_endByState_17 ?_
    refine zw_getI X hB fl_Course_119 1 (hs 1 _ rfl) rfl d_Course_endByState_20 ?_
    refine lv_iconst (v := (-1)) hx hb d_Course_endByState_23 (by decide) ?_
    refine lv_icmp_eq (tgt := 43) hx hb d_Course_endByState_24 (by decide) (fun c_24 => ?_) (fun c_24 => ?_)
    · rw [if_pos c_24]
      refine lv_aload_n hx hb d_Course_endByState_43 rfl (lv_at hl 0 rfl) ?_
      refine zw_getR X hB fl_Course_33 5 (hs 5 _ rfl) rfl d_Course_endByState_44 ?_
      refine zw_getI X hB fl_Course_125 6 (hs 6 _ rfl) rfl d_Course_endByState_47 ?_
      refine lv_if_ne (tgt := 55) hx hb d_Course_endByState_50 (by decide) (fun c_50 => ?_) (fun c_50 => ?_)
      · rw [if_neg c_50]
        refine lv_aload_n hx hb d_Course_endByState_55 rfl (lv_at hl 0 rfl) ?_
        refine zw_callVr X hB mv_Course_128 5 (hs 5 _ rfl) rfl (c_Course_isStuck hn hs z mi ml hI) rfl hl.1 ⟨Nat.le_of_ble_eq_true rfl, Nat.le_of_ble_eq_true rfl⟩ rfl (Nat.le_of_ble_eq_true rfl) ⟨Nat.le_of_ble_eq_true rfl, Nat.le_of_ble_eq_true rfl⟩ d_Course_endByState_56 (fun H locs hB => ?_)
        refine lv_if_eq (tgt := 67) hx hb d_Course_endByState_59 (by decide) (fun c_59 => ?_) (fun c_59 => ?_)
        · rw [if_pos c_59]
          refine lv_iconst (v := 2) hx hb d_Course_endByState_67 (by decide) ?_
          exact zc_iret X hr hlocks hB (by rfl) (by rfl) (by rfl) d_Course_endByState_68
        · rw [if_neg c_59]
          refine lv_bipush (v := (-2)) hx hb d_Course_endByState_62 (by decide) ?_
          refine lv_goto (tgt := 68) hx hb d_Course_endByState_64 (by decide) ?_
          exact zc_iret X hr hlocks hB (by rfl) (by rfl) (by rfl) d_Course_endByState_68
      · rw [if_pos c_50]
        refine lv_iconst (v := (-1)) hx hb d_Course_endByState_53 (by decide) ?_
        exact zc_iret X hr hlocks hB (by rfl) (by rfl) (by rfl) d_Course_endByState_54
    · rw [if_neg c_24]
      refine lv_aload_n hx hb d_Course_endByState_27 rfl (lv_at hl 0 rfl) ?_
      refine lv_aload_n hx hb d_Course_endByState_28 rfl (lv_at hl 0 rfl) ?_
      refine zw_getR X hB fl_Course_9 5 (hs 5 _ rfl) rfl d_Course_endByState_29 ?_
      refine zw_getI X hB fl_Course_119 1 (hs 1 _ rfl) rfl d_Course_endByState_32 ?_
      refine zw_callVr X hB mv_Course_122 5 (hs 5 _ rfl) rfl (c_Course_isFinished hn hs z mi ml (mi 1 7) (hI.1.2.2.2.1.elim (fun e => absurd e c_24) id)) rfl hl.1 ⟨Nat.le_of_ble_eq_true rfl, Nat.le_of_ble_eq_true rfl⟩ rfl (Nat.le_of_ble_eq_true rfl) ⟨Nat.le_of_ble_eq_true rfl, Nat.le_of_ble_eq_true rfl⟩ d_Course_endByState_35 (fun H locs hB => ?_)
      refine lv_if_eq (tgt := 43) hx hb d_Course_endByState_38 (by decide) (fun c_38 => ?_) (fun c_38 => ?_)
      · rw [if_pos c_38]
        refine lv_aload_n hx hb d_Course_endByState_43 rfl (lv_at hl 0 rfl) ?_
        refine zw_getR X hB fl_Course_33 5 (hs 5 _ rfl) rfl d_Course_endByState_44 ?_
        refine zw_getI X hB fl_Course_125 6 (hs 6 _ rfl) rfl d_Course_endByState_47 ?_
        refine lv_if_ne (tgt := 55) hx hb d_Course_endByState_50 (by decide) (fun c_50 => ?_) (fun c_50 => ?_)
        · rw [if_neg c_50]
          refine lv_aload_n hx hb d_Course_endByState_55 rfl (lv_at hl 0 rfl) ?_
          refine zw_callVr X hB mv_Course_128 5 (hs 5 _ rfl) rfl (c_Course_isStuck hn hs z mi ml hI) rfl hl.1 ⟨Nat.le_of_ble_eq_true rfl, Nat.le_of_ble_eq_true rfl⟩ rfl (Nat.le_of_ble_eq_true rfl) ⟨Nat.le_of_ble_eq_true rfl, Nat.le_of_ble_eq_true rfl⟩ d_Course_endByState_56 (fun H locs hB => ?_)
          refine lv_if_eq (tgt := 67) hx hb d_Course_endByState_59 (by decide) (fun c_59 => ?_) (fun c_59 => ?_)
          · rw [if_pos c_59]
            refine lv_iconst (v := 2) hx hb d_Course_endByState_67 (by decide) ?_
            exact zc_iret X hr hlocks hB (by rfl) (by rfl) (by rfl) d_Course_endByState_68
          · rw [if_neg c_59]
            refine lv_bipush (v := (-2)) hx hb d_Course_endByState_62 (by decide) ?_
            refine lv_goto (tgt := 68) hx hb d_Course_endByState_64 (by decide) ?_
            exact zc_iret X hr hlocks hB (by rfl) (by rfl) (by rfl) d_Course_endByState_68
        · rw [if_pos c_50]
          refine lv_iconst (v := (-1)) hx hb d_Course_endByState_53 (by decide) ?_
          exact zc_iret X hr hlocks hB (by rfl) (by rfl) (by rfl) d_Course_endByState_54
      · rw [if_neg c_38]
        refine lv_iconst (v := 1) hx hb d_Course_endByState_41 (by decide) ?_
        exact zc_iret X hr hlocks hB (by rfl) (by rfl) (by rfl) d_Course_endByState_42
  · rw [if_neg c_11]
    refine lv_iconst (v := 0) hx hb d_Course_endByState_14 (by decide) ?_
    exact zc_iret X hr hlocks hB (by rfl) (by rfl) (by rfl) d_Course_endByState_15

set_option maxHeartbeats 4000000 in
set_option maxRecDepth 100000 in
theorem c_Course_take {l : Launch} {D : va_G} {cA : Nat → ClassId} {ad : Nat → Nat} {sh : zw_Sh} {n : Nat} (hn : n ≤ 16) (hs : ∀ (k : Nat) (q : zw_Sp), shX n k = some q → sh k = some q) (z : Nat) (mi : zw_I) (ml : zw_L) (wk : Int32) (hI : zi n mi) (hw : vp_in wk 16) :
    zc_M l D cA Y_Course_take 2 0 0 ad sh sh z [.ref (ad 5), .int wk] mi ml (some (.int ((p_take n wk mi).1))) ((p_take n wk mi).2) ml z := by
  refine zc_enter (own := R_Course) (by decide) rfl (Nat.le_of_ble_eq_true rfl) ?_
  intro p e s m below meth c X hr hlocks hnm hB ls hl
  have X : zw_C D cA R_Course prog_2_method_10_code 3 p m c s := X
  have hr : meth.sig.returnType = (some FieldType.boolean) := hr
  have hx := X.1
  have hb := X.2.1
  have hl : lv_has ls 3 [(0, .ref (ad 5)), (1, .int wk)] := hl
  unfold p_take
  refine lv_aload_n hx hb d_Course_take_0 rfl (lv_at hl 0 rfl) ?_
  refine zw_callVr X hB mv_Course_138 5 (hs 5 _ rfl) rfl (c_Course_canTake hn hs z mi ml hI) rfl hl.1 ⟨Nat.le_of_ble_eq_true rfl, Nat.le_of_ble_eq_true rfl⟩ rfl (Nat.le_of_ble_eq_true rfl) ⟨Nat.le_of_ble_eq_true rfl, Nat.le_of_ble_eq_true rfl⟩ d_Course_take_1 (fun H locs hB => ?_)
  refine lv_if_ne (tgt := 19) hx hb d_Course_take_4 (by decide) (fun c_4 => ?_) (fun c_4 => ?_)
  · rw [if_neg c_4]
    have hf : vp_in (p_first mi) n := zi_firstN hI (fun e => c_4 (by rw [p_canTake, if_pos e]))
    refine lv_aload_n hx hb d_Course_take_19 rfl (lv_at hl 0 rfl) ?_
    refine zw_getR X hB fl_Course_26 5 (hs 5 _ rfl) rfl d_Course_take_20 ?_
    refine zw_callVr X hB mv_Course_145 4 (hs 4 _ rfl) rfl (c_Line_first hn hs z mi ml hI.2.2.2.1.1) rfl hl.1 ⟨Nat.le_of_ble_eq_true rfl, Nat.le_of_ble_eq_true rfl⟩ rfl (Nat.le_of_ble_eq_true rfl) ⟨Nat.le_of_ble_eq_true rfl, Nat.le_of_ble_eq_true rfl⟩ d_Course_take_23 (fun H locs hB => ?_)
    refine lv_istore_n (lv' := [(2, .int (p_first mi)), (0, .ref (ad 5)), (1, .int wk)]) hx hb d_Course_take_26 rfl hl (by decide) rfl (fun ls hl => ?_)
    refine lv_aload_n hx hb d_Course_take_27 rfl (lv_at hl 1 rfl) ?_
    refine zw_getR X hB fl_Course_26 5 (hs 5 _ rfl) rfl d_Course_take_28 ?_
    refine zw_callVv X hB mv_Course_178 4 (hs 4 _ rfl) rfl (c_Line_dropFirst hn hs z mi ml) rfl hl.1 ⟨Nat.le_of_ble_eq_true rfl, Nat.le_of_ble_eq_true rfl⟩ rfl (Nat.le_of_ble_eq_true rfl) ⟨Nat.le_of_ble_eq_true rfl, Nat.le_of_ble_eq_true rfl⟩ d_Course_take_31 (fun H locs hB => ?_)
    obtain ⟨mi_1, emi_1⟩ : ∃ y, y = p_drop n mi := ⟨_, rfl⟩
    rw [← emi_1] at hB
    refine lv_aload_n hx hb d_Course_take_34 rfl (lv_at hl 1 rfl) ?_
    refine zw_getR X hB fl_Course_33 5 (hs 5 _ rfl) rfl d_Course_take_35 ?_
    refine zw_getR X hB fl_Course_132 6 (hs 6 _ rfl) rfl d_Course_take_38 ?_
    refine lv_iload_n hx hb d_Course_take_41 rfl (lv_at hl 2 rfl) ?_
    refine lv_iload_n hx hb d_Course_take_42 rfl (lv_at hl 0 rfl) ?_
    refine zw_iast X hB 29 (hs 29 _ rfl) hw d_Course_take_43 (fun H locs hB => ?_)
    obtain ⟨mi_2, emi_2⟩ : ∃ y, y = zw_up mi_1 29 wk.toNatClampNeg (p_first mi) := ⟨_, rfl⟩
    rw [← emi_2] at hB
    refine lv_aload_n hx hb d_Course_take_44 rfl (lv_at hl 1 rfl) ?_
    refine zw_getR X hB fl_Course_46 5 (hs 5 _ rfl) rfl d_Course_take_45 ?_
    refine lv_iload_n hx hb d_Course_take_48 rfl (lv_at hl 0 rfl) ?_
    refine lv_dup2_11 hx hb d_Course_take_49 rfl rfl ?_
    refine zw_iald X hB 25 (hs 25 _ rfl) hf d_Course_take_50 ?_
    refine lv_iconst (v := 1) hx hb d_Course_take_51 (by decide) ?_
    refine lv_iadd hx hb d_Course_take_52 ?_
    refine zw_iast X hB 25 (hs 25 _ rfl) hf d_Course_take_53 (fun H locs hB => ?_)
    obtain ⟨mi_3, emi_3⟩ : ∃ y, y = zw_up mi_2 25 (p_first mi).toNatClampNeg ((mi_2 25 (p_first mi).toNatClampNeg) + 1) := ⟨_, rfl⟩
    rw [← emi_3] at hB
    refine lv_aload_n hx hb d_Course_take_54 rfl (lv_at hl 1 rfl) ?_
    refine lv_dup hx hb d_Course_take_55 rfl ?_
    refine zw_getI X hB fl_Course_79 5 (hs 5 _ rfl) rfl d_Course_take_56 ?_
    refine lv_aload_n hx hb d_Course_take_59 rfl (lv_at hl 1 rfl) ?_
    refine zw_getR X hB fl_Course_9 5 (hs 5 _ rfl) rfl d_Course_take_60 ?_
    refine zw_getR X hB fl_Course_148 1 (hs 1 _ rfl) rfl d_Course_take_63 ?_
    refine lv_iload_n hx hb d_Course_take_66 rfl (lv_at hl 0 rfl) ?_
    refine zw_iald X hB 8 (hs 8 _ rfl) hf d_Course_take_67 ?_
    refine lv_iadd hx hb d_Course_take_68 ?_
    refine zw_putI X hB fp_Course_79 (fun h => by cases h) 5 (hs 5 _ rfl) rfl d_Course_take_69 (fun H locs hB => ?_)
    obtain ⟨mi_4, emi_4⟩ : ∃ y, y = zw_up mi_3 5 9 ((mi_3 5 9) + (mi_3 8 (p_first mi).toNatClampNeg)) := ⟨_, rfl⟩
    rw [← emi_4] at hB
    refine lv_aload_n hx hb d_Course_take_72 rfl (lv_at hl 1 rfl) ?_
    refine lv_aload_n hx hb d_Course_take_73 rfl (lv_at hl 1 rfl) ?_
    refine zw_getI X hB fl_Course_82 5 (hs 5 _ rfl) rfl d_Course_take_74 ?_
    refine lv_aload_n hx hb d_Course_take_77 rfl (lv_at hl 1 rfl) ?_
    refine zw_getI X hB fl_Course_79 5 (hs 5 _ rfl) rfl d_Course_take_78 ?_
    refine va_mmax hx hb (X.2.2.1.trans hl.1.symm) X.2.2.2.1 (X.2.2.2.2.ts _ km_Course_181) (X.2.2.2.2.ts _ km_max_st) (X.2.2.2.2.ts _ km_math_in) (X.2.2.2.2.ts _ km_max_co) (Nat.le_of_ble_eq_true rfl) (Nat.le_of_ble_eq_true rfl) (Nat.le_of_ble_eq_true rfl) (Nat.le_of_ble_eq_true rfl) d_Course_take_81 ?_
    refine zw_putI X hB fp_Course_82 (fun h => by cases h) 5 (hs 5 _ rfl) rfl d_Course_take_84 (fun H locs hB => ?_)
    obtain ⟨mi_5, emi_5⟩ : ∃ y, y = zw_up mi_4 5 10 (if (mi_4 5 10) < (mi_4 5 9) then (mi_4 5 9) else (mi_4 5 10)) := ⟨_, rfl⟩
    rw [← emi_5] at hB
    refine lv_iconst (v := 1) hx hb d_Course_take_87 (by decide) ?_
    exact zc_zret X hr hlocks hB (by rfl) (by subst emi_5; subst emi_4; subst emi_3; subst emi_2; subst emi_1; rfl) (by subst emi_5; subst emi_4; subst emi_3; subst emi_2; subst emi_1; rfl) (by subst emi_5; subst emi_4; subst emi_3; subst emi_2; subst emi_1; rfl) d_Course_take_88
  · rw [if_pos c_4]
    refine lv_aload_n hx hb d_Course_take_7 rfl (lv_at hl 0 rfl) ?_
    refine lv_dup hx hb d_Course_take_8 rfl ?_
    refine zw_getI X hB fl_Course_88 5 (hs 5 _ rfl) rfl d_Course_take_9 ?_
    refine lv_iconst (v := 1) hx hb d_Course_take_12 (by decide) ?_
    refine lv_iadd hx hb d_Course_take_13 ?_
    refine zw_putI X hB fp_Course_88 (fun h => by cases h) 5 (hs 5 _ rfl) rfl d_Course_take_14 (fun H locs hB => ?_)
    obtain ⟨mi_6, emi_6⟩ : ∃ y, y = zw_up mi 5 12 ((mi 5 12) + 1) := ⟨_, rfl⟩
    rw [← emi_6] at hB
    refine lv_iconst (v := 0) hx hb d_Course_take_17 (by decide) ?_
    exact zc_zret X hr hlocks hB (by rfl) (by subst emi_6; rfl) (by subst emi_6; rfl) (by subst emi_6; rfl) d_Course_take_18

set_option maxHeartbeats 4000000 in
set_option maxRecDepth 100000 in
theorem c_Course_fail {l : Launch} {D : va_G} {cA : Nat → ClassId} {ad : Nat → Nat} {sh : zw_Sh} {n : Nat} (hn : n ≤ 16) (hs : ∀ (k : Nat) (q : zw_Sp), shX n k = some q → sh k = some q) (z : Nat) (mi : zw_I) (ml : zw_L) (wk : Int32) (x : Int32) (hI : zi n mi) (hx1 : vp_in x n) (ha : ¬ nI n ≤ (p_fail1 wk x mi) 4 2 → vp_in (p_wrapped n ((p_fail1 wk x mi) 4 1 + (p_fail1 wk x mi) 4 2)) n) :
    zc_M l D cA Y_Course_fail 2 0 0 ad sh sh z [.ref (ad 5), .int wk, .int x] mi ml none (p_fail n wk x mi) ml z := by
  refine zc_enter (own := R_Course) (by decide) rfl (Nat.le_of_ble_eq_true rfl) ?_
  intro p e s m below meth c X hr hlocks hnm hB ls hl
  have X : zw_C D cA R_Course prog_2_method_11_code 3 p m c s := X
  have hr : meth.sig.returnType = none := hr
  have hx := X.1
  have hb := X.2.1
  have hl : lv_has ls 3 [(0, .ref (ad 5)), (1, .int wk), (2, .int x)] := hl
  obtain ⟨w, hw, ew⟩ := hI.2.2.2.2.1
  refine lv_aload_n hx hb d_Course_fail_0 rfl (lv_at hl 0 rfl) ?_
  refine zw_getR X hB fl_Course_33 5 (hs 5 _ rfl) rfl d_Course_fail_1 ?_
  refine lv_iload_n hx hb d_Course_fail_4 rfl (lv_at hl 1 rfl) ?_
  refine zw_callVv X hB mv_Course_187 6 (hs 6 _ rfl) rfl (c_Crew_lose hn hs z mi ml wk w hw ew) rfl hl.1 ⟨Nat.le_of_ble_eq_true rfl, Nat.le_of_ble_eq_true rfl⟩ rfl (Nat.le_of_ble_eq_true rfl) ⟨Nat.le_of_ble_eq_true rfl, Nat.le_of_ble_eq_true rfl⟩ d_Course_fail_5 (fun H locs hB => ?_)
  obtain ⟨mi_1, emi_1⟩ : ∃ y, y = p_lose wk 17 0 0 mi := ⟨_, rfl⟩
  rw [← emi_1] at hB
  refine lv_aload_n hx hb d_Course_fail_8 rfl (lv_at hl 0 rfl) ?_
  refine zw_getR X hB fl_Course_37 5 (hs 5 _ rfl) rfl d_Course_fail_9 ?_
  refine lv_iload_n hx hb d_Course_fail_12 rfl (lv_at hl 2 rfl) ?_
  refine lv_iconst (v := 0) hx hb d_Course_fail_13 (by decide) ?_
  refine zw_iast X hB 23 (hs 23 _ rfl) hx1 d_Course_fail_14 (fun H locs hB => ?_)
  obtain ⟨mi_2, emi_2⟩ : ∃ y, y = zw_up mi_1 23 x.toNatClampNeg 0 := ⟨_, rfl⟩
  rw [← emi_2] at hB
  refine lv_aload_n hx hb d_Course_fail_15 rfl (lv_at hl 0 rfl) ?_
  refine lv_dup hx hb d_Course_fail_16 rfl ?_
  refine zw_getI X hB fl_Course_79 5 (hs 5 _ rfl) rfl d_Course_fail_17 ?_
  refine lv_aload_n hx hb d_Course_fail_20 rfl (lv_at hl 0 rfl) ?_
  refine zw_getR X hB fl_Course_9 5 (hs 5 _ rfl) rfl d_Course_fail_21 ?_
  refine zw_getR X hB fl_Course_148 1 (hs 1 _ rfl) rfl d_Course_fail_24 ?_
  refine lv_iload_n hx hb d_Course_fail_27 rfl (lv_at hl 2 rfl) ?_
  refine zw_iald X hB 8 (hs 8 _ rfl) hx1 d_Course_fail_28 ?_
  refine lv_isub hx hb d_Course_fail_29 ?_
  refine zw_putI X hB fp_Course_79 (fun h => by cases h) 5 (hs 5 _ rfl) rfl d_Course_fail_30 (fun H locs hB => ?_)
  obtain ⟨mi_3, emi_3⟩ : ∃ y, y = zw_up mi_2 5 9 ((mi_2 5 9) - (mi_2 8 x.toNatClampNeg)) := ⟨_, rfl⟩
  rw [← emi_3] at hB
  refine lv_aload_n hx hb d_Course_fail_33 rfl (lv_at hl 0 rfl) ?_
  refine zw_getR X hB fl_Course_26 5 (hs 5 _ rfl) rfl d_Course_fail_34 ?_
  refine lv_iload_n hx hb d_Course_fail_37 rfl (lv_at hl 2 rfl) ?_
  refine zw_callVv X hB mv_Course_190 4 (hs 4 _ rfl) rfl (c_Line_append hn hs z mi_3 ml x (by subst_vars; simpa [p_fail1, zw_up] using ha)) rfl hl.1 ⟨Nat.le_of_ble_eq_true rfl, Nat.le_of_ble_eq_true rfl⟩ rfl (Nat.le_of_ble_eq_true rfl) ⟨Nat.le_of_ble_eq_true rfl, Nat.le_of_ble_eq_true rfl⟩ d_Course_fail_38 (fun H locs hB => ?_)
  obtain ⟨mi_4, emi_4⟩ : ∃ y, y = p_append n mi_3 x := ⟨_, rfl⟩
  rw [← emi_4] at hB
  exact zc_vret X hr hlocks hB (by subst emi_4; subst emi_3; subst emi_2; subst emi_1; rfl) (by subst emi_4; subst emi_3; subst emi_2; subst emi_1; rfl) (by subst emi_4; subst emi_3; subst emi_2; subst emi_1; rfl) d_Course_fail_41

set_option maxHeartbeats 4000000 in
set_option maxRecDepth 100000 in
theorem c_Course_doStep {l : Launch} {D : va_G} {cA : Nat → ClassId} {ad : Nat → Nat} {sh : zw_Sh} {n : Nat} (hn : n ≤ 16) (hs : ∀ (k : Nat) (q : zw_Sp), shX n k = some q → sh k = some q) (z : Nat) (mi : zw_I) (ml : zw_L) (wk : Int32) (x : Int32) (hI : zi n mi) (hw : vp_in wk 16) (hx1 : vp_in x n) (hd0 : vp_in (mi 23 x.toNatClampNeg) 21) (hd1 : vp_in (mi 23 x.toNatClampNeg + 1) 21) (hf : ¬ p_isFin (p_step1 x mi) x = 0 → vp_in (mi 5 8) n) :
    zc_M l D cA Y_Course_doStep 1 0 0 ad sh sh z [.ref (ad 5), .int wk, .int x] mi ml none (p_step wk x mi) (p_stepL mi ml x) z := by
  refine zc_enter (own := R_Course) (by decide) rfl (Nat.le_of_ble_eq_true rfl) ?_
  intro p e s m below meth c X hr hlocks hnm hB ls hl
  have X : zw_C D cA R_Course prog_2_method_12_code 6 p m c s := X
  have hr : meth.sig.returnType = none := hr
  have hx := X.1
  have hb := X.2.1
  have hl : lv_has ls 6 [(0, .ref (ad 5)), (1, .int wk), (2, .int x)] := hl
  obtain ⟨⟨w, hw6, ew⟩, hom⟩ := hI.2.1 _ (vlt hx1)
  unfold p_step p_stepB
  refine lv_aload_n hx hb d_Course_doStep_0 rfl (lv_at hl 0 rfl) ?_
  refine zw_getR X hB fl_Course_37 5 (hs 5 _ rfl) rfl d_Course_doStep_1 ?_
  refine lv_iload_n hx hb d_Course_doStep_4 rfl (lv_at hl 2 rfl) ?_
  refine zw_iald X hB 23 (hs 23 _ rfl) hx1 d_Course_doStep_5 ?_
  refine lv_istore_n (lv' := [(3, .int (mi 23 x.toNatClampNeg)), (0, .ref (ad 5)), (1, .int wk), (2, .int x)]) hx hb d_Course_doStep_6 rfl hl (by decide) rfl (fun ls hl => ?_)
  refine lv_aload_n hx hb d_Course_doStep_7 rfl (lv_at hl 1 rfl) ?_
  refine zw_getR X hB fl_Course_43 5 (hs 5 _ rfl) rfl d_Course_doStep_8 ?_
  refine lv_iload_n hx hb d_Course_doStep_11 rfl (lv_at hl 3 rfl) ?_
  refine zw_aald X hB 24 (Or.inr rfl) (hs 24 _ rfl) hx1 d_Course_doStep_12 ?_
  refine lv_iload_n hx hb d_Course_doStep_13 rfl (lv_at hl 0 rfl) ?_
  refine zw_lald X hB (112 + x.toNatClampNeg) (hs _ _ (shr3 hn (vlt hx1))) hd0 d_Course_doStep_14 ?_
  refine lv_ldc2 (v := 6364136223846793005) hx hb X.2.2.2.1 (X.2.2.2.2.ts _ kc_Course_104) d_Course_doStep_15 ?_
  refine lv_lmul hx hb d_Course_doStep_18 ?_
  refine lv_iload_n hx hb d_Course_doStep_19 rfl (lv_at hl 0 rfl) ?_
  refine lv_i2l (v := (mi 23 x.toNatClampNeg).toInt64) hx hb d_Course_doStep_20 rfl ?_
  refine lv_ladd hx hb d_Course_doStep_21 ?_
  refine lv_lconst (v := 1) hx hb d_Course_doStep_22 (by decide) ?_
  refine lv_ladd hx hb d_Course_doStep_23 ?_
  refine lv_aload_n hx hb d_Course_doStep_24 rfl (lv_at hl 1 rfl) ?_
  refine zw_getR X hB fl_Course_9 5 (hs 5 _ rfl) rfl d_Course_doStep_25 ?_
  refine zw_getR X hB fl_Course_154 1 (hs 1 _ rfl) rfl d_Course_doStep_28 ?_
  refine lv_iload_n hx hb d_Course_doStep_31 rfl (lv_at hl 3 rfl) ?_
  refine lv_iload_n hx hb d_Course_doStep_32 rfl (lv_at hl 0 rfl) ?_
  refine lv_aload_n hx hb d_Course_doStep_33 rfl (lv_at hl 1 rfl) ?_
  refine zw_getR X hB fl_Course_43 5 (hs 5 _ rfl) rfl d_Course_doStep_34 ?_
  refine zw_callVr X hB mv_Course_193 2 (hs 2 _ rfl) rfl (c_Needs_sumOfValues hn hs z mi ml x (mi 23 x.toNatClampNeg) hx1 w hw6 ew (fun k hk => (hom k hk).1) (fun k hk => (hom k hk).2)) rfl hl.1 ⟨Nat.le_of_ble_eq_true rfl, Nat.le_of_ble_eq_true rfl⟩ rfl (Nat.le_of_ble_eq_true rfl) ⟨Nat.le_of_ble_eq_true rfl, Nat.le_of_ble_eq_true rfl⟩ d_Course_doStep_37 (fun H locs hB => ?_)
  refine lv_ladd hx hb d_Course_doStep_40 ?_
  refine lv_lstore (lv' := [(4, .long (((((ml (112 + x.toNatClampNeg) (mi 23 x.toNatClampNeg).toNatClampNeg) * 6364136223846793005) + ((mi 23 x.toNatClampNeg).toInt64)) + 1) + (p_sum mi ml x (mi 23 x.toNatClampNeg) 7 0 0))), (3, .int (mi 23 x.toNatClampNeg)), (0, .ref (ad 5)), (1, .int wk), (2, .int x)]) hx hb d_Course_doStep_41 hl (by decide) rfl (fun ls hl => ?_)
  refine lv_aload_n hx hb d_Course_doStep_43 rfl (lv_at hl 2 rfl) ?_
  refine zw_getR X hB fl_Course_43 5 (hs 5 _ rfl) rfl d_Course_doStep_44 ?_
  refine lv_iload_n hx hb d_Course_doStep_47 rfl (lv_at hl 4 rfl) ?_
  refine zw_aald X hB 24 (Or.inr rfl) (hs 24 _ rfl) hx1 d_Course_doStep_48 ?_
  refine lv_iload_n hx hb d_Course_doStep_49 rfl (lv_at hl 1 rfl) ?_
  refine lv_iconst (v := 1) hx hb d_Course_doStep_50 (by decide) ?_
  refine lv_iadd hx hb d_Course_doStep_51 ?_
  refine lv_lload hx hb d_Course_doStep_52 (lv_at hl 0 rfl) ?_
  refine lv_lload hx hb d_Course_doStep_54 (lv_at hl 0 rfl) ?_
  refine lv_bipush (v := 29) hx hb d_Course_doStep_56 (by decide) ?_
  refine lv_lushr (v := ((((((ml (112 + x.toNatClampNeg) (mi 23 x.toNatClampNeg).toNatClampNeg) * 6364136223846793005) + ((mi 23 x.toNatClampNeg).toInt64)) + 1) + (p_sum mi ml x (mi 23 x.toNatClampNeg) 7 0 0)).toUInt64 >>> ((29 : Int32).toInt64.toUInt64 &&& Int64.toUInt64 63)).toInt64) hx hb d_Course_doStep_58 rfl ?_
  refine lv_lxor hx hb d_Course_doStep_59 ?_
  refine zw_last X hB (112 + x.toNatClampNeg) (hs _ _ (shr3 hn (vlt hx1))) hd1 d_Course_doStep_60 (fun H locs hB => ?_)
  obtain ⟨ml_1, eml_1⟩ : ∃ y, y = zw_up ml (112 + x.toNatClampNeg) ((mi 23 x.toNatClampNeg) + 1).toNatClampNeg ((((((ml (112 + x.toNatClampNeg) (mi 23 x.toNatClampNeg).toNatClampNeg) * 6364136223846793005) + ((mi 23 x.toNatClampNeg).toInt64)) + 1) + (p_sum mi ml x (mi 23 x.toNatClampNeg) 7 0 0)) ^^^ (((((((ml (112 + x.toNatClampNeg) (mi 23 x.toNatClampNeg).toNatClampNeg) * 6364136223846793005) + ((mi 23 x.toNatClampNeg).toInt64)) + 1) + (p_sum mi ml x (mi 23 x.toNatClampNeg) 7 0 0)).toUInt64 >>> ((29 : Int32).toInt64.toUInt64 &&& Int64.toUInt64 63)).toInt64)) := ⟨_, rfl⟩
  rw [← eml_1] at hB
  refine lv_aload_n hx hb d_Course_doStep_61 rfl (lv_at hl 2 rfl) ?_
  refine zw_getR X hB fl_Course_37 5 (hs 5 _ rfl) rfl d_Course_doStep_62 ?_
  refine lv_iload_n hx hb d_Course_doStep_65 rfl (lv_at hl 4 rfl) ?_
  refine lv_iload_n hx hb d_Course_doStep_66 rfl (lv_at hl 1 rfl) ?_
  refine lv_iconst (v := 1) hx hb d_Course_doStep_67 (by decide) ?_
  refine lv_iadd hx hb d_Course_doStep_68 ?_
  refine zw_iast X hB 23 (hs 23 _ rfl) hx1 d_Course_doStep_69 (fun H locs hB => ?_)
  refine lv_aload_n hx hb d_Course_doStep_70 rfl (lv_at hl 2 rfl) ?_
  refine lv_dup hx hb d_Course_doStep_71 rfl ?_
  refine zw_getI X hB fl_Course_94 5 (hs 5 _ rfl) rfl d_Course_doStep_72 ?_
  refine lv_iconst (v := 1) hx hb d_Course_doStep_75 (by decide) ?_
  refine lv_iadd hx hb d_Course_doStep_76 ?_
  refine zw_putI X hB fp_Course_94 (fun h => by cases h) 5 (hs 5 _ rfl) rfl d_Course_doStep_77 (fun H locs hB => ?_)
  have hB : zw_B D cA ad sh (zw_A ad sh z) s.heap (p_step1 x mi) ml_1 z H locs := hB
  refine lv_aload_n hx hb d_Course_doStep_80 rfl (lv_at hl 2 rfl) ?_
  refine lv_iload_n hx hb d_Course_doStep_81 rfl (lv_at hl 4 rfl) ?_
  refine zw_callVr X hB mv_Course_122 5 (hs 5 _ rfl) rfl (c_Course_isFinished hn hs z (p_step1 x mi) ml_1 x hx1) rfl hl.1 ⟨Nat.le_of_ble_eq_true rfl, Nat.le_of_ble_eq_true rfl⟩ rfl (Nat.le_of_ble_eq_true rfl) ⟨Nat.le_of_ble_eq_true rfl, Nat.le_of_ble_eq_true rfl⟩ d_Course_doStep_82 (fun H locs hB => ?_)
  refine lv_if_eq (tgt := 136) hx hb d_Course_doStep_85 (by decide) (fun c_85 => ?_) (fun c_85 => ?_)
  · rw [if_pos c_85]
    exact zc_vret X hr hlocks hB (by subst eml_1; rfl) (by subst eml_1; rfl) (by subst eml_1; rfl) d_Course_doStep_136
  · rw [if_neg c_85]
    refine lv_aload_n hx hb d_Course_doStep_88 rfl (lv_at hl 2 rfl) ?_
    refine zw_getR X hB fl_Course_33 5 (hs 5 _ rfl) rfl d_Course_doStep_89 ?_
    refine zw_getR X hB fl_Course_132 6 (hs 6 _ rfl) rfl d_Course_doStep_92 ?_
    refine lv_iload_n hx hb d_Course_doStep_95 rfl (lv_at hl 3 rfl) ?_
    refine lv_iconst (v := (-1)) hx hb d_Course_doStep_96 (by decide) ?_
    refine zw_iast X hB 29 (hs 29 _ rfl) hw d_Course_doStep_97 (fun H locs hB => ?_)
    obtain ⟨mi_2, emi_2⟩ : ∃ y, y = zw_up (p_step1 x mi) 29 wk.toNatClampNeg (-1) := ⟨_, rfl⟩
    rw [← emi_2] at hB
    refine lv_aload_n hx hb d_Course_doStep_98 rfl (lv_at hl 2 rfl) ?_
    refine lv_dup hx hb d_Course_doStep_99 rfl ?_
    refine zw_getI X hB fl_Course_79 5 (hs 5 _ rfl) rfl d_Course_doStep_100 ?_
    refine lv_aload_n hx hb d_Course_doStep_103 rfl (lv_at hl 2 rfl) ?_
    refine zw_getR X hB fl_Course_9 5 (hs 5 _ rfl) rfl d_Course_doStep_104 ?_
    refine zw_getR X hB fl_Course_148 1 (hs 1 _ rfl) rfl d_Course_doStep_107 ?_
    refine lv_iload_n hx hb d_Course_doStep_110 rfl (lv_at hl 4 rfl) ?_
    refine zw_iald X hB 8 (hs 8 _ rfl) hx1 d_Course_doStep_111 ?_
    refine lv_isub hx hb d_Course_doStep_112 ?_
    refine zw_putI X hB fp_Course_79 (fun h => by cases h) 5 (hs 5 _ rfl) rfl d_Course_doStep_113 (fun H locs hB => ?_)
    obtain ⟨mi_3, emi_3⟩ : ∃ y, y = zw_up mi_2 5 9 ((mi_2 5 9) - (mi_2 8 x.toNatClampNeg)) := ⟨_, rfl⟩
    rw [← emi_3] at hB
    refine lv_aload_n hx hb d_Course_doStep_116 rfl (lv_at hl 2 rfl) ?_
    refine zw_getR X hB fl_Course_54 5 (hs 5 _ rfl) rfl d_Course_doStep_117 ?_
    refine lv_aload_n hx hb d_Course_doStep_120 rfl (lv_at hl 2 rfl) ?_
    refine zw_getI X hB fl_Course_76 5 (hs 5 _ rfl) rfl d_Course_doStep_121 ?_
    refine lv_iload_n hx hb d_Course_doStep_124 rfl (lv_at hl 4 rfl) ?_
    refine zw_iast X hB 27 (hs 27 _ rfl) (by subst_vars; simpa [zw_up, p_step1, p_step2] using hf c_85) d_Course_doStep_125 (fun H locs hB => ?_)
    obtain ⟨mi_4, emi_4⟩ : ∃ y, y = zw_up mi_3 27 (mi_3 5 8).toNatClampNeg x := ⟨_, rfl⟩
    rw [← emi_4] at hB
    refine lv_aload_n hx hb d_Course_doStep_126 rfl (lv_at hl 2 rfl) ?_
    refine lv_dup hx hb d_Course_doStep_127 rfl ?_
    refine zw_getI X hB fl_Course_76 5 (hs 5 _ rfl) rfl d_Course_doStep_128 ?_
    refine lv_iconst (v := 1) hx hb d_Course_doStep_131 (by decide) ?_
    refine lv_iadd hx hb d_Course_doStep_132 ?_
    refine zw_putI X hB fp_Course_76 (fun h => by cases h) 5 (hs 5 _ rfl) rfl d_Course_doStep_133 (fun H locs hB => ?_)
    obtain ⟨mi_5, emi_5⟩ : ∃ y, y = zw_up mi_4 5 8 ((mi_4 5 8) + 1) := ⟨_, rfl⟩
    rw [← emi_5] at hB
    exact zc_vret X hr hlocks hB (by subst emi_5; subst emi_4; subst emi_3; subst emi_2; subst eml_1; rfl) (by subst emi_5; subst emi_4; subst emi_3; subst emi_2; subst eml_1; rfl) (by subst emi_5; subst emi_4; subst emi_3; subst emi_2; subst eml_1; rfl) d_Course_doStep_136
end
section
abbrev Y_Course_prepare : zc_Y := (⟨R_Course, "prepare", "(I)V"⟩, prog_2_method_2_code, 4, none)
theorem d_Course_prepare_0 : decode prog_2_method_2_code 0 = .ok (.iconst 0, 1) := by decide +kernel
theorem d_Course_prepare_1 : decode prog_2_method_2_code 1 = .ok (.istore_n 2, 1) := by decide +kernel
theorem d_Course_prepare_2 : decode prog_2_method_2_code 2 = .ok (.iload_n 2, 1) := by decide +kernel
theorem d_Course_prepare_3 : decode prog_2_method_2_code 3 = .ok (.aload_n 0, 1) := by decide +kernel
theorem d_Course_prepare_4 : decode prog_2_method_2_code 4 = .ok (.getfield 9, 3) := by decide +kernel
theorem d_Course_prepare_7 : decode prog_2_method_2_code 7 = .ok (.getfield 17, 3) := by decide +kernel
theorem d_Course_prepare_10 : decode prog_2_method_2_code 10 = .ok (.if_icmp .ge 68, 3) := by decide +kernel
theorem d_Course_prepare_13 : decode prog_2_method_2_code 13 = .ok (.aload_n 0, 1) := by decide +kernel
theorem d_Course_prepare_14 : decode prog_2_method_2_code 14 = .ok (.getfield 37, 3) := by decide +kernel
theorem d_Course_prepare_17 : decode prog_2_method_2_code 17 = .ok (.iload_n 2, 1) := by decide +kernel
theorem d_Course_prepare_18 : decode prog_2_method_2_code 18 = .ok (.iconst 0, 1) := by decide +kernel
theorem d_Course_prepare_19 : decode prog_2_method_2_code 19 = .ok (.iastore, 1) := by decide +kernel
theorem d_Course_prepare_20 : decode prog_2_method_2_code 20 = .ok (.aload_n 0, 1) := by decide +kernel
theorem d_Course_prepare_21 : decode prog_2_method_2_code 21 = .ok (.getfield 43, 3) := by decide +kernel
theorem d_Course_prepare_24 : decode prog_2_method_2_code 24 = .ok (.iload_n 2, 1) := by decide +kernel
theorem d_Course_prepare_25 : decode prog_2_method_2_code 25 = .ok (.aaload, 1) := by decide +kernel
theorem d_Course_prepare_26 : decode prog_2_method_2_code 26 = .ok (.iconst 0, 1) := by decide +kernel
theorem d_Course_prepare_27 : decode prog_2_method_2_code 27 = .ok (.aload_n 0, 1) := by decide +kernel
theorem d_Course_prepare_28 : decode prog_2_method_2_code 28 = .ok (.getfield 9, 3) := by decide +kernel
theorem d_Course_prepare_31 : decode prog_2_method_2_code 31 = .ok (.getfield 57, 3) := by decide +kernel
theorem d_Course_prepare_34 : decode prog_2_method_2_code 34 = .ok (.iload_n 2, 1) := by decide +kernel
theorem d_Course_prepare_35 : decode prog_2_method_2_code 35 = .ok (.laload, 1) := by decide +kernel
theorem d_Course_prepare_36 : decode prog_2_method_2_code 36 = .ok (.lastore, 1) := by decide +kernel
theorem d_Course_prepare_37 : decode prog_2_method_2_code 37 = .ok (.aload_n 0, 1) := by decide +kernel
theorem d_Course_prepare_38 : decode prog_2_method_2_code 38 = .ok (.getfield 46, 3) := by decide +kernel
theorem d_Course_prepare_41 : decode prog_2_method_2_code 41 = .ok (.iload_n 2, 1) := by decide +kernel
theorem d_Course_prepare_42 : decode prog_2_method_2_code 42 = .ok (.iconst 0, 1) := by decide +kernel
theorem d_Course_prepare_43 : decode prog_2_method_2_code 43 = .ok (.iastore, 1) := by decide +kernel
theorem d_Course_prepare_44 : decode prog_2_method_2_code 44 = .ok (.iconst 0, 1) := by decide +kernel
theorem d_Course_prepare_45 : decode prog_2_method_2_code 45 = .ok (.istore_n 3, 1) := by decide +kernel
theorem d_Course_prepare_46 : decode prog_2_method_2_code 46 = .ok (.iload_n 3, 1) := by decide +kernel
theorem d_Course_prepare_47 : decode prog_2_method_2_code 47 = .ok (.aload_n 0, 1) := by decide +kernel
theorem d_Course_prepare_48 : decode prog_2_method_2_code 48 = .ok (.getfield 9, 3) := by decide +kernel
theorem d_Course_prepare_51 : decode prog_2_method_2_code 51 = .ok (.getfield 17, 3) := by decide +kernel
theorem d_Course_prepare_54 : decode prog_2_method_2_code 54 = .ok (.if_icmp .ge 18, 3) := by decide +kernel
theorem d_Course_prepare_57 : decode prog_2_method_2_code 57 = .ok (.aload_n 0, 1) := by decide +kernel
theorem d_Course_prepare_58 : decode prog_2_method_2_code 58 = .ok (.getfield 51, 3) := by decide +kernel
theorem d_Course_prepare_61 : decode prog_2_method_2_code 61 = .ok (.iload_n 2, 1) := by decide +kernel
theorem d_Course_prepare_62 : decode prog_2_method_2_code 62 = .ok (.aaload, 1) := by decide +kernel
theorem d_Course_prepare_63 : decode prog_2_method_2_code 63 = .ok (.iload_n 3, 1) := by decide +kernel
theorem d_Course_prepare_64 : decode prog_2_method_2_code 64 = .ok (.iconst 0, 1) := by decide +kernel
theorem d_Course_prepare_65 : decode prog_2_method_2_code 65 = .ok (.iastore, 1) := by decide +kernel
theorem d_Course_prepare_66 : decode prog_2_method_2_code 66 = .ok (.iinc 3 1, 3) := by decide +kernel
theorem d_Course_prepare_69 : decode prog_2_method_2_code 69 = .ok (.goto (-23), 3) := by decide +kernel
theorem d_Course_prepare_72 : decode prog_2_method_2_code 72 = .ok (.iinc 2 1, 3) := by decide +kernel
theorem d_Course_prepare_75 : decode prog_2_method_2_code 75 = .ok (.goto (-73), 3) := by decide +kernel
theorem d_Course_prepare_78 : decode prog_2_method_2_code 78 = .ok (.aload_n 0, 1) := by decide +kernel
theorem d_Course_prepare_79 : decode prog_2_method_2_code 79 = .ok (.getfield 26, 3) := by decide +kernel
theorem d_Course_prepare_82 : decode prog_2_method_2_code 82 = .ok (.invokevirtual 61, 3) := by decide +kernel
theorem d_Course_prepare_85 : decode prog_2_method_2_code 85 = .ok (.aload_n 0, 1) := by decide +kernel
theorem d_Course_prepare_86 : decode prog_2_method_2_code 86 = .ok (.getfield 33, 3) := by decide +kernel
theorem d_Course_prepare_89 : decode prog_2_method_2_code 89 = .ok (.iload_n 1, 1) := by decide +kernel
theorem d_Course_prepare_90 : decode prog_2_method_2_code 90 = .ok (.invokevirtual 64, 3) := by decide +kernel
theorem d_Course_prepare_93 : decode prog_2_method_2_code 93 = .ok (.aload_n 0, 1) := by decide +kernel
theorem d_Course_prepare_94 : decode prog_2_method_2_code 94 = .ok (.getfield 9, 3) := by decide +kernel
theorem d_Course_prepare_97 : decode prog_2_method_2_code 97 = .ok (.getfield 67, 3) := by decide +kernel
theorem d_Course_prepare_100 : decode prog_2_method_2_code 100 = .ok (.invokevirtual 71, 3) := by decide +kernel
theorem d_Course_prepare_103 : decode prog_2_method_2_code 103 = .ok (.aload_n 0, 1) := by decide +kernel
theorem d_Course_prepare_104 : decode prog_2_method_2_code 104 = .ok (.iconst 0, 1) := by decide +kernel
theorem d_Course_prepare_105 : decode prog_2_method_2_code 105 = .ok (.putfield 76, 3) := by decide +kernel
theorem d_Course_prepare_108 : decode prog_2_method_2_code 108 = .ok (.aload_n 0, 1) := by decide +kernel
theorem d_Course_prepare_109 : decode prog_2_method_2_code 109 = .ok (.iconst 0, 1) := by decide +kernel
theorem d_Course_prepare_110 : decode prog_2_method_2_code 110 = .ok (.putfield 79, 3) := by decide +kernel
theorem d_Course_prepare_113 : decode prog_2_method_2_code 113 = .ok (.aload_n 0, 1) := by decide +kernel
theorem d_Course_prepare_114 : decode prog_2_method_2_code 114 = .ok (.iconst 0, 1) := by decide +kernel
theorem d_Course_prepare_115 : decode prog_2_method_2_code 115 = .ok (.putfield 82, 3) := by decide +kernel
theorem d_Course_prepare_118 : decode prog_2_method_2_code 118 = .ok (.aload_n 0, 1) := by decide +kernel
theorem d_Course_prepare_119 : decode prog_2_method_2_code 119 = .ok (.iconst 0, 1) := by decide +kernel
theorem d_Course_prepare_120 : decode prog_2_method_2_code 120 = .ok (.putfield 85, 3) := by decide +kernel
theorem d_Course_prepare_123 : decode prog_2_method_2_code 123 = .ok (.aload_n 0, 1) := by decide +kernel
theorem d_Course_prepare_124 : decode prog_2_method_2_code 124 = .ok (.iconst 0, 1) := by decide +kernel
theorem d_Course_prepare_125 : decode prog_2_method_2_code 125 = .ok (.putfield 88, 3) := by decide +kernel
theorem d_Course_prepare_128 : decode prog_2_method_2_code 128 = .ok (.aload_n 0, 1) := by decide +kernel
theorem d_Course_prepare_129 : decode prog_2_method_2_code 129 = .ok (.iconst 0, 1) := by decide +kernel
theorem d_Course_prepare_130 : decode prog_2_method_2_code 130 = .ok (.putfield 91, 3) := by decide +kernel
theorem d_Course_prepare_133 : decode prog_2_method_2_code 133 = .ok (.aload_n 0, 1) := by decide +kernel
theorem d_Course_prepare_134 : decode prog_2_method_2_code 134 = .ok (.iconst 0, 1) := by decide +kernel
theorem d_Course_prepare_135 : decode prog_2_method_2_code 135 = .ok (.putfield 94, 3) := by decide +kernel
theorem d_Course_prepare_138 : decode prog_2_method_2_code 138 = .ok (.return_, 1) := by decide +kernel
theorem fl_Course_51 : zw_FL R_Course 51 0 6 := ⟨R_Course, T_Course, 15, rfl, by decide, ly_Course, Or.inl (zw_in (List.mem_of_getElem? (i := 215) (by decide +kernel)) (by decide +kernel))⟩
theorem fl_Course_57 : zw_FL R_Course 57 5 4 := ⟨R_Plan, T_Plan, 8, rfl, by decide, ly_Plan, Or.inr ⟨"TileShares", (zw_in (List.mem_of_getElem? (i := 133) (by decide +kernel)) (by decide +kernel))⟩⟩
theorem fl_Course_67 : zw_FL R_Course 67 5 6 := ⟨R_Plan, T_Plan, 8, rfl, by decide, ly_Plan, Or.inr ⟨"TileShares", (zw_in (List.mem_of_getElem? (i := 139) (by decide +kernel)) (by decide +kernel))⟩⟩
theorem fp_Course_85 : zw_FP R_Course 85 0 11 (.int) false := ⟨R_Course, T_Course, 15, ty_Course, rfl, by decide, ly_Course, ty_Course_ok, rfl, nm_Course, rfl, Or.inl ⟨(zw_in (List.mem_of_getElem? (i := 224) (by decide +kernel)) (by decide +kernel)), fun h => by cases h⟩⟩
theorem fp_Course_91 : zw_FP R_Course 91 0 13 (.int) false := ⟨R_Course, T_Course, 15, ty_Course, rfl, by decide, ly_Course, ty_Course_ok, rfl, nm_Course, rfl, Or.inl ⟨(zw_in (List.mem_of_getElem? (i := 228) (by decide +kernel)) (by decide +kernel)), fun h => by cases h⟩⟩
theorem mv_Course_61 : zw_MV R_Course 61 Y_Line_fillByNumber R_Line 0 := ⟨Or.inl (zw_in (List.mem_of_getElem? (i := 294) (by decide +kernel)) (by decide +kernel)), (zw_in (List.mem_of_getElem? (i := 295) (by decide +kernel)) (by decide +kernel)), (zw_in (List.mem_of_getElem? (i := 296) (by decide +kernel)) (by decide +kernel)), (zw_in (List.mem_of_getElem? (i := 297) (by decide +kernel)) (by decide +kernel)), (zw_in (List.mem_of_getElem? (i := 31) (by decide +kernel)) (by decide +kernel)), by decide +kernel, by decide +kernel⟩
theorem mv_Course_64 : zw_MV R_Course 64 Y_Crew_gather R_Crew 1 := ⟨Or.inl (zw_in (List.mem_of_getElem? (i := 298) (by decide +kernel)) (by decide +kernel)), (zw_in (List.mem_of_getElem? (i := 299) (by decide +kernel)) (by decide +kernel)), (zw_in (List.mem_of_getElem? (i := 300) (by decide +kernel)) (by decide +kernel)), (zw_in (List.mem_of_getElem? (i := 301) (by decide +kernel)) (by decide +kernel)), (zw_in (List.mem_of_getElem? (i := 32) (by decide +kernel)) (by decide +kernel)), by decide +kernel, by decide +kernel⟩
theorem mv_Course_71 : zw_MV R_Course 71 Y_Failings_renew R_Failings 0 := ⟨Or.inl (zw_in (List.mem_of_getElem? (i := 302) (by decide +kernel)) (by decide +kernel)), (zw_in (List.mem_of_getElem? (i := 303) (by decide +kernel)) (by decide +kernel)), (zw_in (List.mem_of_getElem? (i := 304) (by decide +kernel)) (by decide +kernel)), (zw_in (List.mem_of_getElem? (i := 305) (by decide +kernel)) (by decide +kernel)), (zw_in (List.mem_of_getElem? (i := 29) (by decide +kernel)) (by decide +kernel)), by decide +kernel, by decide +kernel⟩
set_option maxHeartbeats 4000000 in
set_option maxRecDepth 100000 in
theorem c_Course_prepare {l : Launch} {D : va_G} {cA : Nat → ClassId} {ad : Nat → Nat} {sh : zw_Sh} {n : Nat} (hn : n ≤ 16) (hs : ∀ (k : Nat) (q : zw_Sp), shX n k = some q → sh k = some q) (z : Nat) (mi : zw_I) (ml : zw_L) (wk : Int32) (w : Nat) (hw : w ≤ 16) (ew : wk = nI w) (e0 : mi 1 0 = nI n) (w8 : Nat) (hw8 : w8 ≤ 8) (ew8 : mi 3 5 = nI w8) :
    zc_M l D cA Y_Course_prepare 1 0 0 ad sh sh z [.ref (ad 5), .int wk] mi ml none ((p_prep n wk mi ml).1) ((p_prep n wk mi ml).2) z := by
  refine zc_enter (own := R_Course) (by decide) rfl (Nat.le_of_ble_eq_true rfl) ?_
  intro p e s m below meth c X hr hlocks hnm hB ls hl
  have X : zw_C D cA R_Course prog_2_method_2_code 4 p m c s := X
  have hr : meth.sig.returnType = none := hr
  have hx := X.1
  have hb := X.2.1
  have hl : lv_has ls 4 [(0, .ref (ad 5)), (1, .int wk)] := hl
  have loop : ∀ (f i : Nat) (mi : zw_I) (ml : zw_L) (H : Heap) (locs : List Loc) (ls : Array Slot), i + f = n + 1 → i ≤ n → mi 1 0 = nI n → mi 3 5 = nI w8 → zw_B D cA ad sh (zw_A ad sh z) s.heap mi ml z H locs → lv_has ls 4 [(2, .int (nI i)), (0, .ref (ad 5)), (1, .int wk)] →
      zc_W l D cA ad sh sh z [.ref (ad 5), .int wk] 1 0 0 none (p_prepZ n wk (p_prepA n f (nI i) mi ml).1) ((p_prepA n f (nI i) mi ml).2) z p e s m below meth c H locs 0 0 (F0 m 2 ls []) := by
    intro f
    induction f with
    | zero =>
      intro i mi ml H locs ls hi h2 e0 ew8 hB hl
      omega
    | succ f ih =>
      intro i mi ml H locs ls hi h2 e0 ew8 hB hl
      rw [p_prepA]
      refine lv_iload_n hx hb d_Course_prepare_2 rfl (lv_at hl 0 rfl) ?_
      refine lv_aload_n hx hb d_Course_prepare_3 rfl (lv_at hl 1 rfl) ?_
      refine zw_getR X hB fl_Course_9 5 (hs 5 _ rfl) rfl d_Course_prepare_4 ?_
      refine zw_getI X hB fl_Course_17 1 (hs 1 _ rfl) rfl d_Course_prepare_7 ?_
      refine lv_icmp_ge (tgt := 78) hx hb d_Course_prepare_10 (by decide) (fun c_10 => ?_) (fun c_10 => ?_)
      · rw [e0] at c_10
        rw [if_pos c_10]
        refine lv_aload_n hx hb d_Course_prepare_78 rfl (lv_at hl 1 rfl) ?_
        refine zw_getR X hB fl_Course_26 5 (hs 5 _ rfl) rfl d_Course_prepare_79 ?_
        refine zw_callVv X hB mv_Course_61 4 (hs 4 _ rfl) rfl (c_Line_fillByNumber hn hs z mi ml) rfl hl.1 ⟨Nat.le_of_ble_eq_true rfl, Nat.le_of_ble_eq_true rfl⟩ rfl (Nat.le_of_ble_eq_true rfl) ⟨Nat.le_of_ble_eq_true rfl, Nat.le_of_ble_eq_true rfl⟩ d_Course_prepare_82 (fun H locs hB => ?_)
        obtain ⟨mi_1, emi_1⟩ : ∃ y, y = p_fill n (n + 1) 0 mi := ⟨_, rfl⟩
        rw [← emi_1] at hB
        refine lv_aload_n hx hb d_Course_prepare_85 rfl (lv_at hl 1 rfl) ?_
        refine zw_getR X hB fl_Course_33 5 (hs 5 _ rfl) rfl d_Course_prepare_86 ?_
        refine lv_iload_n hx hb d_Course_prepare_89 rfl (lv_at hl 2 rfl) ?_
        refine zw_callVv X hB mv_Course_64 6 (hs 6 _ rfl) rfl (c_Crew_gather hn hs z mi_1 ml wk w hw ew) rfl hl.1 ⟨Nat.le_of_ble_eq_true rfl, Nat.le_of_ble_eq_true rfl⟩ rfl (Nat.le_of_ble_eq_true rfl) ⟨Nat.le_of_ble_eq_true rfl, Nat.le_of_ble_eq_true rfl⟩ d_Course_prepare_90 (fun H locs hB => ?_)
        obtain ⟨mi_2, emi_2⟩ : ∃ y, y = p_gather wk 17 0 mi_1 := ⟨_, rfl⟩
        rw [← emi_2] at hB
        refine lv_aload_n hx hb d_Course_prepare_93 rfl (lv_at hl 1 rfl) ?_
        refine zw_getR X hB fl_Course_9 5 (hs 5 _ rfl) rfl d_Course_prepare_94 ?_
        refine zw_getR X hB fl_Course_67 1 (hs 1 _ rfl) rfl d_Course_prepare_97 ?_
        refine zw_callVv X hB mv_Course_71 3 (hs 3 _ rfl) rfl (c_Failings_renew hn hs z mi_2 ml w8 hw8 (by subst_vars; rw [p_gather_off (by decide) (by decide) (by decide), p_fill_off (by decide) (by decide)]; exact ew8)) rfl hl.1 ⟨Nat.le_of_ble_eq_true rfl, Nat.le_of_ble_eq_true rfl⟩ rfl (Nat.le_of_ble_eq_true rfl) ⟨Nat.le_of_ble_eq_true rfl, Nat.le_of_ble_eq_true rfl⟩ d_Course_prepare_100 (fun H locs hB => ?_)
        obtain ⟨mi_3, emi_3⟩ : ∃ y, y = p_renew 9 0 mi_2 := ⟨_, rfl⟩
        rw [← emi_3] at hB
        refine lv_aload_n hx hb d_Course_prepare_103 rfl (lv_at hl 1 rfl) ?_
        refine lv_iconst (v := 0) hx hb d_Course_prepare_104 (by decide) ?_
        refine zw_putI X hB fp_Course_76 (fun h => by cases h) 5 (hs 5 _ rfl) rfl d_Course_prepare_105 (fun H locs hB => ?_)
        obtain ⟨mi_4, emi_4⟩ : ∃ y, y = zw_up mi_3 5 8 0 := ⟨_, rfl⟩
        rw [← emi_4] at hB
        refine lv_aload_n hx hb d_Course_prepare_108 rfl (lv_at hl 1 rfl) ?_
        refine lv_iconst (v := 0) hx hb d_Course_prepare_109 (by decide) ?_
        refine zw_putI X hB fp_Course_79 (fun h => by cases h) 5 (hs 5 _ rfl) rfl d_Course_prepare_110 (fun H locs hB => ?_)
        obtain ⟨mi_5, emi_5⟩ : ∃ y, y = zw_up mi_4 5 9 0 := ⟨_, rfl⟩
        rw [← emi_5] at hB
        refine lv_aload_n hx hb d_Course_prepare_113 rfl (lv_at hl 1 rfl) ?_
        refine lv_iconst (v := 0) hx hb d_Course_prepare_114 (by decide) ?_
        refine zw_putI X hB fp_Course_82 (fun h => by cases h) 5 (hs 5 _ rfl) rfl d_Course_prepare_115 (fun H locs hB => ?_)
        obtain ⟨mi_6, emi_6⟩ : ∃ y, y = zw_up mi_5 5 10 0 := ⟨_, rfl⟩
        rw [← emi_6] at hB
        refine lv_aload_n hx hb d_Course_prepare_118 rfl (lv_at hl 1 rfl) ?_
        refine lv_iconst (v := 0) hx hb d_Course_prepare_119 (by decide) ?_
        refine zw_putI X hB fp_Course_85 (fun h => by cases h) 5 (hs 5 _ rfl) rfl d_Course_prepare_120 (fun H locs hB => ?_)
        obtain ⟨mi_7, emi_7⟩ : ∃ y, y = zw_up mi_6 5 11 0 := ⟨_, rfl⟩
        rw [← emi_7] at hB
        refine lv_aload_n hx hb d_Course_prepare_123 rfl (lv_at hl 1 rfl) ?_
        refine lv_iconst (v := 0) hx hb d_Course_prepare_124 (by decide) ?_
        refine zw_putI X hB fp_Course_88 (fun h => by cases h) 5 (hs 5 _ rfl) rfl d_Course_prepare_125 (fun H locs hB => ?_)
        obtain ⟨mi_8, emi_8⟩ : ∃ y, y = zw_up mi_7 5 12 0 := ⟨_, rfl⟩
        rw [← emi_8] at hB
        refine lv_aload_n hx hb d_Course_prepare_128 rfl (lv_at hl 1 rfl) ?_
        refine lv_iconst (v := 0) hx hb d_Course_prepare_129 (by decide) ?_
        refine zw_putI X hB fp_Course_91 (fun h => by cases h) 5 (hs 5 _ rfl) rfl d_Course_prepare_130 (fun H locs hB => ?_)
        obtain ⟨mi_9, emi_9⟩ : ∃ y, y = zw_up mi_8 5 13 0 := ⟨_, rfl⟩
        rw [← emi_9] at hB
        refine lv_aload_n hx hb d_Course_prepare_133 rfl (lv_at hl 1 rfl) ?_
        refine lv_iconst (v := 0) hx hb d_Course_prepare_134 (by decide) ?_
        refine zw_putI X hB fp_Course_94 (fun h => by cases h) 5 (hs 5 _ rfl) rfl d_Course_prepare_135 (fun H locs hB => ?_)
        obtain ⟨mi_10, emi_10⟩ : ∃ y, y = zw_up mi_9 5 14 0 := ⟨_, rfl⟩
        rw [← emi_10] at hB
        exact zc_vret X hr hlocks hB (by subst emi_10; subst emi_9; subst emi_8; subst emi_7; subst emi_6; subst emi_5; subst emi_4; subst emi_3; subst emi_2; subst emi_1; rfl) (by subst emi_10; subst emi_9; subst emi_8; subst emi_7; subst emi_6; subst emi_5; subst emi_4; subst emi_3; subst emi_2; subst emi_1; rfl) (by subst emi_10; subst emi_9; subst emi_8; subst emi_7; subst emi_6; subst emi_5; subst emi_4; subst emi_3; subst emi_2; subst emi_1; rfl) d_Course_prepare_138
      · rw [e0] at c_10
        rw [if_neg c_10]
        have hlt : i < n := zn_lt (by omega) c_10
        have hin : vp_in (nI i) n := vp_in_nI hlt (by omega)
        refine lv_aload_n hx hb d_Course_prepare_13 rfl (lv_at hl 1 rfl) ?_
        refine zw_getR X hB fl_Course_37 5 (hs 5 _ rfl) rfl d_Course_prepare_14 ?_
        refine lv_iload_n hx hb d_Course_prepare_17 rfl (lv_at hl 0 rfl) ?_
        refine lv_iconst (v := 0) hx hb d_Course_prepare_18 (by decide) ?_
        refine zw_iast X hB 23 (hs 23 _ rfl) hin d_Course_prepare_19 (fun H locs hB => ?_)
        obtain ⟨mi_11, emi_11⟩ : ∃ y, y = zw_up mi 23 (nI i).toNatClampNeg 0 := ⟨_, rfl⟩
        rw [← emi_11] at hB
        refine lv_aload_n hx hb d_Course_prepare_20 rfl (lv_at hl 1 rfl) ?_
        refine zw_getR X hB fl_Course_43 5 (hs 5 _ rfl) rfl d_Course_prepare_21 ?_
        refine lv_iload_n hx hb d_Course_prepare_24 rfl (lv_at hl 0 rfl) ?_
        refine zw_aald X hB 24 (Or.inr rfl) (hs 24 _ rfl) hin d_Course_prepare_25 ?_
        refine lv_iconst (v := 0) hx hb d_Course_prepare_26 (by decide) ?_
        refine lv_aload_n hx hb d_Course_prepare_27 rfl (lv_at hl 1 rfl) ?_
        refine zw_getR X hB fl_Course_9 5 (hs 5 _ rfl) rfl d_Course_prepare_28 ?_
        refine zw_getR X hB fl_Course_57 1 (hs 1 _ rfl) rfl d_Course_prepare_31 ?_
        refine lv_iload_n hx hb d_Course_prepare_34 rfl (lv_at hl 0 rfl) ?_
        refine zw_lald X hB 9 (hs 9 _ rfl) hin d_Course_prepare_35 ?_
        refine zw_last X hB (112 + (nI i).toNatClampNeg) (hs _ _ (shr3 hn (vlt hin))) (vp_in_nI (n := 0) (by decide) (by decide)) d_Course_prepare_36 (fun H locs hB => ?_)
        obtain ⟨ml_12, eml_12⟩ : ∃ y, y = zw_up ml (112 + (nI i).toNatClampNeg) (0 : Int32).toNatClampNeg (ml 9 (nI i).toNatClampNeg) := ⟨_, rfl⟩
        rw [← eml_12] at hB
        refine lv_aload_n hx hb d_Course_prepare_37 rfl (lv_at hl 1 rfl) ?_
        refine zw_getR X hB fl_Course_46 5 (hs 5 _ rfl) rfl d_Course_prepare_38 ?_
        refine lv_iload_n hx hb d_Course_prepare_41 rfl (lv_at hl 0 rfl) ?_
        refine lv_iconst (v := 0) hx hb d_Course_prepare_42 (by decide) ?_
        refine zw_iast X hB 25 (hs 25 _ rfl) hin d_Course_prepare_43 (fun H locs hB => ?_)
        obtain ⟨mi_13, emi_13⟩ : ∃ y, y = zw_up mi_11 25 (nI i).toNatClampNeg 0 := ⟨_, rfl⟩
        rw [← emi_13] at hB
        refine lv_iconst (v := 0) hx hb d_Course_prepare_44 (by decide) ?_
        refine lv_istore_n (lv' := [(3, .int 0), (2, .int (nI i)), (0, .ref (ad 5)), (1, .int wk)]) hx hb d_Course_prepare_45 rfl hl (by decide) rfl (fun ls hl => ?_)
        subst emi_13
        subst eml_12
        subst emi_11
        have loopI : ∀ (g k : Nat) (mi : zw_I) (ml : zw_L) (H : Heap) (locs : List Loc) (ls : Array Slot), k + g = n + 1 → k ≤ n → mi 1 0 = nI n → mi 3 5 = nI w8 → zw_B D cA ad sh (zw_A ad sh z) s.heap mi ml z H locs → lv_has ls 4 [(3, .int (nI k)), (2, .int (nI i)), (0, .ref (ad 5)), (1, .int wk)] →
            zc_W l D cA ad sh sh z [.ref (ad 5), .int wk] 1 0 0 none (p_prepZ n wk (p_prepA n f (nI (i + 1)) (p_prepW n (nI i).toNatClampNeg g (nI k) mi) ml).1) ((p_prepA n f (nI (i + 1)) (p_prepW n (nI i).toNatClampNeg g (nI k) mi) ml).2) z p e s m below meth c H locs 0 0 (F0 m 46 ls []) := by
          intro g
          induction g with
          | zero =>
            intro k mi ml H locs ls hi h2 e0 ew8 hB hl
            omega
          | succ g ihg =>
            intro k mi ml H locs ls hi2 h22 e0 ew8 hB hl
            rw [p_prepW]
            refine lv_iload_n hx hb d_Course_prepare_46 rfl (lv_at hl 0 rfl) ?_
            refine lv_aload_n hx hb d_Course_prepare_47 rfl (lv_at hl 2 rfl) ?_
            refine zw_getR X hB fl_Course_9 5 (hs 5 _ rfl) rfl d_Course_prepare_48 ?_
            refine zw_getI X hB fl_Course_17 1 (hs 1 _ rfl) rfl d_Course_prepare_51 ?_
            refine lv_icmp_ge (tgt := 72) hx hb d_Course_prepare_54 (by decide) (fun c_54 => ?_) (fun c_54 => ?_)
            · rw [e0] at c_54
              rw [if_pos c_54]
              refine lv_iinc (v := nI (i + 1)) (lv' := [(2, .int (nI (i + 1))), (3, .int (nI k)), (0, .ref (ad 5)), (1, .int wk)]) hx hb d_Course_prepare_72 hl (k := 1) rfl (nI_1 i) (by decide) rfl (fun ls hl => ?_)
              refine lv_goto (tgt := 2) hx hb d_Course_prepare_75 (by decide) ?_
              exact ih (i + 1) _ _ H locs ls (by omega) (by omega) e0 ew8 hB (lv_sub hl [0, 2, 3] rfl)
            · rw [e0] at c_54
              rw [if_neg c_54]
              have hltk : k < n := zn_lt (by omega) c_54
              have hink : vp_in (nI k) n := vp_in_nI hltk (by omega)
              refine lv_aload_n hx hb d_Course_prepare_57 rfl (lv_at hl 2 rfl) ?_
              refine zw_getR X hB fl_Course_51 5 (hs 5 _ rfl) rfl d_Course_prepare_58 ?_
              refine lv_iload_n hx hb d_Course_prepare_61 rfl (lv_at hl 1 rfl) ?_
              refine zw_aald X hB 26 (Or.inl rfl) (hs 26 _ rfl) hin d_Course_prepare_62 ?_
              refine lv_iload_n hx hb d_Course_prepare_63 rfl (lv_at hl 0 rfl) ?_
              refine lv_iconst (v := 0) hx hb d_Course_prepare_64 (by decide) ?_
              refine zw_iast X hB (128 + (nI i).toNatClampNeg) (hs _ _ (shr4 hn (vlt hin))) hink d_Course_prepare_65 (fun H locs hB => ?_)
              obtain ⟨mi_1, emi_1⟩ : ∃ y, y = zw_up mi (128 + (nI i).toNatClampNeg) (nI k).toNatClampNeg 0 := ⟨_, rfl⟩
              rw [← emi_1] at hB
              refine lv_iinc (v := nI (k + 1)) (lv' := [(3, .int (nI (k + 1))), (2, .int (nI i)), (0, .ref (ad 5)), (1, .int wk)]) hx hb d_Course_prepare_66 hl (k := 0) rfl (nI_1 k) (by decide) rfl (fun ls hl => ?_)
              refine lv_goto (tgt := 46) hx hb d_Course_prepare_69 (by decide) ?_
              subst emi_1
              rw [nI_1 k]
              exact ihg (k + 1) _ _ H locs ls (by omega) (by omega) (by rw [zw_up_ne1 _ _ _ (by omega)]; exact e0) (by rw [zw_up_ne1 _ _ _ (by omega)]; exact ew8) hB (lv_sub hl [0, 1, 2, 3] rfl)
        rw [nI_1 i]
        exact loopI (n + 1) 0 _ _ _ _ ls (by omega) (by omega) (by simpa [zw_up] using e0) (by simpa [zw_up] using ew8) hB (lv_sub hl [0, 1, 2, 3] rfl)
  refine lv_iconst (v := 0) hx hb d_Course_prepare_0 (by decide) ?_
  refine lv_istore_n (lv' := [(2, .int 0), (0, .ref (ad 5)), (1, .int wk)]) hx hb d_Course_prepare_1 rfl hl (by decide) rfl (fun ls hl => ?_)
  exact loop (n + 1) 0 mi ml _ _ ls (by omega) (by omega) e0 ew8 hB (lv_sub hl [0, 1, 2] rfl)
end
section
abbrev Y_Course_tick : zc_Y := (⟨R_Course, "tick", "(I)Z"⟩, prog_2_method_9_code, 4, (some FieldType.boolean))
abbrev Y_Course_go : zc_Y := (⟨R_Course, "go", "(IJ)I"⟩, prog_2_method_3_code, 7, (some FieldType.int))
theorem d_Course_tick_0 : decode prog_2_method_9_code 0 = .ok (.iload_n 1, 1) := by decide +kernel
theorem d_Course_tick_1 : decode prog_2_method_9_code 1 = .ok (.iconst (-1), 1) := by decide +kernel
theorem d_Course_tick_2 : decode prog_2_method_9_code 2 = .ok (.if_icmp .ne 5, 3) := by decide +kernel
theorem d_Course_tick_5 : decode prog_2_method_9_code 5 = .ok (.iconst 0, 1) := by decide +kernel
theorem d_Course_tick_6 : decode prog_2_method_9_code 6 = .ok (.ireturn, 1) := by decide +kernel
theorem d_Course_tick_7 : decode prog_2_method_9_code 7 = .ok (.aload_n 0, 1) := by decide +kernel
theorem d_Course_tick_8 : decode prog_2_method_9_code 8 = .ok (.getfield 33, 3) := by decide +kernel
theorem d_Course_tick_11 : decode prog_2_method_9_code 11 = .ok (.getfield 132, 3) := by decide +kernel
theorem d_Course_tick_14 : decode prog_2_method_9_code 14 = .ok (.iload_n 1, 1) := by decide +kernel
theorem d_Course_tick_15 : decode prog_2_method_9_code 15 = .ok (.iaload, 1) := by decide +kernel
theorem d_Course_tick_16 : decode prog_2_method_9_code 16 = .ok (.istore_n 2, 1) := by decide +kernel
theorem d_Course_tick_17 : decode prog_2_method_9_code 17 = .ok (.iload_n 2, 1) := by decide +kernel
theorem d_Course_tick_18 : decode prog_2_method_9_code 18 = .ok (.iconst (-1), 1) := by decide +kernel
theorem d_Course_tick_19 : decode prog_2_method_9_code 19 = .ok (.if_icmp .ne 9, 3) := by decide +kernel
theorem d_Course_tick_22 : decode prog_2_method_9_code 22 = .ok (.aload_n 0, 1) := by decide +kernel
theorem d_Course_tick_23 : decode prog_2_method_9_code 23 = .ok (.iload_n 1, 1) := by decide +kernel
theorem d_Course_tick_24 : decode prog_2_method_9_code 24 = .ok (.invokevirtual 164, 3) := by decide +kernel
theorem d_Course_tick_27 : decode prog_2_method_9_code 27 = .ok (.ireturn, 1) := by decide +kernel
theorem d_Course_tick_28 : decode prog_2_method_9_code 28 = .ok (.aload_n 0, 1) := by decide +kernel
theorem d_Course_tick_29 : decode prog_2_method_9_code 29 = .ok (.iload_n 2, 1) := by decide +kernel
theorem d_Course_tick_30 : decode prog_2_method_9_code 30 = .ok (.invokevirtual 141, 3) := by decide +kernel
theorem d_Course_tick_33 : decode prog_2_method_9_code 33 = .ok (.istore_n 3, 1) := by decide +kernel
theorem d_Course_tick_34 : decode prog_2_method_9_code 34 = .ok (.iload_n 3, 1) := by decide +kernel
theorem d_Course_tick_35 : decode prog_2_method_9_code 35 = .ok (.iconst (-1), 1) := by decide +kernel
theorem d_Course_tick_36 : decode prog_2_method_9_code 36 = .ok (.if_icmp .eq 27, 3) := by decide +kernel
theorem d_Course_tick_39 : decode prog_2_method_9_code 39 = .ok (.aload_n 0, 1) := by decide +kernel
theorem d_Course_tick_40 : decode prog_2_method_9_code 40 = .ok (.getfield 51, 3) := by decide +kernel
theorem d_Course_tick_43 : decode prog_2_method_9_code 43 = .ok (.iload_n 2, 1) := by decide +kernel
theorem d_Course_tick_44 : decode prog_2_method_9_code 44 = .ok (.aaload, 1) := by decide +kernel
theorem d_Course_tick_45 : decode prog_2_method_9_code 45 = .ok (.iload_n 3, 1) := by decide +kernel
theorem d_Course_tick_46 : decode prog_2_method_9_code 46 = .ok (.dup2, 1) := by decide +kernel
theorem d_Course_tick_47 : decode prog_2_method_9_code 47 = .ok (.iaload, 1) := by decide +kernel
theorem d_Course_tick_48 : decode prog_2_method_9_code 48 = .ok (.iconst 1, 1) := by decide +kernel
theorem d_Course_tick_49 : decode prog_2_method_9_code 49 = .ok (.iadd, 1) := by decide +kernel
theorem d_Course_tick_50 : decode prog_2_method_9_code 50 = .ok (.iastore, 1) := by decide +kernel
theorem d_Course_tick_51 : decode prog_2_method_9_code 51 = .ok (.aload_n 0, 1) := by decide +kernel
theorem d_Course_tick_52 : decode prog_2_method_9_code 52 = .ok (.dup, 1) := by decide +kernel
theorem d_Course_tick_53 : decode prog_2_method_9_code 53 = .ok (.getfield 91, 3) := by decide +kernel
theorem d_Course_tick_56 : decode prog_2_method_9_code 56 = .ok (.iconst 1, 1) := by decide +kernel
theorem d_Course_tick_57 : decode prog_2_method_9_code 57 = .ok (.iadd, 1) := by decide +kernel
theorem d_Course_tick_58 : decode prog_2_method_9_code 58 = .ok (.putfield 91, 3) := by decide +kernel
theorem d_Course_tick_61 : decode prog_2_method_9_code 61 = .ok (.iconst 0, 1) := by decide +kernel
theorem d_Course_tick_62 : decode prog_2_method_9_code 62 = .ok (.ireturn, 1) := by decide +kernel
theorem d_Course_tick_63 : decode prog_2_method_9_code 63 = .ok (.aload_n 0, 1) := by decide +kernel
theorem d_Course_tick_64 : decode prog_2_method_9_code 64 = .ok (.getfield 9, 3) := by decide +kernel
theorem d_Course_tick_67 : decode prog_2_method_9_code 67 = .ok (.getfield 67, 3) := by decide +kernel
theorem d_Course_tick_70 : decode prog_2_method_9_code 70 = .ok (.iload_n 1, 1) := by decide +kernel
theorem d_Course_tick_71 : decode prog_2_method_9_code 71 = .ok (.iload_n 2, 1) := by decide +kernel
theorem d_Course_tick_72 : decode prog_2_method_9_code 72 = .ok (.aload_n 0, 1) := by decide +kernel
theorem d_Course_tick_73 : decode prog_2_method_9_code 73 = .ok (.getfield 37, 3) := by decide +kernel
theorem d_Course_tick_76 : decode prog_2_method_9_code 76 = .ok (.iload_n 2, 1) := by decide +kernel
theorem d_Course_tick_77 : decode prog_2_method_9_code 77 = .ok (.iaload, 1) := by decide +kernel
theorem d_Course_tick_78 : decode prog_2_method_9_code 78 = .ok (.invokevirtual 167, 3) := by decide +kernel
theorem d_Course_tick_81 : decode prog_2_method_9_code 81 = .ok (.ifCond .eq 12, 3) := by decide +kernel
theorem d_Course_tick_84 : decode prog_2_method_9_code 84 = .ok (.aload_n 0, 1) := by decide +kernel
theorem d_Course_tick_85 : decode prog_2_method_9_code 85 = .ok (.iload_n 1, 1) := by decide +kernel
theorem d_Course_tick_86 : decode prog_2_method_9_code 86 = .ok (.iload_n 2, 1) := by decide +kernel
theorem d_Course_tick_87 : decode prog_2_method_9_code 87 = .ok (.invokevirtual 171, 3) := by decide +kernel
theorem d_Course_tick_90 : decode prog_2_method_9_code 90 = .ok (.goto 9, 3) := by decide +kernel
theorem d_Course_tick_93 : decode prog_2_method_9_code 93 = .ok (.aload_n 0, 1) := by decide +kernel
theorem d_Course_tick_94 : decode prog_2_method_9_code 94 = .ok (.iload_n 1, 1) := by decide +kernel
theorem d_Course_tick_95 : decode prog_2_method_9_code 95 = .ok (.iload_n 2, 1) := by decide +kernel
theorem d_Course_tick_96 : decode prog_2_method_9_code 96 = .ok (.invokevirtual 175, 3) := by decide +kernel
theorem d_Course_tick_99 : decode prog_2_method_9_code 99 = .ok (.iconst 1, 1) := by decide +kernel
theorem d_Course_tick_100 : decode prog_2_method_9_code 100 = .ok (.ireturn, 1) := by decide +kernel
theorem d_Course_go_0 : decode prog_2_method_3_code 0 = .ok (.aload_n 0, 1) := by decide +kernel
theorem d_Course_go_1 : decode prog_2_method_3_code 1 = .ok (.iload_n 1, 1) := by decide +kernel
theorem d_Course_go_2 : decode prog_2_method_3_code 2 = .ok (.invokevirtual 97, 3) := by decide +kernel
theorem d_Course_go_5 : decode prog_2_method_3_code 5 = .ok (.lload_n 2, 1) := by decide +kernel
theorem d_Course_go_6 : decode prog_2_method_3_code 6 = .ok (.lstore 4, 2) := by decide +kernel
theorem d_Course_go_8 : decode prog_2_method_3_code 8 = .ok (.aload_n 0, 1) := by decide +kernel
theorem d_Course_go_9 : decode prog_2_method_3_code 9 = .ok (.invokevirtual 100, 3) := by decide +kernel
theorem d_Course_go_12 : decode prog_2_method_3_code 12 = .ok (.istore 6, 2) := by decide +kernel
theorem d_Course_go_14 : decode prog_2_method_3_code 14 = .ok (.iload 6, 2) := by decide +kernel
theorem d_Course_go_16 : decode prog_2_method_3_code 16 = .ok (.iconst 2, 1) := by decide +kernel
theorem d_Course_go_17 : decode prog_2_method_3_code 17 = .ok (.if_icmp .ne 60, 3) := by decide +kernel
theorem d_Course_go_20 : decode prog_2_method_3_code 20 = .ok (.aload_n 0, 1) := by decide +kernel
theorem d_Course_go_21 : decode prog_2_method_3_code 21 = .ok (.getfield 85, 3) := by decide +kernel
theorem d_Course_go_24 : decode prog_2_method_3_code 24 = .ok (.sipush 20000, 3) := by decide +kernel
theorem d_Course_go_27 : decode prog_2_method_3_code 27 = .ok (.if_icmp .ge 50, 3) := by decide +kernel
theorem d_Course_go_30 : decode prog_2_method_3_code 30 = .ok (.lload 4, 2) := by decide +kernel
theorem d_Course_go_32 : decode prog_2_method_3_code 32 = .ok (.ldc2_w 104, 3) := by decide +kernel
theorem d_Course_go_35 : decode prog_2_method_3_code 35 = .ok (.lmul, 1) := by decide +kernel
theorem d_Course_go_36 : decode prog_2_method_3_code 36 = .ok (.ldc2_w 106, 3) := by decide +kernel
theorem d_Course_go_39 : decode prog_2_method_3_code 39 = .ok (.ladd, 1) := by decide +kernel
theorem d_Course_go_40 : decode prog_2_method_3_code 40 = .ok (.lstore 4, 2) := by decide +kernel
theorem d_Course_go_42 : decode prog_2_method_3_code 42 = .ok (.aload_n 0, 1) := by decide +kernel
theorem d_Course_go_43 : decode prog_2_method_3_code 43 = .ok (.dup, 1) := by decide +kernel
theorem d_Course_go_44 : decode prog_2_method_3_code 44 = .ok (.getfield 85, 3) := by decide +kernel
theorem d_Course_go_47 : decode prog_2_method_3_code 47 = .ok (.iconst 1, 1) := by decide +kernel
theorem d_Course_go_48 : decode prog_2_method_3_code 48 = .ok (.iadd, 1) := by decide +kernel
theorem d_Course_go_49 : decode prog_2_method_3_code 49 = .ok (.putfield 85, 3) := by decide +kernel
theorem d_Course_go_52 : decode prog_2_method_3_code 52 = .ok (.aload_n 0, 1) := by decide +kernel
theorem d_Course_go_53 : decode prog_2_method_3_code 53 = .ok (.aload_n 0, 1) := by decide +kernel
theorem d_Course_go_54 : decode prog_2_method_3_code 54 = .ok (.getfield 33, 3) := by decide +kernel
theorem d_Course_go_57 : decode prog_2_method_3_code 57 = .ok (.lload 4, 2) := by decide +kernel
theorem d_Course_go_59 : decode prog_2_method_3_code 59 = .ok (.invokevirtual 108, 3) := by decide +kernel
theorem d_Course_go_62 : decode prog_2_method_3_code 62 = .ok (.invokevirtual 112, 3) := by decide +kernel
theorem d_Course_go_65 : decode prog_2_method_3_code 65 = .ok (.ifCond .eq (-51), 3) := by decide +kernel
theorem d_Course_go_68 : decode prog_2_method_3_code 68 = .ok (.aload_n 0, 1) := by decide +kernel
theorem d_Course_go_69 : decode prog_2_method_3_code 69 = .ok (.invokevirtual 100, 3) := by decide +kernel
theorem d_Course_go_72 : decode prog_2_method_3_code 72 = .ok (.istore 6, 2) := by decide +kernel
theorem d_Course_go_74 : decode prog_2_method_3_code 74 = .ok (.goto (-60), 3) := by decide +kernel
theorem d_Course_go_77 : decode prog_2_method_3_code 77 = .ok (.iload 6, 2) := by decide +kernel
theorem d_Course_go_79 : decode prog_2_method_3_code 79 = .ok (.iconst 2, 1) := by decide +kernel
theorem d_Course_go_80 : decode prog_2_method_3_code 80 = .ok (.if_icmp .ne 8, 3) := by decide +kernel
theorem d_Course_go_83 : decode prog_2_method_3_code 83 = .ok (.bipush (-3), 2) := by decide +kernel
theorem d_Course_go_85 : decode prog_2_method_3_code 85 = .ok (.goto 5, 3) := by decide +kernel
theorem d_Course_go_88 : decode prog_2_method_3_code 88 = .ok (.iload 6, 2) := by decide +kernel
theorem d_Course_go_90 : decode prog_2_method_3_code 90 = .ok (.ireturn, 1) := by decide +kernel
theorem fl_Course_85 : zw_FL R_Course 85 0 11 := ⟨R_Course, T_Course, 15, rfl, by decide, ly_Course, Or.inl (zw_in (List.mem_of_getElem? (i := 224) (by decide +kernel)) (by decide +kernel))⟩
theorem fl_Course_91 : zw_FL R_Course 91 0 13 := ⟨R_Course, T_Course, 15, rfl, by decide, ly_Course, Or.inl (zw_in (List.mem_of_getElem? (i := 228) (by decide +kernel)) (by decide +kernel))⟩
theorem mv_Course_97 : zw_MV R_Course 97 Y_Course_prepare R_Course 1 := ⟨Or.inl (zw_in (List.mem_of_getElem? (i := 481) (by decide +kernel)) (by decide +kernel)), (zw_in (List.mem_of_getElem? (i := 291) (by decide +kernel)) (by decide +kernel)), (zw_in (List.mem_of_getElem? (i := 292) (by decide +kernel)) (by decide +kernel)), (zw_in (List.mem_of_getElem? (i := 293) (by decide +kernel)) (by decide +kernel)), (zw_in (List.mem_of_getElem? (i := 30) (by decide +kernel)) (by decide +kernel)), by decide +kernel, by decide +kernel⟩
theorem mv_Course_100 : zw_MV R_Course 100 Y_Course_endByState R_Course 0 := ⟨Or.inl (zw_in (List.mem_of_getElem? (i := 482) (by decide +kernel)) (by decide +kernel)), (zw_in (List.mem_of_getElem? (i := 484) (by decide +kernel)) (by decide +kernel)), (zw_in (List.mem_of_getElem? (i := 3) (by decide +kernel)) (by decide +kernel)), (zw_in (List.mem_of_getElem? (i := 485) (by decide +kernel)) (by decide +kernel)), (zw_in (List.mem_of_getElem? (i := 30) (by decide +kernel)) (by decide +kernel)), by decide +kernel, by decide +kernel⟩
theorem mv_Course_108 : zw_MV R_Course 108 Y_Crew_whoseTurn R_Crew 1 := ⟨Or.inl (zw_in (List.mem_of_getElem? (i := 512) (by decide +kernel)) (by decide +kernel)), (zw_in (List.mem_of_getElem? (i := 513) (by decide +kernel)) (by decide +kernel)), (zw_in (List.mem_of_getElem? (i := 514) (by decide +kernel)) (by decide +kernel)), (zw_in (List.mem_of_getElem? (i := 515) (by decide +kernel)) (by decide +kernel)), (zw_in (List.mem_of_getElem? (i := 32) (by decide +kernel)) (by decide +kernel)), by decide +kernel, by decide +kernel⟩
theorem mv_Course_112 : zw_MV R_Course 112 Y_Course_tick R_Course 1 := ⟨Or.inl (zw_in (List.mem_of_getElem? (i := 516) (by decide +kernel)) (by decide +kernel)), (zw_in (List.mem_of_getElem? (i := 518) (by decide +kernel)) (by decide +kernel)), (zw_in (List.mem_of_getElem? (i := 7) (by decide +kernel)) (by decide +kernel)), (zw_in (List.mem_of_getElem? (i := 519) (by decide +kernel)) (by decide +kernel)), (zw_in (List.mem_of_getElem? (i := 30) (by decide +kernel)) (by decide +kernel)), by decide +kernel, by decide +kernel⟩
theorem mv_Course_164 : zw_MV R_Course 164 Y_Course_take R_Course 1 := ⟨Or.inl (zw_in (List.mem_of_getElem? (i := 520) (by decide +kernel)) (by decide +kernel)), (zw_in (List.mem_of_getElem? (i := 522) (by decide +kernel)) (by decide +kernel)), (zw_in (List.mem_of_getElem? (i := 8) (by decide +kernel)) (by decide +kernel)), (zw_in (List.mem_of_getElem? (i := 523) (by decide +kernel)) (by decide +kernel)), (zw_in (List.mem_of_getElem? (i := 30) (by decide +kernel)) (by decide +kernel)), by decide +kernel, by decide +kernel⟩
theorem mv_Course_167 : zw_MV R_Course 167 Y_Failings_strike R_Failings 3 := ⟨Or.inl (zw_in (List.mem_of_getElem? (i := 533) (by decide +kernel)) (by decide +kernel)), (zw_in (List.mem_of_getElem? (i := 534) (by decide +kernel)) (by decide +kernel)), (zw_in (List.mem_of_getElem? (i := 535) (by decide +kernel)) (by decide +kernel)), (zw_in (List.mem_of_getElem? (i := 536) (by decide +kernel)) (by decide +kernel)), (zw_in (List.mem_of_getElem? (i := 29) (by decide +kernel)) (by decide +kernel)), by decide +kernel, by decide +kernel⟩
theorem mv_Course_171 : zw_MV R_Course 171 Y_Course_fail R_Course 2 := ⟨Or.inl (zw_in (List.mem_of_getElem? (i := 537) (by decide +kernel)) (by decide +kernel)), (zw_in (List.mem_of_getElem? (i := 539) (by decide +kernel)) (by decide +kernel)), (zw_in (List.mem_of_getElem? (i := 10) (by decide +kernel)) (by decide +kernel)), (zw_in (List.mem_of_getElem? (i := 540) (by decide +kernel)) (by decide +kernel)), (zw_in (List.mem_of_getElem? (i := 30) (by decide +kernel)) (by decide +kernel)), by decide +kernel, by decide +kernel⟩
theorem mv_Course_175 : zw_MV R_Course 175 Y_Course_doStep R_Course 2 := ⟨Or.inl (zw_in (List.mem_of_getElem? (i := 549) (by decide +kernel)) (by decide +kernel)), (zw_in (List.mem_of_getElem? (i := 551) (by decide +kernel)) (by decide +kernel)), (zw_in (List.mem_of_getElem? (i := 11) (by decide +kernel)) (by decide +kernel)), (zw_in (List.mem_of_getElem? (i := 552) (by decide +kernel)) (by decide +kernel)), (zw_in (List.mem_of_getElem? (i := 30) (by decide +kernel)) (by decide +kernel)), by decide +kernel, by decide +kernel⟩
set_option maxHeartbeats 4000000 in
set_option maxRecDepth 100000 in
theorem c_Course_tick {l : Launch} {D : va_G} {cA : Nat → ClassId} {ad : Nat → Nat} {sh : zw_Sh} {n : Nat} (hn : n ≤ 16) (hs : ∀ (k : Nat) (q : zw_Sp), shX n k = some q → sh k = some q) (z : Nat) (mi : zw_I) (ml : zw_L) (wk : Int32) (hI : zi n mi) (hw : wk = -1 ∨ vp_in wk 16) (ht : ∀ y : Int32, mi 29 wk.toNatClampNeg = y → ¬ y = -1 → vp_in y n ∧ zi_T n mi y) :
    zc_M l D cA Y_Course_tick 3 0 0 ad sh sh z [.ref (ad 5), .int wk] mi ml (some (.int ((p_tick n wk mi ml).1))) ((p_tick n wk mi ml).2.1) ((p_tick n wk mi ml).2.2) z := by
  refine zc_enter (own := R_Course) (by decide) rfl (Nat.le_of_ble_eq_true rfl) ?_
  intro p e s m below meth c X hr hlocks hnm hB ls hl
  have X : zw_C D cA R_Course prog_2_method_9_code 4 p m c s := X
  have hr : meth.sig.returnType = (some FieldType.boolean) := hr
  have hx := X.1
  have hb := X.2.1
  have hl : lv_has ls 4 [(0, .ref (ad 5)), (1, .int wk)] := hl
  unfold p_tick
  refine lv_iload_n hx hb d_Course_tick_0 rfl (lv_at hl 1 rfl) ?_
  refine lv_iconst (v := (-1)) hx hb d_Course_tick_1 (by decide) ?_
  refine lv_icmp_ne (tgt := 7) hx hb d_Course_tick_2 (by decide) (fun c_2 => ?_) (fun c_2 => ?_)
  · rw [if_neg c_2]
    unfold p_tick2
    have hw : vp_in wk 16 := hw.elim (fun e => absurd e c_2) id
    refine lv_aload_n hx hb d_Course_tick_7 rfl (lv_at hl 0 rfl) ?_
    refine zw_getR X hB fl_Course_33 5 (hs 5 _ rfl) rfl d_Course_tick_8 ?_
    refine zw_getR X hB fl_Course_132 6 (hs 6 _ rfl) rfl d_Course_tick_11 ?_
    refine lv_iload_n hx hb d_Course_tick_14 rfl (lv_at hl 1 rfl) ?_
    refine zw_iald X hB 29 (hs 29 _ rfl) hw d_Course_tick_15 ?_
    refine lv_istore_n (lv' := [(2, .int (mi 29 wk.toNatClampNeg)), (0, .ref (ad 5)), (1, .int wk)]) hx hb d_Course_tick_16 rfl hl (by decide) rfl (fun ls hl => ?_)
    refine lv_iload_n hx hb d_Course_tick_17 rfl (lv_at hl 0 rfl) ?_
    refine lv_iconst (v := (-1)) hx hb d_Course_tick_18 (by decide) ?_
    refine lv_icmp_ne (tgt := 28) hx hb d_Course_tick_19 (by decide) (fun c_19 => ?_) (fun c_19 => ?_)
    · rw [if_neg c_19]
      unfold p_tick3
      obtain ⟨hy, hT⟩ := ht _ rfl c_19
      refine lv_aload_n hx hb d_Course_tick_28 rfl (lv_at hl 1 rfl) ?_
      refine lv_iload_n hx hb d_Course_tick_29 rfl (lv_at hl 0 rfl) ?_
      refine zw_callVr X hB mv_Course_141 5 (hs 5 _ rfl) rfl (c_Course_shareToWaitFor hn hs z mi ml (mi 29 wk.toNatClampNeg) hI hy) rfl hl.1 ⟨Nat.le_of_ble_eq_true rfl, Nat.le_of_ble_eq_true rfl⟩ rfl (Nat.le_of_ble_eq_true rfl) ⟨Nat.le_of_ble_eq_true rfl, Nat.le_of_ble_eq_true rfl⟩ d_Course_tick_30 (fun H locs hB => ?_)
      refine lv_istore_n (lv' := [(3, .int (p_wait mi (mi 29 wk.toNatClampNeg))), (2, .int (mi 29 wk.toNatClampNeg)), (0, .ref (ad 5)), (1, .int wk)]) hx hb d_Course_tick_33 rfl hl (by decide) rfl (fun ls hl => ?_)
      refine lv_iload_n hx hb d_Course_tick_34 rfl (lv_at hl 0 rfl) ?_
      refine lv_iconst (v := (-1)) hx hb d_Course_tick_35 (by decide) ?_
      refine lv_icmp_eq (tgt := 63) hx hb d_Course_tick_36 (by decide) (fun c_36 => ?_) (fun c_36 => ?_)
      · rw [if_pos c_36]
        unfold p_tick4
        obtain ⟨w8, hw8, ew8⟩ := hI.2.2.1
        refine lv_aload_n hx hb d_Course_tick_63 rfl (lv_at hl 2 rfl) ?_
        refine zw_getR X hB fl_Course_9 5 (hs 5 _ rfl) rfl d_Course_tick_64 ?_
        refine zw_getR X hB fl_Course_67 1 (hs 1 _ rfl) rfl d_Course_tick_67 ?_
        refine lv_iload_n hx hb d_Course_tick_70 rfl (lv_at hl 3 rfl) ?_
        refine lv_iload_n hx hb d_Course_tick_71 rfl (lv_at hl 1 rfl) ?_
        refine lv_aload_n hx hb d_Course_tick_72 rfl (lv_at hl 2 rfl) ?_
        refine zw_getR X hB fl_Course_37 5 (hs 5 _ rfl) rfl d_Course_tick_73 ?_
        refine lv_iload_n hx hb d_Course_tick_76 rfl (lv_at hl 1 rfl) ?_
        refine zw_iald X hB 23 (hs 23 _ rfl) hy d_Course_tick_77 ?_
        refine zw_callVr X hB mv_Course_167 3 (hs 3 _ rfl) rfl (c_Failings_strike hn hs z mi ml wk (mi 29 wk.toNatClampNeg) (mi 23 (mi 29 wk.toNatClampNeg).toNatClampNeg) w8 hw8 ew8) rfl hl.1 ⟨Nat.le_of_ble_eq_true rfl, Nat.le_of_ble_eq_true rfl⟩ rfl (Nat.le_of_ble_eq_true rfl) ⟨Nat.le_of_ble_eq_true rfl, Nat.le_of_ble_eq_true rfl⟩ d_Course_tick_78 (fun H locs hB => ?_)
        obtain ⟨mi_1, emi_1⟩ : ∃ y, y = (p_strike wk (mi 29 wk.toNatClampNeg) (mi 23 (mi 29 wk.toNatClampNeg).toNatClampNeg) mi 9 0).2 := ⟨_, rfl⟩
        rw [← emi_1] at hB
        refine lv_if_eq (tgt := 93) hx hb d_Course_tick_81 (by decide) (fun c_81 => ?_) (fun c_81 => ?_)
        · rw [if_pos c_81]
          have hI2 : zi n mi_1 := (by rw [emi_1]; exact zi_same hn (fun a b h _ => p_strike_off h _ _) hI)
          have hT2 : zi_T n mi_1 (mi 29 wk.toNatClampNeg) := (by rw [emi_1]; exact zi_T_same (fun a b h => p_strike_off h _ _) hT)
          refine lv_aload_n hx hb d_Course_tick_93 rfl (lv_at hl 2 rfl) ?_
          refine lv_iload_n hx hb d_Course_tick_94 rfl (lv_at hl 3 rfl) ?_
          refine lv_iload_n hx hb d_Course_tick_95 rfl (lv_at hl 1 rfl) ?_
          refine zw_callVv X hB mv_Course_175 5 (hs 5 _ rfl) rfl (c_Course_doStep hn hs z mi_1 ml wk (mi 29 wk.toNatClampNeg) hI2 hw hy hT2.1 hT2.2.1 (fun _ => hT2.2.2)) rfl hl.1 ⟨Nat.le_of_ble_eq_true rfl, Nat.le_of_ble_eq_true rfl⟩ rfl (Nat.le_of_ble_eq_true rfl) ⟨Nat.le_of_ble_eq_true rfl, Nat.le_of_ble_eq_true rfl⟩ d_Course_tick_96 (fun H locs hB => ?_)
          obtain ⟨mi_2, emi_2⟩ : ∃ y, y = p_step wk (mi 29 wk.toNatClampNeg) mi_1 := ⟨_, rfl⟩
          rw [← emi_2] at hB
          obtain ⟨ml_3, eml_3⟩ : ∃ y, y = p_stepL mi_1 ml (mi 29 wk.toNatClampNeg) := ⟨_, rfl⟩
          rw [← eml_3] at hB
          refine lv_iconst (v := 1) hx hb d_Course_tick_99 (by decide) ?_
          exact zc_zret X hr hlocks hB (by rfl) (by subst eml_3; subst emi_2; subst emi_1; rfl) (by subst eml_3; subst emi_2; subst emi_1; rfl) (by subst eml_3; subst emi_2; subst emi_1; rfl) d_Course_tick_100
        · rw [if_neg c_81]
          have hI2 : zi n mi_1 := (by rw [emi_1]; exact zi_same hn (fun a b h _ => p_strike_off h _ _) hI)
          refine lv_aload_n hx hb d_Course_tick_84 rfl (lv_at hl 2 rfl) ?_
          refine lv_iload_n hx hb d_Course_tick_85 rfl (lv_at hl 3 rfl) ?_
          refine lv_iload_n hx hb d_Course_tick_86 rfl (lv_at hl 1 rfl) ?_
          refine zw_callVv X hB mv_Course_171 5 (hs 5 _ rfl) rfl (c_Course_fail hn hs z mi_1 ml wk (mi 29 wk.toNatClampNeg) hI2 hy (by rw [p_fail1_line, p_fail1_line]; exact zi_wrap hn hI2.2.2.2.1)) rfl hl.1 ⟨Nat.le_of_ble_eq_true rfl, Nat.le_of_ble_eq_true rfl⟩ rfl (Nat.le_of_ble_eq_true rfl) ⟨Nat.le_of_ble_eq_true rfl, Nat.le_of_ble_eq_true rfl⟩ d_Course_tick_87 (fun H locs hB => ?_)
          obtain ⟨mi_4, emi_4⟩ : ∃ y, y = p_fail n wk (mi 29 wk.toNatClampNeg) mi_1 := ⟨_, rfl⟩
          rw [← emi_4] at hB
          refine lv_goto (tgt := 99) hx hb d_Course_tick_90 (by decide) ?_
          refine lv_iconst (v := 1) hx hb d_Course_tick_99 (by decide) ?_
          exact zc_zret X hr hlocks hB (by rfl) (by subst emi_4; subst emi_1; rfl) (by subst emi_4; subst emi_1; rfl) (by subst emi_4; subst emi_1; rfl) d_Course_tick_100
      · rw [if_neg c_36]
        have haw := (zi_wait hI hy).elim (fun e => absurd e c_36) id
        refine lv_aload_n hx hb d_Course_tick_39 rfl (lv_at hl 2 rfl) ?_
        refine zw_getR X hB fl_Course_51 5 (hs 5 _ rfl) rfl d_Course_tick_40 ?_
        refine lv_iload_n hx hb d_Course_tick_43 rfl (lv_at hl 1 rfl) ?_
        refine zw_aald X hB 26 (Or.inl rfl) (hs 26 _ rfl) hy d_Course_tick_44 ?_
        refine lv_iload_n hx hb d_Course_tick_45 rfl (lv_at hl 0 rfl) ?_
        refine lv_dup2_11 hx hb d_Course_tick_46 rfl rfl ?_
        refine zw_iald X hB (128 + (mi 29 wk.toNatClampNeg).toNatClampNeg) (hs _ _ (shr4 hn (vlt hy))) haw d_Course_tick_47 ?_
        refine lv_iconst (v := 1) hx hb d_Course_tick_48 (by decide) ?_
        refine lv_iadd hx hb d_Course_tick_49 ?_
        refine zw_iast X hB (128 + (mi 29 wk.toNatClampNeg).toNatClampNeg) (hs _ _ (shr4 hn (vlt hy))) haw d_Course_tick_50 (fun H locs hB => ?_)
        obtain ⟨mi_5, emi_5⟩ : ∃ y, y = zw_up mi (128 + (mi 29 wk.toNatClampNeg).toNatClampNeg) (p_wait mi (mi 29 wk.toNatClampNeg)).toNatClampNeg ((mi (128 + (mi 29 wk.toNatClampNeg).toNatClampNeg) (p_wait mi (mi 29 wk.toNatClampNeg)).toNatClampNeg) + 1) := ⟨_, rfl⟩
        rw [← emi_5] at hB
        refine lv_aload_n hx hb d_Course_tick_51 rfl (lv_at hl 2 rfl) ?_
        refine lv_dup hx hb d_Course_tick_52 rfl ?_
        refine zw_getI X hB fl_Course_91 5 (hs 5 _ rfl) rfl d_Course_tick_53 ?_
        refine lv_iconst (v := 1) hx hb d_Course_tick_56 (by decide) ?_
        refine lv_iadd hx hb d_Course_tick_57 ?_
        refine zw_putI X hB fp_Course_91 (fun h => by cases h) 5 (hs 5 _ rfl) rfl d_Course_tick_58 (fun H locs hB => ?_)
        obtain ⟨mi_6, emi_6⟩ : ∃ y, y = zw_up mi_5 5 13 ((mi_5 5 13) + 1) := ⟨_, rfl⟩
        rw [← emi_6] at hB
        refine lv_iconst (v := 0) hx hb d_Course_tick_61 (by decide) ?_
        exact zc_zret X hr hlocks hB (by rfl) (by subst emi_6; subst emi_5; rfl) (by subst emi_6; subst emi_5; rfl) (by subst emi_6; subst emi_5; rfl) d_Course_tick_62
    · rw [if_pos c_19]
      refine lv_aload_n hx hb d_Course_tick_22 rfl (lv_at hl 1 rfl) ?_
      refine lv_iload_n hx hb d_Course_tick_23 rfl (lv_at hl 2 rfl) ?_
      refine zw_callVr X hB mv_Course_164 5 (hs 5 _ rfl) rfl (c_Course_take hn hs z mi ml wk hI hw) rfl hl.1 ⟨Nat.le_of_ble_eq_true rfl, Nat.le_of_ble_eq_true rfl⟩ rfl (Nat.le_of_ble_eq_true rfl) ⟨Nat.le_of_ble_eq_true rfl, Nat.le_of_ble_eq_true rfl⟩ d_Course_tick_24 (fun H locs hB => ?_)
      obtain ⟨mi_7, emi_7⟩ : ∃ y, y = (p_take n wk mi).2 := ⟨_, rfl⟩
      rw [← emi_7] at hB
      exact zc_zret X hr hlocks hB (nz_of p_take_01) (by subst emi_7; rfl) (by subst emi_7; rfl) (by subst emi_7; rfl) d_Course_tick_27
  · rw [if_pos c_2]
    refine lv_iconst (v := 0) hx hb d_Course_tick_5 (by decide) ?_
    exact zc_zret X hr hlocks hB (by rfl) (by rfl) (by rfl) (by rfl) d_Course_tick_6

set_option maxHeartbeats 4000000 in
set_option maxRecDepth 100000 in
theorem c_Course_go {l : Launch} {D : va_G} {cA : Nat → ClassId} {ad : Nat → Nat} {sh : zw_Sh} {n : Nat} (hn : n ≤ 16) (hs : ∀ (k : Nat) (q : zw_Sp), shX n k = some q → sh k = some q) (z : Nat) (mi : zw_I) (ml : zw_L) (wk : Int32) (x : Int64) (w : Nat) (hw : w ≤ 16) (ew : wk = nI w) (hI : zi n mi) (G : zw_I → Prop) (hG : zg_K n G) (hG0 : G (p_prep n wk mi ml).1) (ht0 : (p_prep n wk mi ml).1 5 11 = 0) (htk : ∀ (wk : Int32) (mi : zw_I) (ml : zw_L), (p_tick n wk mi ml).2.1 5 11 = mi 5 11) :
    zc_M l D cA Y_Course_go 4 0 0 ad sh sh z [.ref (ad 5), .int wk, .long x] mi ml (some (.int (p_goE (p_go n wk x mi ml).1))) ((p_go n wk x mi ml).2.1) ((p_go n wk x mi ml).2.2) z := by
  refine zc_enter (own := R_Course) (by decide) rfl (Nat.le_of_ble_eq_true rfl) ?_
  intro p e s m below meth c X hr hlocks hnm hB ls hl
  have X : zw_C D cA R_Course prog_2_method_3_code 7 p m c s := X
  have hr : meth.sig.returnType = (some FieldType.int) := hr
  have hx := X.1
  have hb := X.2.1
  have hl : lv_has ls 7 [(0, .ref (ad 5)), (1, .int wk), (2, .long x)] := hl
  have loop : ∀ (f i : Nat) (y : Int64) (e0 : Int32) (mi : zw_I) (ml : zw_L) (H : Heap) (locs : List Loc) (ls : Array Slot), i + f = 20001 → i ≤ 20000 → mi 5 11 = nI i → G mi → zw_B D cA ad sh (zw_A ad sh z) s.heap mi ml z H locs → lv_has ls 7 [(6, .int e0), (4, .long y), (0, .ref (ad 5))] →
      zc_W l D cA ad sh sh z [.ref (ad 5), .int wk, .long x] 4 0 0 (some (.int (p_goE (p_loop n f y e0 mi ml).1))) ((p_loop n f y e0 mi ml).2.1) ((p_loop n f y e0 mi ml).2.2) z p e s m below meth c H locs 0 0 (F0 m 14 ls []) := by
    intro f
    induction f with
    | zero =>
      intro i y e0 mi ml H locs ls hi h2 et hg hB hl
      omega
    | succ f ih =>
      intro i y e0 mi ml H locs ls hi h2 et hg hB hl
      rw [p_loop]
      refine lv_iload hx hb d_Course_go_14 (lv_at hl 0 rfl) ?_
      refine lv_iconst (v := 2) hx hb d_Course_go_16 (by decide) ?_
      refine lv_icmp_ne (tgt := 77) hx hb d_Course_go_17 (by decide) (fun c_17 => ?_) (fun c_17 => ?_)
      · rw [if_neg c_17]
        dsimp only
        unfold p_goE
        refine lv_iload hx hb d_Course_go_77 (lv_at hl 0 rfl) ?_
        refine lv_iconst (v := 2) hx hb d_Course_go_79 (by decide) ?_
        refine lv_icmp_ne (tgt := 88) hx hb d_Course_go_80 (by decide) (fun c_80 => ?_) (fun c_80 => ?_)
        · rw [if_neg c_80]
          refine lv_iload hx hb d_Course_go_88 (lv_at hl 0 rfl) ?_
          exact zc_iret X hr hlocks hB (by rfl) (by rfl) (by rfl) d_Course_go_90
        · rw [if_pos c_80]
          refine lv_bipush (v := (-3)) hx hb d_Course_go_83 (by decide) ?_
          refine lv_goto (tgt := 90) hx hb d_Course_go_85 (by decide) ?_
          exact zc_iret X hr hlocks hB (by rfl) (by rfl) (by rfl) d_Course_go_90
      · rw [if_pos c_17]
        refine lv_aload_n hx hb d_Course_go_20 rfl (lv_at hl 2 rfl) ?_
        refine zw_getI X hB fl_Course_85 5 (hs 5 _ rfl) rfl d_Course_go_21 ?_
        refine lv_sipush (v := 20000) hx hb d_Course_go_24 (by decide) ?_
        refine lv_icmp_ge (tgt := 77) hx hb d_Course_go_27 (by decide) (fun c_27 => ?_) (fun c_27 => ?_)
        · rw [if_pos c_27]
          dsimp only
          unfold p_goE
          refine lv_iload hx hb d_Course_go_77 (lv_at hl 0 rfl) ?_
          refine lv_iconst (v := 2) hx hb d_Course_go_79 (by decide) ?_
          refine lv_icmp_ne (tgt := 88) hx hb d_Course_go_80 (by decide) (fun c_80 => ?_) (fun c_80 => ?_)
          · rw [if_neg c_80]
            refine lv_iload hx hb d_Course_go_88 (lv_at hl 0 rfl) ?_
            exact zc_iret X hr hlocks hB (by rfl) (by rfl) (by rfl) d_Course_go_90
          · rw [if_pos c_80]
            refine lv_bipush (v := (-3)) hx hb d_Course_go_83 (by decide) ?_
            refine lv_goto (tgt := 90) hx hb d_Course_go_85 (by decide) ?_
            exact zc_iret X hr hlocks hB (by rfl) (by rfl) (by rfl) d_Course_go_90
        · rw [if_neg c_27]
          have hlt : i < 20000 := by
            rcases Nat.lt_or_ge i 20000 with q | q
            · exact q
            · exact absurd (by rw [et]; exact nI_le (a := 20000) q (by omega)) c_27
          obtain ⟨k1, k2, k3, k4⟩ := hG.2.2 mi (p_x y) hg
          have hIt : zi n (p_t1 mi) := zi_t1 hn (hG.1 mi hg)
          have hg2 := hG.2.1 mi ml (p_x y) hg
          have et2 : (p_tick n (p_turn (p_t1 mi) (p_x y)) (p_t1 mi) ml).2.1 5 11 = nI (i + 1) := by rw [htk, ← nI_1 i, ← et]; exact zw_up_self _ _ _ _
          refine lv_lload hx hb d_Course_go_30 (lv_at hl 1 rfl) ?_
          refine lv_ldc2 (v := 6364136223846793005) hx hb X.2.2.2.1 (X.2.2.2.2.ts _ kc_Course_104) d_Course_go_32 ?_
          refine lv_lmul hx hb d_Course_go_35 ?_
          refine lv_ldc2 (v := 1442695040888963407) hx hb X.2.2.2.1 (X.2.2.2.2.ts _ kc_Course_106) d_Course_go_36 ?_
          refine lv_ladd hx hb d_Course_go_39 ?_
          refine lv_lstore (lv' := [(4, .long (p_x y)), (6, .int e0), (0, .ref (ad 5))]) hx hb d_Course_go_40 hl (by decide) rfl (fun ls hl => ?_)
          refine lv_aload_n hx hb d_Course_go_42 rfl (lv_at hl 2 rfl) ?_
          refine lv_dup hx hb d_Course_go_43 rfl ?_
          refine zw_getI X hB fl_Course_85 5 (hs 5 _ rfl) rfl d_Course_go_44 ?_
          refine lv_iconst (v := 1) hx hb d_Course_go_47 (by decide) ?_
          refine lv_iadd hx hb d_Course_go_48 ?_
          refine zw_putI X hB fp_Course_85 (fun h => by cases h) 5 (hs 5 _ rfl) rfl d_Course_go_49 (fun H locs hB => ?_)
          have hB : zw_B D cA ad sh (zw_A ad sh z) s.heap (p_t1 mi) ml z H locs := hB
          refine lv_aload_n hx hb d_Course_go_52 rfl (lv_at hl 2 rfl) ?_
          refine lv_aload_n hx hb d_Course_go_53 rfl (lv_at hl 2 rfl) ?_
          refine zw_getR X hB fl_Course_33 5 (hs 5 _ rfl) rfl d_Course_go_54 ?_
          refine lv_lload hx hb d_Course_go_57 (lv_at hl 0 rfl) ?_
          refine zw_callVr X hB mv_Course_108 6 (hs 6 _ rfl) rfl (c_Crew_whoseTurn hn hs z (p_t1 mi) ml (p_x y) k1 k2) rfl hl.1 ⟨Nat.le_of_ble_eq_true rfl, Nat.le_of_ble_eq_true rfl⟩ rfl (Nat.le_of_ble_eq_true rfl) ⟨Nat.le_of_ble_eq_true rfl, Nat.le_of_ble_eq_true rfl⟩ d_Course_go_59 (fun H locs hB => ?_)
          refine zw_callVr X hB mv_Course_112 5 (hs 5 _ rfl) rfl (c_Course_tick hn hs z (p_t1 mi) ml (p_turn (p_t1 mi) (p_x y)) hIt k3 k4) rfl hl.1 ⟨Nat.le_of_ble_eq_true rfl, Nat.le_of_ble_eq_true rfl⟩ rfl (Nat.le_of_ble_eq_true rfl) ⟨Nat.le_of_ble_eq_true rfl, Nat.le_of_ble_eq_true rfl⟩ d_Course_go_62 (fun H locs hB => ?_)
          refine lv_if_eq (tgt := 14) hx hb d_Course_go_65 (by decide) (fun c_65 => ?_) (fun c_65 => ?_)
          · rw [if_pos c_65]
            exact ih (i + 1) _ _ _ _ H locs ls (by omega) (by omega) et2 hg2 hB (lv_sub hl [1, 0, 2] rfl)
          · rw [if_neg c_65]
            refine lv_aload_n hx hb d_Course_go_68 rfl (lv_at hl 2 rfl) ?_
            refine zw_callVr X hB mv_Course_100 5 (hs 5 _ rfl) rfl (c_Course_endByState hn hs z ((p_tick n (p_turn (p_t1 mi) (p_x y)) (p_t1 mi) ml).2.1) ((p_tick n (p_turn (p_t1 mi) (p_x y)) (p_t1 mi) ml).2.2) (hG.1 _ hg2)) rfl hl.1 ⟨Nat.le_of_ble_eq_true rfl, Nat.le_of_ble_eq_true rfl⟩ rfl (Nat.le_of_ble_eq_true rfl) ⟨Nat.le_of_ble_eq_true rfl, Nat.le_of_ble_eq_true rfl⟩ d_Course_go_69 (fun H locs hB => ?_)
            refine lv_istore (lv' := [(6, .int (p_end ((p_tick n (p_turn (p_t1 mi) (p_x y)) (p_t1 mi) ml).2.1))), (4, .long (p_x y)), (0, .ref (ad 5))]) hx hb d_Course_go_72 hl (by decide) rfl (fun ls hl => ?_)
            refine lv_goto (tgt := 14) hx hb d_Course_go_74 (by decide) ?_
            exact ih (i + 1) _ _ _ _ H locs ls (by omega) (by omega) et2 hg2 hB (lv_sub hl [0, 1, 2] rfl)
  refine lv_aload_n hx hb d_Course_go_0 rfl (lv_at hl 0 rfl) ?_
  refine lv_iload_n hx hb d_Course_go_1 rfl (lv_at hl 1 rfl) ?_
  refine zw_callVv X hB mv_Course_97 5 (hs 5 _ rfl) rfl (c_Course_prepare hn hs z mi ml wk w hw ew hI.1.2.1 hI.2.2.1.choose hI.2.2.1.choose_spec.1 hI.2.2.1.choose_spec.2) rfl hl.1 ⟨Nat.le_of_ble_eq_true rfl, Nat.le_of_ble_eq_true rfl⟩ rfl (Nat.le_of_ble_eq_true rfl) ⟨Nat.le_of_ble_eq_true rfl, Nat.le_of_ble_eq_true rfl⟩ d_Course_go_2 (fun H locs hB => ?_)
  refine lv_lload_n hx hb d_Course_go_5 rfl (lv_at hl 2 rfl) ?_
  refine lv_lstore (lv' := [(4, .long x), (0, .ref (ad 5)), (1, .int wk), (2, .long x)]) hx hb d_Course_go_6 hl (by decide) rfl (fun ls hl => ?_)
  refine lv_aload_n hx hb d_Course_go_8 rfl (lv_at hl 1 rfl) ?_
  refine zw_callVr X hB mv_Course_100 5 (hs 5 _ rfl) rfl (c_Course_endByState hn hs z ((p_prep n wk mi ml).1) ((p_prep n wk mi ml).2) (hG.1 _ hG0)) rfl hl.1 ⟨Nat.le_of_ble_eq_true rfl, Nat.le_of_ble_eq_true rfl⟩ rfl (Nat.le_of_ble_eq_true rfl) ⟨Nat.le_of_ble_eq_true rfl, Nat.le_of_ble_eq_true rfl⟩ d_Course_go_9 (fun H locs hB => ?_)
  refine lv_istore (lv' := [(6, .int (p_end ((p_prep n wk mi ml).1))), (4, .long x), (0, .ref (ad 5)), (1, .int wk), (2, .long x)]) hx hb d_Course_go_12 hl (by decide) rfl (fun ls hl => ?_)
  exact loop 20001 0 _ _ _ _ H locs ls rfl (by omega) ht0 hG0 hB (lv_sub hl [0, 1, 2] rfl)
end
section
theorem zt_out {x : Int32} (h0 : ¬ x = 0) (h1 : ¬ x = 1) (h2 : ¬ x = 2) (h3 : ¬ x = 3) (h4 : ¬ x = 4) (h5 : ¬ x = 5) (h6 : ¬ x = 6) (h7 : ¬ x = 7) (h8 : ¬ x = 8) (h9 : ¬ x = 9) (h10 : ¬ x = 10) (h11 : ¬ x = 11) : x.toInt < 0 ∨ 11 < x.toInt := by
  by_cases c : vp_in x 12
  · obtain ⟨j, hj, e⟩ := vp_in_of c (by decide)
    exfalso
    rcases (show j = 0 ∨ j = 1 ∨ j = 2 ∨ j = 3 ∨ j = 4 ∨ j = 5 ∨ j = 6 ∨ j = 7 ∨ j = 8 ∨ j = 9 ∨ j = 10 ∨ j = 11 by omega) with rfl | rfl | rfl | rfl | rfl | rfl | rfl | rfl | rfl | rfl | rfl | rfl
    · exact h0 e
    · exact h1 e
    · exact h2 e
    · exact h3 e
    · exact h4 e
    · exact h5 e
    · exact h6 e
    · exact h7 e
    · exact h8 e
    · exact h9 e
    · exact h10 e
    · exact h11 e
  · rw [vp_in_iff] at c
    omega
def p_within (x lo hi : Int32) : Int32 := if x < lo then 0 else if hi < x then 0 else 1
theorem p_within_01 {x lo hi : Int32} : p_within x lo hi = 0 ∨ p_within x lo hi = 1 := by
  unfold p_within
  split
  · exact Or.inl rfl
  · split
    · exact Or.inl rfl
    · exact Or.inr rfl
theorem p_isFin_01 {mi : zw_I} {x : Int32} : p_isFin mi x = 0 ∨ p_isFin mi x = 1 := by
  unfold p_isFin
  split
  · exact Or.inl rfl
  · exact Or.inr rfl
def p_nearest (x lo hi : Int32) : Int32 := if lo < (if x < hi then x else hi) then (if x < hi then x else hi) else lo
def p_isShare (mi : zw_I) (x : Int32) : Int32 := p_within x 0 (mi 1 0 - 1)
def p_count (n : Nat) (mi : zw_I) : Nat → Int32 → Int32 → Int32
  | 0, a, _ => a
  | f + 1, a, k => if nI n ≤ k then a else if mi 20 k.toNatClampNeg = 0 then p_count n mi f a (k + 1) else p_count n mi f (a + 1) (k + 1)
def p_told (n : Nat) (mi : zw_I) (x : Int32) : Int32 := if x = 0 then mi 1 0 else if x = 1 then mi 1 1 else if x = 2 then mi 3 5 else if x = 3 then mi 1 7 else if x = 4 then mi 5 11 else if x = 5 then mi 5 12 else if x = 6 then mi 5 13 else if x = 7 then mi 5 14 else if x = 8 then mi 5 10 else if x = 9 then mi 6 2 else if x = 10 then mi 5 8 else if x = 11 then p_count n mi (n + 1) 0 0 else -1
def p_putB (k : Int32) (mi : zw_I) (ml : zw_L) : zw_L := zw_up ml 21 k.toNatClampNeg (ml (112 + k.toNatClampNeg) (mi 7 k.toNatClampNeg).toNatClampNeg)
def p_put (n : Nat) : Nat → Int32 → zw_I → zw_L → zw_I × zw_L
  | 0, _, mi, ml => (mi, ml)
  | f + 1, k, mi, ml => if nI n ≤ k then (mi, ml) else if zw_up mi 20 k.toNatClampNeg (p_isFin mi k) 20 k.toNatClampNeg = 0 then p_put n f (k + 1) (zw_up mi 20 k.toNatClampNeg (p_isFin mi k)) ml else p_put n f (k + 1) (zw_up mi 20 k.toNatClampNeg (p_isFin mi k)) (p_putB k (zw_up mi 20 k.toNatClampNeg (p_isFin mi k)) ml)
def p_unset (n : Nat) : Nat → Int32 → zw_I → zw_I
  | 0, _, mi => mi
  | f + 1, k, mi => if nI n ≤ k then mi else p_unset n f (k + 1) (zw_up mi 20 k.toNatClampNeg 0)
def p_clear (n : Nat) (mi : zw_I) (ml : zw_L) : zw_I × zw_L := (p_unset n (n + 1) 0 (p_prep n 0 (p_reset n (n + 1) 0 mi ml).1 (p_reset n (n + 1) 0 mi ml).2).1, (p_prep n 0 (p_reset n (n + 1) 0 mi ml).1 (p_reset n (n + 1) 0 mi ml).2).2)
end
section
abbrev Y_TS_isWithin : zc_Y := (⟨R_TS, "isWithin", "(III)Z"⟩, prog_1_method_15_code, 3, (some FieldType.boolean))
abbrev Y_TS_isStep : zc_Y := (⟨R_TS, "isStep", "(I)Z"⟩, prog_1_method_16_code, 1, (some FieldType.boolean))
abbrev Y_TS_isShare : zc_Y := (⟨R_TS, "isShare", "(I)Z"⟩, prog_1_method_17_code, 2, (some FieldType.boolean))
abbrev Y_TS_nearest : zc_Y := (⟨R_TS, "nearest", "(III)I"⟩, prog_1_method_14_code, 3, (some FieldType.int))
abbrev Y_TS_countValues : zc_Y := (⟨R_TS, "countValues", "()I"⟩, prog_1_method_19_code, 3, (some FieldType.int))
abbrev Y_TS_told : zc_Y := (⟨R_TS, "told", "(I)I"⟩, prog_1_method_12_code, 2, (some FieldType.int))
abbrev Y_TS_putValues : zc_Y := (⟨R_TS, "putValues", "()V"⟩, prog_1_method_18_code, 2, none)
abbrev Y_TS_clear : zc_Y := (⟨R_TS, "clear", "()V"⟩, prog_1_method_13_code, 2, none)
theorem d_TS_isWithin_0 : decode prog_1_method_15_code 0 = .ok (.iload_n 0, 1) := by decide +kernel
theorem d_TS_isWithin_1 : decode prog_1_method_15_code 1 = .ok (.iload_n 1, 1) := by decide +kernel
theorem d_TS_isWithin_2 : decode prog_1_method_15_code 2 = .ok (.if_icmp .lt 12, 3) := by decide +kernel
theorem d_TS_isWithin_5 : decode prog_1_method_15_code 5 = .ok (.iload_n 0, 1) := by decide +kernel
theorem d_TS_isWithin_6 : decode prog_1_method_15_code 6 = .ok (.iload_n 2, 1) := by decide +kernel
theorem d_TS_isWithin_7 : decode prog_1_method_15_code 7 = .ok (.if_icmp .gt 7, 3) := by decide +kernel
theorem d_TS_isWithin_10 : decode prog_1_method_15_code 10 = .ok (.iconst 1, 1) := by decide +kernel
theorem d_TS_isWithin_11 : decode prog_1_method_15_code 11 = .ok (.goto 4, 3) := by decide +kernel
theorem d_TS_isWithin_14 : decode prog_1_method_15_code 14 = .ok (.iconst 0, 1) := by decide +kernel
theorem d_TS_isWithin_15 : decode prog_1_method_15_code 15 = .ok (.ireturn, 1) := by decide +kernel
theorem d_TS_isStep_0 : decode prog_1_method_16_code 0 = .ok (.iload_n 0, 1) := by decide +kernel
theorem d_TS_isStep_1 : decode prog_1_method_16_code 1 = .ok (.iconst 0, 1) := by decide +kernel
theorem d_TS_isStep_2 : decode prog_1_method_16_code 2 = .ok (.bipush 19, 2) := by decide +kernel
theorem d_TS_isStep_4 : decode prog_1_method_16_code 4 = .ok (.invokestatic 50, 3) := by decide +kernel
theorem d_TS_isStep_7 : decode prog_1_method_16_code 7 = .ok (.ireturn, 1) := by decide +kernel
theorem d_TS_isShare_0 : decode prog_1_method_17_code 0 = .ok (.iload_n 1, 1) := by decide +kernel
theorem d_TS_isShare_1 : decode prog_1_method_17_code 1 = .ok (.iconst 0, 1) := by decide +kernel
theorem d_TS_isShare_2 : decode prog_1_method_17_code 2 = .ok (.aload_n 0, 1) := by decide +kernel
theorem d_TS_isShare_3 : decode prog_1_method_17_code 3 = .ok (.getfield 18, 3) := by decide +kernel
theorem d_TS_isShare_6 : decode prog_1_method_17_code 6 = .ok (.getfield 141, 3) := by decide +kernel
theorem d_TS_isShare_9 : decode prog_1_method_17_code 9 = .ok (.iconst 1, 1) := by decide +kernel
theorem d_TS_isShare_10 : decode prog_1_method_17_code 10 = .ok (.isub, 1) := by decide +kernel
theorem d_TS_isShare_11 : decode prog_1_method_17_code 11 = .ok (.invokestatic 50, 3) := by decide +kernel
theorem d_TS_isShare_14 : decode prog_1_method_17_code 14 = .ok (.ireturn, 1) := by decide +kernel
theorem d_TS_nearest_0 : decode prog_1_method_14_code 0 = .ok (.iload_n 1, 1) := by decide +kernel
theorem d_TS_nearest_1 : decode prog_1_method_14_code 1 = .ok (.iload_n 2, 1) := by decide +kernel
theorem d_TS_nearest_2 : decode prog_1_method_14_code 2 = .ok (.iload_n 0, 1) := by decide +kernel
theorem d_TS_nearest_3 : decode prog_1_method_14_code 3 = .ok (.invokestatic 177, 3) := by decide +kernel
theorem d_TS_nearest_6 : decode prog_1_method_14_code 6 = .ok (.invokestatic 183, 3) := by decide +kernel
theorem d_TS_nearest_9 : decode prog_1_method_14_code 9 = .ok (.ireturn, 1) := by decide +kernel
theorem d_TS_countValues_0 : decode prog_1_method_19_code 0 = .ok (.iconst 0, 1) := by decide +kernel
theorem d_TS_countValues_1 : decode prog_1_method_19_code 1 = .ok (.istore_n 1, 1) := by decide +kernel
theorem d_TS_countValues_2 : decode prog_1_method_19_code 2 = .ok (.iconst 0, 1) := by decide +kernel
theorem d_TS_countValues_3 : decode prog_1_method_19_code 3 = .ok (.istore_n 2, 1) := by decide +kernel
theorem d_TS_countValues_4 : decode prog_1_method_19_code 4 = .ok (.iload_n 2, 1) := by decide +kernel
theorem d_TS_countValues_5 : decode prog_1_method_19_code 5 = .ok (.aload_n 0, 1) := by decide +kernel
theorem d_TS_countValues_6 : decode prog_1_method_19_code 6 = .ok (.getfield 31, 3) := by decide +kernel
theorem d_TS_countValues_9 : decode prog_1_method_19_code 9 = .ok (.arraylength, 1) := by decide +kernel
theorem d_TS_countValues_10 : decode prog_1_method_19_code 10 = .ok (.if_icmp .ge 21, 3) := by decide +kernel
theorem d_TS_countValues_13 : decode prog_1_method_19_code 13 = .ok (.aload_n 0, 1) := by decide +kernel
theorem d_TS_countValues_14 : decode prog_1_method_19_code 14 = .ok (.getfield 31, 3) := by decide +kernel
theorem d_TS_countValues_17 : decode prog_1_method_19_code 17 = .ok (.iload_n 2, 1) := by decide +kernel
theorem d_TS_countValues_18 : decode prog_1_method_19_code 18 = .ok (.baload, 1) := by decide +kernel
theorem d_TS_countValues_19 : decode prog_1_method_19_code 19 = .ok (.ifCond .eq 6, 3) := by decide +kernel
theorem d_TS_countValues_22 : decode prog_1_method_19_code 22 = .ok (.iinc 1 1, 3) := by decide +kernel
theorem d_TS_countValues_25 : decode prog_1_method_19_code 25 = .ok (.iinc 2 1, 3) := by decide +kernel
theorem d_TS_countValues_28 : decode prog_1_method_19_code 28 = .ok (.goto (-24), 3) := by decide +kernel
theorem d_TS_countValues_31 : decode prog_1_method_19_code 31 = .ok (.iload_n 1, 1) := by decide +kernel
theorem d_TS_countValues_32 : decode prog_1_method_19_code 32 = .ok (.ireturn, 1) := by decide +kernel
theorem d_TS_told_0 : decode prog_1_method_12_code 0 = .ok (.iload_n 1, 1) := by decide +kernel
theorem d_TS_told_1 : decode prog_1_method_12_code 1 = .ok (.tableswitch 162 0 11 #[63, 71, 79, 90, 98, 106, 114, 122, 130, 138, 149, 157], 63) := by decide +kernel
theorem d_TS_told_64 : decode prog_1_method_12_code 64 = .ok (.aload_n 0, 1) := by decide +kernel
theorem d_TS_told_65 : decode prog_1_method_12_code 65 = .ok (.getfield 18, 3) := by decide +kernel
theorem d_TS_told_68 : decode prog_1_method_12_code 68 = .ok (.getfield 141, 3) := by decide +kernel
theorem d_TS_told_71 : decode prog_1_method_12_code 71 = .ok (.ireturn, 1) := by decide +kernel
theorem d_TS_told_72 : decode prog_1_method_12_code 72 = .ok (.aload_n 0, 1) := by decide +kernel
theorem d_TS_told_73 : decode prog_1_method_12_code 73 = .ok (.getfield 18, 3) := by decide +kernel
theorem d_TS_told_76 : decode prog_1_method_12_code 76 = .ok (.getfield 54, 3) := by decide +kernel
theorem d_TS_told_79 : decode prog_1_method_12_code 79 = .ok (.ireturn, 1) := by decide +kernel
theorem d_TS_told_80 : decode prog_1_method_12_code 80 = .ok (.aload_n 0, 1) := by decide +kernel
theorem d_TS_told_81 : decode prog_1_method_12_code 81 = .ok (.getfield 18, 3) := by decide +kernel
theorem d_TS_told_84 : decode prog_1_method_12_code 84 = .ok (.getfield 98, 3) := by decide +kernel
theorem d_TS_told_87 : decode prog_1_method_12_code 87 = .ok (.getfield 102, 3) := by decide +kernel
theorem d_TS_told_90 : decode prog_1_method_12_code 90 = .ok (.ireturn, 1) := by decide +kernel
theorem d_TS_told_91 : decode prog_1_method_12_code 91 = .ok (.aload_n 0, 1) := by decide +kernel
theorem d_TS_told_92 : decode prog_1_method_12_code 92 = .ok (.getfield 18, 3) := by decide +kernel
theorem d_TS_told_95 : decode prog_1_method_12_code 95 = .ok (.getfield 109, 3) := by decide +kernel
theorem d_TS_told_98 : decode prog_1_method_12_code 98 = .ok (.ireturn, 1) := by decide +kernel
theorem d_TS_told_99 : decode prog_1_method_12_code 99 = .ok (.aload_n 0, 1) := by decide +kernel
theorem d_TS_told_100 : decode prog_1_method_12_code 100 = .ok (.getfield 27, 3) := by decide +kernel
theorem d_TS_told_103 : decode prog_1_method_12_code 103 = .ok (.getfield 144, 3) := by decide +kernel
theorem d_TS_told_106 : decode prog_1_method_12_code 106 = .ok (.ireturn, 1) := by decide +kernel
theorem d_TS_told_107 : decode prog_1_method_12_code 107 = .ok (.aload_n 0, 1) := by decide +kernel
theorem d_TS_told_108 : decode prog_1_method_12_code 108 = .ok (.getfield 27, 3) := by decide +kernel
theorem d_TS_told_111 : decode prog_1_method_12_code 111 = .ok (.getfield 147, 3) := by decide +kernel
theorem d_TS_told_114 : decode prog_1_method_12_code 114 = .ok (.ireturn, 1) := by decide +kernel
theorem d_TS_told_115 : decode prog_1_method_12_code 115 = .ok (.aload_n 0, 1) := by decide +kernel
theorem d_TS_told_116 : decode prog_1_method_12_code 116 = .ok (.getfield 27, 3) := by decide +kernel
theorem d_TS_told_119 : decode prog_1_method_12_code 119 = .ok (.getfield 150, 3) := by decide +kernel
theorem d_TS_told_122 : decode prog_1_method_12_code 122 = .ok (.ireturn, 1) := by decide +kernel
theorem d_TS_told_123 : decode prog_1_method_12_code 123 = .ok (.aload_n 0, 1) := by decide +kernel
theorem d_TS_told_124 : decode prog_1_method_12_code 124 = .ok (.getfield 27, 3) := by decide +kernel
theorem d_TS_told_127 : decode prog_1_method_12_code 127 = .ok (.getfield 153, 3) := by decide +kernel
theorem d_TS_told_130 : decode prog_1_method_12_code 130 = .ok (.ireturn, 1) := by decide +kernel
theorem d_TS_told_131 : decode prog_1_method_12_code 131 = .ok (.aload_n 0, 1) := by decide +kernel
theorem d_TS_told_132 : decode prog_1_method_12_code 132 = .ok (.getfield 27, 3) := by decide +kernel
theorem d_TS_told_135 : decode prog_1_method_12_code 135 = .ok (.getfield 156, 3) := by decide +kernel
theorem d_TS_told_138 : decode prog_1_method_12_code 138 = .ok (.ireturn, 1) := by decide +kernel
theorem d_TS_told_139 : decode prog_1_method_12_code 139 = .ok (.aload_n 0, 1) := by decide +kernel
theorem d_TS_told_140 : decode prog_1_method_12_code 140 = .ok (.getfield 27, 3) := by decide +kernel
theorem d_TS_told_143 : decode prog_1_method_12_code 143 = .ok (.getfield 159, 3) := by decide +kernel
theorem d_TS_told_146 : decode prog_1_method_12_code 146 = .ok (.getfield 163, 3) := by decide +kernel
theorem d_TS_told_149 : decode prog_1_method_12_code 149 = .ok (.ireturn, 1) := by decide +kernel
theorem d_TS_told_150 : decode prog_1_method_12_code 150 = .ok (.aload_n 0, 1) := by decide +kernel
theorem d_TS_told_151 : decode prog_1_method_12_code 151 = .ok (.getfield 27, 3) := by decide +kernel
theorem d_TS_told_154 : decode prog_1_method_12_code 154 = .ok (.getfield 126, 3) := by decide +kernel
theorem d_TS_told_157 : decode prog_1_method_12_code 157 = .ok (.ireturn, 1) := by decide +kernel
theorem d_TS_told_158 : decode prog_1_method_12_code 158 = .ok (.aload_n 0, 1) := by decide +kernel
theorem d_TS_told_159 : decode prog_1_method_12_code 159 = .ok (.invokevirtual 166, 3) := by decide +kernel
theorem d_TS_told_162 : decode prog_1_method_12_code 162 = .ok (.ireturn, 1) := by decide +kernel
theorem d_TS_told_163 : decode prog_1_method_12_code 163 = .ok (.iconst (-1), 1) := by decide +kernel
theorem d_TS_told_164 : decode prog_1_method_12_code 164 = .ok (.ireturn, 1) := by decide +kernel
theorem d_TS_putValues_0 : decode prog_1_method_18_code 0 = .ok (.iconst 0, 1) := by decide +kernel
theorem d_TS_putValues_1 : decode prog_1_method_18_code 1 = .ok (.istore_n 1, 1) := by decide +kernel
theorem d_TS_putValues_2 : decode prog_1_method_18_code 2 = .ok (.iload_n 1, 1) := by decide +kernel
theorem d_TS_putValues_3 : decode prog_1_method_18_code 3 = .ok (.aload_n 0, 1) := by decide +kernel
theorem d_TS_putValues_4 : decode prog_1_method_18_code 4 = .ok (.getfield 31, 3) := by decide +kernel
theorem d_TS_putValues_7 : decode prog_1_method_18_code 7 = .ok (.arraylength, 1) := by decide +kernel
theorem d_TS_putValues_8 : decode prog_1_method_18_code 8 = .ok (.if_icmp .ge 57, 3) := by decide +kernel
theorem d_TS_putValues_11 : decode prog_1_method_18_code 11 = .ok (.aload_n 0, 1) := by decide +kernel
theorem d_TS_putValues_12 : decode prog_1_method_18_code 12 = .ok (.getfield 31, 3) := by decide +kernel
theorem d_TS_putValues_15 : decode prog_1_method_18_code 15 = .ok (.iload_n 1, 1) := by decide +kernel
theorem d_TS_putValues_16 : decode prog_1_method_18_code 16 = .ok (.aload_n 0, 1) := by decide +kernel
theorem d_TS_putValues_17 : decode prog_1_method_18_code 17 = .ok (.getfield 27, 3) := by decide +kernel
theorem d_TS_putValues_20 : decode prog_1_method_18_code 20 = .ok (.iload_n 1, 1) := by decide +kernel
theorem d_TS_putValues_21 : decode prog_1_method_18_code 21 = .ok (.invokevirtual 186, 3) := by decide +kernel
theorem d_TS_putValues_24 : decode prog_1_method_18_code 24 = .ok (.bastore, 1) := by decide +kernel
theorem d_TS_putValues_25 : decode prog_1_method_18_code 25 = .ok (.aload_n 0, 1) := by decide +kernel
theorem d_TS_putValues_26 : decode prog_1_method_18_code 26 = .ok (.getfield 31, 3) := by decide +kernel
theorem d_TS_putValues_29 : decode prog_1_method_18_code 29 = .ok (.iload_n 1, 1) := by decide +kernel
theorem d_TS_putValues_30 : decode prog_1_method_18_code 30 = .ok (.baload, 1) := by decide +kernel
theorem d_TS_putValues_31 : decode prog_1_method_18_code 31 = .ok (.ifCond .eq 28, 3) := by decide +kernel
theorem d_TS_putValues_34 : decode prog_1_method_18_code 34 = .ok (.aload_n 0, 1) := by decide +kernel
theorem d_TS_putValues_35 : decode prog_1_method_18_code 35 = .ok (.getfield 35, 3) := by decide +kernel
theorem d_TS_putValues_38 : decode prog_1_method_18_code 38 = .ok (.iload_n 1, 1) := by decide +kernel
theorem d_TS_putValues_39 : decode prog_1_method_18_code 39 = .ok (.aload_n 0, 1) := by decide +kernel
theorem d_TS_putValues_40 : decode prog_1_method_18_code 40 = .ok (.getfield 27, 3) := by decide +kernel
theorem d_TS_putValues_43 : decode prog_1_method_18_code 43 = .ok (.getfield 189, 3) := by decide +kernel
theorem d_TS_putValues_46 : decode prog_1_method_18_code 46 = .ok (.iload_n 1, 1) := by decide +kernel
theorem d_TS_putValues_47 : decode prog_1_method_18_code 47 = .ok (.aaload, 1) := by decide +kernel
theorem d_TS_putValues_48 : decode prog_1_method_18_code 48 = .ok (.aload_n 0, 1) := by decide +kernel
theorem d_TS_putValues_49 : decode prog_1_method_18_code 49 = .ok (.getfield 18, 3) := by decide +kernel
theorem d_TS_putValues_52 : decode prog_1_method_18_code 52 = .ok (.getfield 63, 3) := by decide +kernel
theorem d_TS_putValues_55 : decode prog_1_method_18_code 55 = .ok (.iload_n 1, 1) := by decide +kernel
theorem d_TS_putValues_56 : decode prog_1_method_18_code 56 = .ok (.iaload, 1) := by decide +kernel
theorem d_TS_putValues_57 : decode prog_1_method_18_code 57 = .ok (.laload, 1) := by decide +kernel
theorem d_TS_putValues_58 : decode prog_1_method_18_code 58 = .ok (.lastore, 1) := by decide +kernel
theorem d_TS_putValues_59 : decode prog_1_method_18_code 59 = .ok (.iinc 1 1, 3) := by decide +kernel
theorem d_TS_putValues_62 : decode prog_1_method_18_code 62 = .ok (.goto (-60), 3) := by decide +kernel
theorem d_TS_putValues_65 : decode prog_1_method_18_code 65 = .ok (.return_, 1) := by decide +kernel
theorem d_TS_clear_0 : decode prog_1_method_13_code 0 = .ok (.aload_n 0, 1) := by decide +kernel
theorem d_TS_clear_1 : decode prog_1_method_13_code 1 = .ok (.getfield 18, 3) := by decide +kernel
theorem d_TS_clear_4 : decode prog_1_method_13_code 4 = .ok (.invokevirtual 170, 3) := by decide +kernel
theorem d_TS_clear_7 : decode prog_1_method_13_code 7 = .ok (.aload_n 0, 1) := by decide +kernel
theorem d_TS_clear_8 : decode prog_1_method_13_code 8 = .ok (.getfield 27, 3) := by decide +kernel
theorem d_TS_clear_11 : decode prog_1_method_13_code 11 = .ok (.iconst 0, 1) := by decide +kernel
theorem d_TS_clear_12 : decode prog_1_method_13_code 12 = .ok (.invokevirtual 173, 3) := by decide +kernel
theorem d_TS_clear_15 : decode prog_1_method_13_code 15 = .ok (.iconst 0, 1) := by decide +kernel
theorem d_TS_clear_16 : decode prog_1_method_13_code 16 = .ok (.istore_n 1, 1) := by decide +kernel
theorem d_TS_clear_17 : decode prog_1_method_13_code 17 = .ok (.iload_n 1, 1) := by decide +kernel
theorem d_TS_clear_18 : decode prog_1_method_13_code 18 = .ok (.aload_n 0, 1) := by decide +kernel
theorem d_TS_clear_19 : decode prog_1_method_13_code 19 = .ok (.getfield 31, 3) := by decide +kernel
theorem d_TS_clear_22 : decode prog_1_method_13_code 22 = .ok (.arraylength, 1) := by decide +kernel
theorem d_TS_clear_23 : decode prog_1_method_13_code 23 = .ok (.if_icmp .ge 16, 3) := by decide +kernel
theorem d_TS_clear_26 : decode prog_1_method_13_code 26 = .ok (.aload_n 0, 1) := by decide +kernel
theorem d_TS_clear_27 : decode prog_1_method_13_code 27 = .ok (.getfield 31, 3) := by decide +kernel
theorem d_TS_clear_30 : decode prog_1_method_13_code 30 = .ok (.iload_n 1, 1) := by decide +kernel
theorem d_TS_clear_31 : decode prog_1_method_13_code 31 = .ok (.iconst 0, 1) := by decide +kernel
theorem d_TS_clear_32 : decode prog_1_method_13_code 32 = .ok (.bastore, 1) := by decide +kernel
theorem d_TS_clear_33 : decode prog_1_method_13_code 33 = .ok (.iinc 1 1, 3) := by decide +kernel
theorem d_TS_clear_36 : decode prog_1_method_13_code 36 = .ok (.goto (-19), 3) := by decide +kernel
theorem d_TS_clear_39 : decode prog_1_method_13_code 39 = .ok (.return_, 1) := by decide +kernel
theorem fl_TS_18 : zw_FL R_TS 18 6 0 := ⟨R_TS, T_TS, 4, rfl, by decide, ly_TS, Or.inl (zw_in (List.mem_of_getElem? (i := 263) (by decide +kernel)) (by decide +kernel))⟩
theorem fl_TS_27 : zw_FL R_TS 27 6 1 := ⟨R_TS, T_TS, 4, rfl, by decide, ly_TS, Or.inl (zw_in (List.mem_of_getElem? (i := 264) (by decide +kernel)) (by decide +kernel))⟩
theorem fl_TS_31 : zw_FL R_TS 31 6 2 := ⟨R_TS, T_TS, 4, rfl, by decide, ly_TS, Or.inl (zw_in (List.mem_of_getElem? (i := 265) (by decide +kernel)) (by decide +kernel))⟩
theorem fl_TS_35 : zw_FL R_TS 35 6 3 := ⟨R_TS, T_TS, 4, rfl, by decide, ly_TS, Or.inl (zw_in (List.mem_of_getElem? (i := 266) (by decide +kernel)) (by decide +kernel))⟩
theorem fl_TS_54 : zw_FL R_TS 54 5 1 := ⟨R_Plan, T_Plan, 8, rfl, by decide, ly_Plan, Or.inr ⟨"TileShares", (zw_in (List.mem_of_getElem? (i := 124) (by decide +kernel)) (by decide +kernel))⟩⟩
theorem fl_TS_63 : zw_FL R_TS 63 5 2 := ⟨R_Plan, T_Plan, 8, rfl, by decide, ly_Plan, Or.inr ⟨"TileShares", (zw_in (List.mem_of_getElem? (i := 127) (by decide +kernel)) (by decide +kernel))⟩⟩
theorem fl_TS_98 : zw_FL R_TS 98 5 6 := ⟨R_Plan, T_Plan, 8, rfl, by decide, ly_Plan, Or.inr ⟨"TileShares", (zw_in (List.mem_of_getElem? (i := 140) (by decide +kernel)) (by decide +kernel))⟩⟩
theorem fl_TS_102 : zw_FL R_TS 102 2 5 := ⟨R_Failings, T_Failings, 6, rfl, by decide, ly_Failings, Or.inr ⟨"TileShares", (zw_in (List.mem_of_getElem? (i := 102) (by decide +kernel)) (by decide +kernel))⟩⟩
theorem fl_TS_109 : zw_FL R_TS 109 5 7 := ⟨R_Plan, T_Plan, 8, rfl, by decide, ly_Plan, Or.inr ⟨"TileShares", (zw_in (List.mem_of_getElem? (i := 143) (by decide +kernel)) (by decide +kernel))⟩⟩
theorem fl_TS_126 : zw_FL R_TS 126 0 8 := ⟨R_Course, T_Course, 15, rfl, by decide, ly_Course, Or.inr ⟨"TileShares", (zw_in (List.mem_of_getElem? (i := 220) (by decide +kernel)) (by decide +kernel))⟩⟩
theorem fl_TS_141 : zw_FL R_TS 141 5 0 := ⟨R_Plan, T_Plan, 8, rfl, by decide, ly_Plan, Or.inr ⟨"TileShares", (zw_in (List.mem_of_getElem? (i := 122) (by decide +kernel)) (by decide +kernel))⟩⟩
theorem fl_TS_144 : zw_FL R_TS 144 0 11 := ⟨R_Course, T_Course, 15, rfl, by decide, ly_Course, Or.inr ⟨"TileShares", (zw_in (List.mem_of_getElem? (i := 225) (by decide +kernel)) (by decide +kernel))⟩⟩
theorem fl_TS_147 : zw_FL R_TS 147 0 12 := ⟨R_Course, T_Course, 15, rfl, by decide, ly_Course, Or.inr ⟨"TileShares", (zw_in (List.mem_of_getElem? (i := 227) (by decide +kernel)) (by decide +kernel))⟩⟩
theorem fl_TS_150 : zw_FL R_TS 150 0 13 := ⟨R_Course, T_Course, 15, rfl, by decide, ly_Course, Or.inr ⟨"TileShares", (zw_in (List.mem_of_getElem? (i := 229) (by decide +kernel)) (by decide +kernel))⟩⟩
theorem fl_TS_153 : zw_FL R_TS 153 0 14 := ⟨R_Course, T_Course, 15, rfl, by decide, ly_Course, Or.inr ⟨"TileShares", (zw_in (List.mem_of_getElem? (i := 231) (by decide +kernel)) (by decide +kernel))⟩⟩
theorem fl_TS_156 : zw_FL R_TS 156 0 10 := ⟨R_Course, T_Course, 15, rfl, by decide, ly_Course, Or.inr ⟨"TileShares", (zw_in (List.mem_of_getElem? (i := 223) (by decide +kernel)) (by decide +kernel))⟩⟩
theorem fl_TS_159 : zw_FL R_TS 159 0 2 := ⟨R_Course, T_Course, 15, rfl, by decide, ly_Course, Or.inr ⟨"TileShares", (zw_in (List.mem_of_getElem? (i := 209) (by decide +kernel)) (by decide +kernel))⟩⟩
theorem fl_TS_163 : zw_FL R_TS 163 1 2 := ⟨R_Crew, T_Crew, 3, rfl, by decide, ly_Crew, Or.inr ⟨"TileShares", (zw_in (List.mem_of_getElem? (i := 195) (by decide +kernel)) (by decide +kernel))⟩⟩
theorem fl_TS_189 : zw_FL R_TS 189 0 4 := ⟨R_Course, T_Course, 15, rfl, by decide, ly_Course, Or.inr ⟨"TileShares", (zw_in (List.mem_of_getElem? (i := 212) (by decide +kernel)) (by decide +kernel))⟩⟩
theorem mv_TS_50 : zw_MS R_TS 50 Y_TS_isWithin 3 := ⟨Or.inl (zw_in (List.mem_of_getElem? (i := 322) (by decide +kernel)) (by decide +kernel)), (zw_in (List.mem_of_getElem? (i := 323) (by decide +kernel)) (by decide +kernel)), (zw_in (List.mem_of_getElem? (i := 324) (by decide +kernel)) (by decide +kernel)), (zw_in (List.mem_of_getElem? (i := 25) (by decide +kernel)) (by decide +kernel)), by decide +kernel, by decide +kernel⟩
theorem mv_TS_166 : zw_MV R_TS 166 Y_TS_countValues R_TS 0 := ⟨Or.inl (zw_in (List.mem_of_getElem? (i := 281) (by decide +kernel)) (by decide +kernel)), (zw_in (List.mem_of_getElem? (i := 283) (by decide +kernel)) (by decide +kernel)), (zw_in (List.mem_of_getElem? (i := 0) (by decide +kernel)) (by decide +kernel)), (zw_in (List.mem_of_getElem? (i := 284) (by decide +kernel)) (by decide +kernel)), (zw_in (List.mem_of_getElem? (i := 25) (by decide +kernel)) (by decide +kernel)), by decide +kernel, by decide +kernel⟩
theorem mv_TS_170 : zw_MV R_TS 170 Y_Plan_reset R_Plan 0 := ⟨Or.inl (zw_in (List.mem_of_getElem? (i := 289) (by decide +kernel)) (by decide +kernel)), (zw_in (List.mem_of_getElem? (i := 117) (by decide +kernel)) (by decide +kernel)), (zw_in (List.mem_of_getElem? (i := 118) (by decide +kernel)) (by decide +kernel)), (zw_in (List.mem_of_getElem? (i := 119) (by decide +kernel)) (by decide +kernel)), (zw_in (List.mem_of_getElem? (i := 27) (by decide +kernel)) (by decide +kernel)), by decide +kernel, by decide +kernel⟩
theorem mv_TS_173 : zw_MV R_TS 173 Y_Course_prepare R_Course 1 := ⟨Or.inl (zw_in (List.mem_of_getElem? (i := 290) (by decide +kernel)) (by decide +kernel)), (zw_in (List.mem_of_getElem? (i := 291) (by decide +kernel)) (by decide +kernel)), (zw_in (List.mem_of_getElem? (i := 292) (by decide +kernel)) (by decide +kernel)), (zw_in (List.mem_of_getElem? (i := 293) (by decide +kernel)) (by decide +kernel)), (zw_in (List.mem_of_getElem? (i := 30) (by decide +kernel)) (by decide +kernel)), by decide +kernel, by decide +kernel⟩
theorem km_TS_177 : Cond.methodLink R_TS 177 Lib.Math.min.name ∈ zw_Tb := (zw_in (List.mem_of_getElem? (i := 52) (by decide +kernel)) (by decide +kernel))
theorem km_min_st : Cond.static Lib.Math.min.name ∈ zw_Tb := (zw_in (List.mem_of_getElem? (i := 53) (by decide +kernel)) (by decide +kernel))
theorem km_min_co : Cond.code Lib.Math.min.name Lib.Math.min.code 2 (some .int) ∈ zw_Tb := (zw_in (List.mem_of_getElem? (i := 54) (by decide +kernel)) (by decide +kernel))
theorem km_TS_183 : Cond.methodLink R_TS 183 Lib.Math.max.name ∈ zw_Tb := (zw_in (List.mem_of_getElem? (i := 55) (by decide +kernel)) (by decide +kernel))
theorem mv_TS_186 : zw_MV R_TS 186 Y_Course_isFinished R_Course 1 := ⟨Or.inl (zw_in (List.mem_of_getElem? (i := 561) (by decide +kernel)) (by decide +kernel)), (zw_in (List.mem_of_getElem? (i := 487) (by decide +kernel)) (by decide +kernel)), (zw_in (List.mem_of_getElem? (i := 488) (by decide +kernel)) (by decide +kernel)), (zw_in (List.mem_of_getElem? (i := 489) (by decide +kernel)) (by decide +kernel)), (zw_in (List.mem_of_getElem? (i := 30) (by decide +kernel)) (by decide +kernel)), by decide +kernel, by decide +kernel⟩
set_option maxHeartbeats 4000000 in
set_option maxRecDepth 100000 in
theorem c_TS_isWithin {l : Launch} {D : va_G} {cA : Nat → ClassId} {ad : Nat → Nat} {sh : zw_Sh} {n : Nat} (hn : n ≤ 16) (hs : ∀ (k : Nat) (q : zw_Sp), shX n k = some q → sh k = some q) (z : Nat) (mi : zw_I) (ml : zw_L) (x : Int32) (lo : Int32) (hi : Int32) :
    zc_M l D cA Y_TS_isWithin 0 0 0 ad sh sh z [.int x, .int lo, .int hi] mi ml (some (.int (p_within x lo hi))) mi ml z := by
  refine zc_enter (own := R_TS) (by decide) rfl (Nat.le_of_ble_eq_true rfl) ?_
  intro p e s m below meth c X hr hlocks hnm hB ls hl
  have X : zw_C D cA R_TS prog_1_method_15_code 3 p m c s := X
  have hr : meth.sig.returnType = (some FieldType.boolean) := hr
  have hx := X.1
  have hb := X.2.1
  have hl : lv_has ls 3 [(0, .int x), (1, .int lo), (2, .int hi)] := hl
  unfold p_within
  refine lv_iload_n hx hb d_TS_isWithin_0 rfl (lv_at hl 0 rfl) ?_
  refine lv_iload_n hx hb d_TS_isWithin_1 rfl (lv_at hl 1 rfl) ?_
  refine lv_icmp_lt (tgt := 14) hx hb d_TS_isWithin_2 (by decide) (fun c_2 => ?_) (fun c_2 => ?_)
  · rw [if_pos c_2]
    refine lv_iconst (v := 0) hx hb d_TS_isWithin_14 (by decide) ?_
    exact zc_zret X hr hlocks hB (by rfl) (by rfl) (by rfl) (by rfl) d_TS_isWithin_15
  · rw [if_neg c_2]
    refine lv_iload_n hx hb d_TS_isWithin_5 rfl (lv_at hl 0 rfl) ?_
    refine lv_iload_n hx hb d_TS_isWithin_6 rfl (lv_at hl 2 rfl) ?_
    refine lv_icmp_gt (tgt := 14) hx hb d_TS_isWithin_7 (by decide) (fun c_7 => ?_) (fun c_7 => ?_)
    · rw [if_pos c_7]
      refine lv_iconst (v := 0) hx hb d_TS_isWithin_14 (by decide) ?_
      exact zc_zret X hr hlocks hB (by rfl) (by rfl) (by rfl) (by rfl) d_TS_isWithin_15
    · rw [if_neg c_7]
      refine lv_iconst (v := 1) hx hb d_TS_isWithin_10 (by decide) ?_
      refine lv_goto (tgt := 15) hx hb d_TS_isWithin_11 (by decide) ?_
      exact zc_zret X hr hlocks hB (by rfl) (by rfl) (by rfl) (by rfl) d_TS_isWithin_15

set_option maxHeartbeats 4000000 in
set_option maxRecDepth 100000 in
theorem c_TS_isStep {l : Launch} {D : va_G} {cA : Nat → ClassId} {ad : Nat → Nat} {sh : zw_Sh} {n : Nat} (hn : n ≤ 16) (hs : ∀ (k : Nat) (q : zw_Sp), shX n k = some q → sh k = some q) (z : Nat) (mi : zw_I) (ml : zw_L) (x : Int32) :
    zc_M l D cA Y_TS_isStep 1 0 0 ad sh sh z [.int x] mi ml (some (.int (p_within x 0 19))) mi ml z := by
  refine zc_enter (own := R_TS) (by decide) rfl (Nat.le_of_ble_eq_true rfl) ?_
  intro p e s m below meth c X hr hlocks hnm hB ls hl
  have X : zw_C D cA R_TS prog_1_method_16_code 1 p m c s := X
  have hr : meth.sig.returnType = (some FieldType.boolean) := hr
  have hx := X.1
  have hb := X.2.1
  have hl : lv_has ls 1 [(0, .int x)] := hl
  refine lv_iload_n hx hb d_TS_isStep_0 rfl (lv_at hl 0 rfl) ?_
  refine lv_iconst (v := 0) hx hb d_TS_isStep_1 (by decide) ?_
  refine lv_bipush (v := 19) hx hb d_TS_isStep_2 (by decide) ?_
  refine zw_callSr X hB mv_TS_50 (c_TS_isWithin hn hs z mi ml x 0 19) rfl hl.1 ⟨Nat.le_of_ble_eq_true rfl, Nat.le_of_ble_eq_true rfl⟩ rfl (Nat.le_of_ble_eq_true rfl) ⟨Nat.le_of_ble_eq_true rfl, Nat.le_of_ble_eq_true rfl⟩ d_TS_isStep_4 (fun H locs hB => ?_)
  exact zc_zret X hr hlocks hB (nz_of p_within_01) (by rfl) (by rfl) (by rfl) d_TS_isStep_7

set_option maxHeartbeats 4000000 in
set_option maxRecDepth 100000 in
theorem c_TS_isShare {l : Launch} {D : va_G} {cA : Nat → ClassId} {ad : Nat → Nat} {sh : zw_Sh} {n : Nat} (hn : n ≤ 16) (hs : ∀ (k : Nat) (q : zw_Sp), shX n k = some q → sh k = some q) (z : Nat) (mi : zw_I) (ml : zw_L) (x : Int32) :
    zc_M l D cA Y_TS_isShare 1 0 0 ad sh sh z [.ref (ad 0), .int x] mi ml (some (.int (p_isShare mi x))) mi ml z := by
  refine zc_enter (own := R_TS) (by decide) rfl (Nat.le_of_ble_eq_true rfl) ?_
  intro p e s m below meth c X hr hlocks hnm hB ls hl
  have X : zw_C D cA R_TS prog_1_method_17_code 2 p m c s := X
  have hr : meth.sig.returnType = (some FieldType.boolean) := hr
  have hx := X.1
  have hb := X.2.1
  have hl : lv_has ls 2 [(0, .ref (ad 0)), (1, .int x)] := hl
  refine lv_iload_n hx hb d_TS_isShare_0 rfl (lv_at hl 1 rfl) ?_
  refine lv_iconst (v := 0) hx hb d_TS_isShare_1 (by decide) ?_
  refine lv_aload_n hx hb d_TS_isShare_2 rfl (lv_at hl 0 rfl) ?_
  refine zw_getR X hB fl_TS_18 0 (hs 0 _ rfl) rfl d_TS_isShare_3 ?_
  refine zw_getI X hB fl_TS_141 1 (hs 1 _ rfl) rfl d_TS_isShare_6 ?_
  refine lv_iconst (v := 1) hx hb d_TS_isShare_9 (by decide) ?_
  refine lv_isub hx hb d_TS_isShare_10 ?_
  refine zw_callSr X hB mv_TS_50 (c_TS_isWithin hn hs z mi ml x 0 ((mi 1 0) - 1)) rfl hl.1 ⟨Nat.le_of_ble_eq_true rfl, Nat.le_of_ble_eq_true rfl⟩ rfl (Nat.le_of_ble_eq_true rfl) ⟨Nat.le_of_ble_eq_true rfl, Nat.le_of_ble_eq_true rfl⟩ d_TS_isShare_11 (fun H locs hB => ?_)
  exact zc_zret X hr hlocks hB (nz_of p_within_01) (by rfl) (by rfl) (by rfl) d_TS_isShare_14

set_option maxHeartbeats 4000000 in
set_option maxRecDepth 100000 in
theorem c_TS_nearest {l : Launch} {D : va_G} {cA : Nat → ClassId} {ad : Nat → Nat} {sh : zw_Sh} {n : Nat} (hn : n ≤ 16) (hs : ∀ (k : Nat) (q : zw_Sp), shX n k = some q → sh k = some q) (z : Nat) (mi : zw_I) (ml : zw_L) (x : Int32) (lo : Int32) (hi : Int32) :
    zc_M l D cA Y_TS_nearest 1 0 0 ad sh sh z [.int x, .int lo, .int hi] mi ml (some (.int (p_nearest x lo hi))) mi ml z := by
  refine zc_enter (own := R_TS) (by decide) rfl (Nat.le_of_ble_eq_true rfl) ?_
  intro p e s m below meth c X hr hlocks hnm hB ls hl
  have X : zw_C D cA R_TS prog_1_method_14_code 3 p m c s := X
  have hr : meth.sig.returnType = (some FieldType.int) := hr
  have hx := X.1
  have hb := X.2.1
  have hl : lv_has ls 3 [(0, .int x), (1, .int lo), (2, .int hi)] := hl
  refine lv_iload_n hx hb d_TS_nearest_0 rfl (lv_at hl 1 rfl) ?_
  refine lv_iload_n hx hb d_TS_nearest_1 rfl (lv_at hl 2 rfl) ?_
  refine lv_iload_n hx hb d_TS_nearest_2 rfl (lv_at hl 0 rfl) ?_
  refine va_mmin hx hb (X.2.2.1.trans hl.1.symm) X.2.2.2.1 (X.2.2.2.2.ts _ km_TS_177) (X.2.2.2.2.ts _ km_min_st) (X.2.2.2.2.ts _ km_math_in) (X.2.2.2.2.ts _ km_min_co) (Nat.le_of_ble_eq_true rfl) (Nat.le_of_ble_eq_true rfl) (Nat.le_of_ble_eq_true rfl) (Nat.le_of_ble_eq_true rfl) d_TS_nearest_3 ?_
  refine va_mmax hx hb (X.2.2.1.trans hl.1.symm) X.2.2.2.1 (X.2.2.2.2.ts _ km_TS_183) (X.2.2.2.2.ts _ km_max_st) (X.2.2.2.2.ts _ km_math_in) (X.2.2.2.2.ts _ km_max_co) (Nat.le_of_ble_eq_true rfl) (Nat.le_of_ble_eq_true rfl) (Nat.le_of_ble_eq_true rfl) (Nat.le_of_ble_eq_true rfl) d_TS_nearest_6 ?_
  exact zc_iret X hr hlocks hB (by rfl) (by rfl) (by rfl) d_TS_nearest_9

set_option maxHeartbeats 4000000 in
set_option maxRecDepth 100000 in
theorem c_TS_countValues {l : Launch} {D : va_G} {cA : Nat → ClassId} {ad : Nat → Nat} {sh : zw_Sh} {n : Nat} (hn : n ≤ 16) (hs : ∀ (k : Nat) (q : zw_Sp), shX n k = some q → sh k = some q) (z : Nat) (mi : zw_I) (ml : zw_L) :
    zc_M l D cA Y_TS_countValues 0 0 0 ad sh sh z [.ref (ad 0)] mi ml (some (.int (p_count n mi (n + 1) 0 0))) mi ml z := by
  refine zc_enter (own := R_TS) (by decide) rfl (Nat.le_of_ble_eq_true rfl) ?_
  intro p e s m below meth c X hr hlocks hnm hB ls hl
  have X : zw_C D cA R_TS prog_1_method_19_code 3 p m c s := X
  have hr : meth.sig.returnType = (some FieldType.int) := hr
  have hx := X.1
  have hb := X.2.1
  have hl : lv_has ls 3 [(0, .ref (ad 0))] := hl
  have loop : ∀ (f i : Nat) (a : Int32)  (H : Heap) (locs : List Loc) (ls : Array Slot), i + f = n + 1 → i ≤ n → zw_B D cA ad sh (zw_A ad sh z) s.heap mi ml z H locs → lv_has ls 3 [(2, .int (nI i)), (1, .int a), (0, .ref (ad 0))] →
      zc_W l D cA ad sh sh z [.ref (ad 0)] 0 0 0 (some (.int (p_count n mi f a (nI i)))) mi ml z p e s m below meth c H locs 0 0 (F0 m 4 ls []) := by
    intro f
    induction f with
    | zero =>
      intro i a  H locs ls hi h2 hB hl
      omega
    | succ f ih =>
      intro i a  H locs ls hi h2 hB hl
      rw [p_count]
      refine lv_iload_n hx hb d_TS_countValues_4 rfl (lv_at hl 0 rfl) ?_
      refine lv_aload_n hx hb d_TS_countValues_5 rfl (lv_at hl 2 rfl) ?_
      refine zw_getR X hB fl_TS_31 0 (hs 0 _ rfl) rfl d_TS_countValues_6 ?_
      refine zw_alen X hB 20 (by decide) (hs 20 _ rfl) d_TS_countValues_9 ?_
      refine lv_icmp_ge (tgt := 31) hx hb d_TS_countValues_10 (by decide) (fun c_10 => ?_) (fun c_10 => ?_)
      · rw [if_pos c_10]
        refine lv_iload_n hx hb d_TS_countValues_31 rfl (lv_at hl 1 rfl) ?_
        exact zc_iret X hr hlocks hB (by rfl) (by rfl) (by rfl) d_TS_countValues_32
      · rw [if_neg c_10]
        have hlt : i < n := zn_lt (by omega) c_10
        have hin : vp_in (nI i) n := vp_in_nI hlt (by omega)
        refine lv_aload_n hx hb d_TS_countValues_13 rfl (lv_at hl 2 rfl) ?_
        refine zw_getR X hB fl_TS_31 0 (hs 0 _ rfl) rfl d_TS_countValues_14 ?_
        refine lv_iload_n hx hb d_TS_countValues_17 rfl (lv_at hl 0 rfl) ?_
        refine zw_zald X hB 20 (hs 20 _ rfl) hin d_TS_countValues_18 ?_
        refine lv_if_eq (tgt := 25) hx hb d_TS_countValues_19 (by decide) (fun c_19 => ?_) (fun c_19 => ?_)
        · rw [if_pos c_19]
          refine lv_iinc (v := nI (i + 1)) (lv' := [(2, .int (nI (i + 1))), (1, .int a), (0, .ref (ad 0))]) hx hb d_TS_countValues_25 hl (k := 0) rfl (nI_1 i) (by decide) rfl (fun ls hl => ?_)
          refine lv_goto (tgt := 4) hx hb d_TS_countValues_28 (by decide) ?_
          rw [nI_1 i]
          exact ih (i + 1) _  H locs ls (by omega) (by omega) hB (lv_sub hl [0, 1, 2] rfl)
        · rw [if_neg c_19]
          refine lv_iinc (v := a + 1) (lv' := [(1, .int (a + 1)), (2, .int (nI i)), (0, .ref (ad 0))]) hx hb d_TS_countValues_22 hl (k := 1) rfl rfl (by decide) rfl (fun ls hl => ?_)
          refine lv_iinc (v := nI (i + 1)) (lv' := [(2, .int (nI (i + 1))), (1, .int (a + 1)), (0, .ref (ad 0))]) hx hb d_TS_countValues_25 hl (k := 1) rfl (nI_1 i) (by decide) rfl (fun ls hl => ?_)
          refine lv_goto (tgt := 4) hx hb d_TS_countValues_28 (by decide) ?_
          rw [nI_1 i]
          exact ih (i + 1) _  H locs ls (by omega) (by omega) hB (lv_sub hl [0, 1, 2] rfl)
  refine lv_iconst (v := 0) hx hb d_TS_countValues_0 (by decide) ?_
  refine lv_istore_n (lv' := [(1, .int 0), (0, .ref (ad 0))]) hx hb d_TS_countValues_1 rfl hl (by decide) rfl (fun ls hl => ?_)
  refine lv_iconst (v := 0) hx hb d_TS_countValues_2 (by decide) ?_
  refine lv_istore_n (lv' := [(2, .int 0), (1, .int 0), (0, .ref (ad 0))]) hx hb d_TS_countValues_3 rfl hl (by decide) rfl (fun ls hl => ?_)
  exact loop (n + 1) 0 0  _ _ ls (by omega) (by omega) hB (lv_sub hl [0, 1, 2] rfl)

set_option maxHeartbeats 4000000 in
set_option maxRecDepth 100000 in
theorem c_TS_told {l : Launch} {D : va_G} {cA : Nat → ClassId} {ad : Nat → Nat} {sh : zw_Sh} {n : Nat} (hn : n ≤ 16) (hs : ∀ (k : Nat) (q : zw_Sp), shX n k = some q → sh k = some q) (z : Nat) (mi : zw_I) (ml : zw_L) (x : Int32) :
    zc_M l D cA Y_TS_told 1 0 0 ad sh sh z [.ref (ad 0), .int x] mi ml (some (.int (p_told n mi x))) mi ml z := by
  refine zc_enter (own := R_TS) (by decide) rfl (Nat.le_of_ble_eq_true rfl) ?_
  intro p e s m below meth c X hr hlocks hnm hB ls hl
  have X : zw_C D cA R_TS prog_1_method_12_code 2 p m c s := X
  have hr : meth.sig.returnType = (some FieldType.int) := hr
  have hx := X.1
  have hb := X.2.1
  have hl : lv_has ls 2 [(0, .ref (ad 0)), (1, .int x)] := hl
  unfold p_told
  refine lv_iload_n hx hb d_TS_told_0 rfl (lv_at hl 1 rfl) ?_
  by_cases hk_0 : x = 0
  · rw [if_pos hk_0]
    subst hk_0
    refine lv_tableIn (off := 63) (tgt := 64) hx hb d_TS_told_1 (by decide) (by decide) (by decide) (by decide) ?_
    refine lv_aload_n hx hb d_TS_told_64 rfl (lv_at hl 0 rfl) ?_
    refine zw_getR X hB fl_TS_18 0 (hs 0 _ rfl) rfl d_TS_told_65 ?_
    refine zw_getI X hB fl_TS_141 1 (hs 1 _ rfl) rfl d_TS_told_68 ?_
    exact zc_iret X hr hlocks hB (by rfl) (by rfl) (by rfl) d_TS_told_71
  rw [if_neg hk_0]
  by_cases hk_1 : x = 1
  · rw [if_pos hk_1]
    subst hk_1
    refine lv_tableIn (off := 71) (tgt := 72) hx hb d_TS_told_1 (by decide) (by decide) (by decide) (by decide) ?_
    refine lv_aload_n hx hb d_TS_told_72 rfl (lv_at hl 0 rfl) ?_
    refine zw_getR X hB fl_TS_18 0 (hs 0 _ rfl) rfl d_TS_told_73 ?_
    refine zw_getI X hB fl_TS_54 1 (hs 1 _ rfl) rfl d_TS_told_76 ?_
    exact zc_iret X hr hlocks hB (by rfl) (by rfl) (by rfl) d_TS_told_79
  rw [if_neg hk_1]
  by_cases hk_2 : x = 2
  · rw [if_pos hk_2]
    subst hk_2
    refine lv_tableIn (off := 79) (tgt := 80) hx hb d_TS_told_1 (by decide) (by decide) (by decide) (by decide) ?_
    refine lv_aload_n hx hb d_TS_told_80 rfl (lv_at hl 0 rfl) ?_
    refine zw_getR X hB fl_TS_18 0 (hs 0 _ rfl) rfl d_TS_told_81 ?_
    refine zw_getR X hB fl_TS_98 1 (hs 1 _ rfl) rfl d_TS_told_84 ?_
    refine zw_getI X hB fl_TS_102 3 (hs 3 _ rfl) rfl d_TS_told_87 ?_
    exact zc_iret X hr hlocks hB (by rfl) (by rfl) (by rfl) d_TS_told_90
  rw [if_neg hk_2]
  by_cases hk_3 : x = 3
  · rw [if_pos hk_3]
    subst hk_3
    refine lv_tableIn (off := 90) (tgt := 91) hx hb d_TS_told_1 (by decide) (by decide) (by decide) (by decide) ?_
    refine lv_aload_n hx hb d_TS_told_91 rfl (lv_at hl 0 rfl) ?_
    refine zw_getR X hB fl_TS_18 0 (hs 0 _ rfl) rfl d_TS_told_92 ?_
    refine zw_getI X hB fl_TS_109 1 (hs 1 _ rfl) rfl d_TS_told_95 ?_
    exact zc_iret X hr hlocks hB (by rfl) (by rfl) (by rfl) d_TS_told_98
  rw [if_neg hk_3]
  by_cases hk_4 : x = 4
  · rw [if_pos hk_4]
    subst hk_4
    refine lv_tableIn (off := 98) (tgt := 99) hx hb d_TS_told_1 (by decide) (by decide) (by decide) (by decide) ?_
    refine lv_aload_n hx hb d_TS_told_99 rfl (lv_at hl 0 rfl) ?_
    refine zw_getR X hB fl_TS_27 0 (hs 0 _ rfl) rfl d_TS_told_100 ?_
    refine zw_getI X hB fl_TS_144 5 (hs 5 _ rfl) rfl d_TS_told_103 ?_
    exact zc_iret X hr hlocks hB (by rfl) (by rfl) (by rfl) d_TS_told_106
  rw [if_neg hk_4]
  by_cases hk_5 : x = 5
  · rw [if_pos hk_5]
    subst hk_5
    refine lv_tableIn (off := 106) (tgt := 107) hx hb d_TS_told_1 (by decide) (by decide) (by decide) (by decide) ?_
    refine lv_aload_n hx hb d_TS_told_107 rfl (lv_at hl 0 rfl) ?_
    refine zw_getR X hB fl_TS_27 0 (hs 0 _ rfl) rfl d_TS_told_108 ?_
    refine zw_getI X hB fl_TS_147 5 (hs 5 _ rfl) rfl d_TS_told_111 ?_
    exact zc_iret X hr hlocks hB (by rfl) (by rfl) (by rfl) d_TS_told_114
  rw [if_neg hk_5]
  by_cases hk_6 : x = 6
  · rw [if_pos hk_6]
    subst hk_6
    refine lv_tableIn (off := 114) (tgt := 115) hx hb d_TS_told_1 (by decide) (by decide) (by decide) (by decide) ?_
    refine lv_aload_n hx hb d_TS_told_115 rfl (lv_at hl 0 rfl) ?_
    refine zw_getR X hB fl_TS_27 0 (hs 0 _ rfl) rfl d_TS_told_116 ?_
    refine zw_getI X hB fl_TS_150 5 (hs 5 _ rfl) rfl d_TS_told_119 ?_
    exact zc_iret X hr hlocks hB (by rfl) (by rfl) (by rfl) d_TS_told_122
  rw [if_neg hk_6]
  by_cases hk_7 : x = 7
  · rw [if_pos hk_7]
    subst hk_7
    refine lv_tableIn (off := 122) (tgt := 123) hx hb d_TS_told_1 (by decide) (by decide) (by decide) (by decide) ?_
    refine lv_aload_n hx hb d_TS_told_123 rfl (lv_at hl 0 rfl) ?_
    refine zw_getR X hB fl_TS_27 0 (hs 0 _ rfl) rfl d_TS_told_124 ?_
    refine zw_getI X hB fl_TS_153 5 (hs 5 _ rfl) rfl d_TS_told_127 ?_
    exact zc_iret X hr hlocks hB (by rfl) (by rfl) (by rfl) d_TS_told_130
  rw [if_neg hk_7]
  by_cases hk_8 : x = 8
  · rw [if_pos hk_8]
    subst hk_8
    refine lv_tableIn (off := 130) (tgt := 131) hx hb d_TS_told_1 (by decide) (by decide) (by decide) (by decide) ?_
    refine lv_aload_n hx hb d_TS_told_131 rfl (lv_at hl 0 rfl) ?_
    refine zw_getR X hB fl_TS_27 0 (hs 0 _ rfl) rfl d_TS_told_132 ?_
    refine zw_getI X hB fl_TS_156 5 (hs 5 _ rfl) rfl d_TS_told_135 ?_
    exact zc_iret X hr hlocks hB (by rfl) (by rfl) (by rfl) d_TS_told_138
  rw [if_neg hk_8]
  by_cases hk_9 : x = 9
  · rw [if_pos hk_9]
    subst hk_9
    refine lv_tableIn (off := 138) (tgt := 139) hx hb d_TS_told_1 (by decide) (by decide) (by decide) (by decide) ?_
    refine lv_aload_n hx hb d_TS_told_139 rfl (lv_at hl 0 rfl) ?_
    refine zw_getR X hB fl_TS_27 0 (hs 0 _ rfl) rfl d_TS_told_140 ?_
    refine zw_getR X hB fl_TS_159 5 (hs 5 _ rfl) rfl d_TS_told_143 ?_
    refine zw_getI X hB fl_TS_163 6 (hs 6 _ rfl) rfl d_TS_told_146 ?_
    exact zc_iret X hr hlocks hB (by rfl) (by rfl) (by rfl) d_TS_told_149
  rw [if_neg hk_9]
  by_cases hk_10 : x = 10
  · rw [if_pos hk_10]
    subst hk_10
    refine lv_tableIn (off := 149) (tgt := 150) hx hb d_TS_told_1 (by decide) (by decide) (by decide) (by decide) ?_
    refine lv_aload_n hx hb d_TS_told_150 rfl (lv_at hl 0 rfl) ?_
    refine zw_getR X hB fl_TS_27 0 (hs 0 _ rfl) rfl d_TS_told_151 ?_
    refine zw_getI X hB fl_TS_126 5 (hs 5 _ rfl) rfl d_TS_told_154 ?_
    exact zc_iret X hr hlocks hB (by rfl) (by rfl) (by rfl) d_TS_told_157
  rw [if_neg hk_10]
  by_cases hk_11 : x = 11
  · rw [if_pos hk_11]
    subst hk_11
    refine lv_tableIn (off := 157) (tgt := 158) hx hb d_TS_told_1 (by decide) (by decide) (by decide) (by decide) ?_
    refine lv_aload_n hx hb d_TS_told_158 rfl (lv_at hl 0 rfl) ?_
    refine zw_callVr X hB mv_TS_166 0 (hs 0 _ rfl) rfl (c_TS_countValues hn hs z mi ml) rfl hl.1 ⟨Nat.le_of_ble_eq_true rfl, Nat.le_of_ble_eq_true rfl⟩ rfl (Nat.le_of_ble_eq_true rfl) ⟨Nat.le_of_ble_eq_true rfl, Nat.le_of_ble_eq_true rfl⟩ d_TS_told_159 (fun H locs hB => ?_)
    exact zc_iret X hr hlocks hB (by rfl) (by rfl) (by rfl) d_TS_told_162
  rw [if_neg hk_11]
  refine lv_tableOut (tgt := 163) hx hb d_TS_told_1 (zt_out hk_0 hk_1 hk_2 hk_3 hk_4 hk_5 hk_6 hk_7 hk_8 hk_9 hk_10 hk_11) (by decide) ?_
  refine lv_iconst (v := (-1)) hx hb d_TS_told_163 (by decide) ?_
  exact zc_iret X hr hlocks hB (by rfl) (by rfl) (by rfl) d_TS_told_164

set_option maxHeartbeats 4000000 in
set_option maxRecDepth 100000 in
theorem c_TS_putValues {l : Launch} {D : va_G} {cA : Nat → ClassId} {ad : Nat → Nat} {sh : zw_Sh} {n : Nat} (hn : n ≤ 16) (hs : ∀ (k : Nat) (q : zw_Sp), shX n k = some q → sh k = some q) (z : Nat) (mi : zw_I) (ml : zw_L) (h7 : ∀ i : Nat, i < n → vp_in (mi 7 i) 21) :
    zc_M l D cA Y_TS_putValues 1 0 0 ad sh sh z [.ref (ad 0)] mi ml none ((p_put n (n + 1) 0 mi ml).1) ((p_put n (n + 1) 0 mi ml).2) z := by
  refine zc_enter (own := R_TS) (by decide) rfl (Nat.le_of_ble_eq_true rfl) ?_
  intro p e s m below meth c X hr hlocks hnm hB ls hl
  have X : zw_C D cA R_TS prog_1_method_18_code 2 p m c s := X
  have hr : meth.sig.returnType = none := hr
  have hx := X.1
  have hb := X.2.1
  have hl : lv_has ls 2 [(0, .ref (ad 0))] := hl
  have loop : ∀ (f i : Nat) (mi : zw_I) (ml : zw_L) (H : Heap) (locs : List Loc) (ls : Array Slot), i + f = n + 1 → i ≤ n → (∀ i : Nat, i < n → vp_in (mi 7 i) 21) → zw_B D cA ad sh (zw_A ad sh z) s.heap mi ml z H locs → lv_has ls 2 [(1, .int (nI i)), (0, .ref (ad 0))] →
      zc_W l D cA ad sh sh z [.ref (ad 0)] 1 0 0 none ((p_put n f (nI i) mi ml).1) ((p_put n f (nI i) mi ml).2) z p e s m below meth c H locs 0 0 (F0 m 2 ls []) := by
    intro f
    induction f with
    | zero =>
      intro i  mi ml H locs ls hi h2 h7 hB hl
      omega
    | succ f ih =>
      intro i  mi ml H locs ls hi h2 h7 hB hl
      rw [p_put]
      refine lv_iload_n hx hb d_TS_putValues_2 rfl (lv_at hl 0 rfl) ?_
      refine lv_aload_n hx hb d_TS_putValues_3 rfl (lv_at hl 1 rfl) ?_
      refine zw_getR X hB fl_TS_31 0 (hs 0 _ rfl) rfl d_TS_putValues_4 ?_
      refine zw_alen X hB 20 (by decide) (hs 20 _ rfl) d_TS_putValues_7 ?_
      refine lv_icmp_ge (tgt := 65) hx hb d_TS_putValues_8 (by decide) (fun c_8 => ?_) (fun c_8 => ?_)
      · rw [if_pos c_8]
        exact zc_vret X hr hlocks hB (by rfl) (by rfl) (by rfl) d_TS_putValues_65
      · rw [if_neg c_8]
        have hlt : i < n := zn_lt (by omega) c_8
        have hin : vp_in (nI i) n := vp_in_nI hlt (by omega)
        refine lv_aload_n hx hb d_TS_putValues_11 rfl (lv_at hl 1 rfl) ?_
        refine zw_getR X hB fl_TS_31 0 (hs 0 _ rfl) rfl d_TS_putValues_12 ?_
        refine lv_iload_n hx hb d_TS_putValues_15 rfl (lv_at hl 0 rfl) ?_
        refine lv_aload_n hx hb d_TS_putValues_16 rfl (lv_at hl 1 rfl) ?_
        refine zw_getR X hB fl_TS_27 0 (hs 0 _ rfl) rfl d_TS_putValues_17 ?_
        refine lv_iload_n hx hb d_TS_putValues_20 rfl (lv_at hl 0 rfl) ?_
        refine zw_callVr X hB mv_TS_186 5 (hs 5 _ rfl) rfl (c_Course_isFinished hn hs z mi ml (nI i) hin) rfl hl.1 ⟨Nat.le_of_ble_eq_true rfl, Nat.le_of_ble_eq_true rfl⟩ rfl (Nat.le_of_ble_eq_true rfl) ⟨Nat.le_of_ble_eq_true rfl, Nat.le_of_ble_eq_true rfl⟩ d_TS_putValues_21 (fun H locs hB => ?_)
        refine zw_zast X hB 20 (hs 20 _ rfl) (nz_of p_isFin_01) hin d_TS_putValues_24 (fun H locs hB => ?_)
        refine lv_aload_n hx hb d_TS_putValues_25 rfl (lv_at hl 1 rfl) ?_
        refine zw_getR X hB fl_TS_31 0 (hs 0 _ rfl) rfl d_TS_putValues_26 ?_
        refine lv_iload_n hx hb d_TS_putValues_29 rfl (lv_at hl 0 rfl) ?_
        refine zw_zald X hB 20 (hs 20 _ rfl) hin d_TS_putValues_30 ?_
        refine lv_if_eq (tgt := 59) hx hb d_TS_putValues_31 (by decide) (fun c_31 => ?_) (fun c_31 => ?_)
        · rw [if_pos c_31]
          refine lv_iinc (v := nI (i + 1)) (lv' := [(1, .int (nI (i + 1))), (0, .ref (ad 0))]) hx hb d_TS_putValues_59 hl (k := 0) rfl (nI_1 i) (by decide) rfl (fun ls hl => ?_)
          refine lv_goto (tgt := 2) hx hb d_TS_putValues_62 (by decide) ?_
          rw [nI_1 i]
          exact ih (i + 1)  _ _ H locs ls (by omega) (by omega) (fun j hj => by rw [zw_up_ne1 _ _ _ (by decide)]; exact h7 j hj) hB (lv_sub hl [0, 1] rfl)
        · rw [if_neg c_31]
          refine lv_aload_n hx hb d_TS_putValues_34 rfl (lv_at hl 1 rfl) ?_
          refine zw_getR X hB fl_TS_35 0 (hs 0 _ rfl) rfl d_TS_putValues_35 ?_
          refine lv_iload_n hx hb d_TS_putValues_38 rfl (lv_at hl 0 rfl) ?_
          refine lv_aload_n hx hb d_TS_putValues_39 rfl (lv_at hl 1 rfl) ?_
          refine zw_getR X hB fl_TS_27 0 (hs 0 _ rfl) rfl d_TS_putValues_40 ?_
          refine zw_getR X hB fl_TS_189 5 (hs 5 _ rfl) rfl d_TS_putValues_43 ?_
          refine lv_iload_n hx hb d_TS_putValues_46 rfl (lv_at hl 0 rfl) ?_
          refine zw_aald X hB 24 (Or.inr rfl) (hs 24 _ rfl) hin d_TS_putValues_47 ?_
          refine lv_aload_n hx hb d_TS_putValues_48 rfl (lv_at hl 1 rfl) ?_
          refine zw_getR X hB fl_TS_18 0 (hs 0 _ rfl) rfl d_TS_putValues_49 ?_
          refine zw_getR X hB fl_TS_63 1 (hs 1 _ rfl) rfl d_TS_putValues_52 ?_
          refine lv_iload_n hx hb d_TS_putValues_55 rfl (lv_at hl 0 rfl) ?_
          refine zw_iald X hB 7 (hs 7 _ rfl) hin d_TS_putValues_56 ?_
          refine zw_lald X hB (112 + (nI i).toNatClampNeg) (hs _ _ (shr3 hn (vlt hin))) (by rw [zw_up_ne1 _ _ _ (by decide)]; exact h7 _ (vlt hin)) d_TS_putValues_57 ?_
          refine zw_last X hB 21 (hs 21 _ rfl) hin d_TS_putValues_58 (fun H locs hB => ?_)
          refine lv_iinc (v := nI (i + 1)) (lv' := [(1, .int (nI (i + 1))), (0, .ref (ad 0))]) hx hb d_TS_putValues_59 hl (k := 0) rfl (nI_1 i) (by decide) rfl (fun ls hl => ?_)
          refine lv_goto (tgt := 2) hx hb d_TS_putValues_62 (by decide) ?_
          rw [nI_1 i]
          exact ih (i + 1)  _ _ H locs ls (by omega) (by omega) (fun j hj => by rw [zw_up_ne1 _ _ _ (by decide)]; exact h7 j hj) hB (lv_sub hl [0, 1] rfl)
  refine lv_iconst (v := 0) hx hb d_TS_putValues_0 (by decide) ?_
  refine lv_istore_n (lv' := [(1, .int 0), (0, .ref (ad 0))]) hx hb d_TS_putValues_1 rfl hl (by decide) rfl (fun ls hl => ?_)
  exact loop (n + 1) 0 _ _ _ _ ls (by omega) (by omega) h7 hB (lv_sub hl [0, 1] rfl)

set_option maxHeartbeats 4000000 in
set_option maxRecDepth 100000 in
theorem c_TS_clear {l : Launch} {D : va_G} {cA : Nat → ClassId} {ad : Nat → Nat} {sh : zw_Sh} {n : Nat} (hn : n ≤ 16) (hs : ∀ (k : Nat) (q : zw_Sp), shX n k = some q → sh k = some q) (z : Nat) (mi : zw_I) (ml : zw_L) (e0 : mi 1 0 = nI n) (e1 : (p_reset n (n + 1) 0 mi ml).1 1 0 = nI n) (e2 : (p_reset n (n + 1) 0 mi ml).1 3 5 = 0) :
    zc_M l D cA Y_TS_clear 2 0 0 ad sh sh z [.ref (ad 0)] mi ml none ((p_clear n mi ml).1) ((p_clear n mi ml).2) z := by
  refine zc_enter (own := R_TS) (by decide) rfl (Nat.le_of_ble_eq_true rfl) ?_
  intro p e s m below meth c X hr hlocks hnm hB ls hl
  have X : zw_C D cA R_TS prog_1_method_13_code 2 p m c s := X
  have hr : meth.sig.returnType = none := hr
  have hx := X.1
  have hb := X.2.1
  have hl : lv_has ls 2 [(0, .ref (ad 0))] := hl
  have loop : ∀ (f i : Nat) (mi : zw_I) (ml : zw_L) (H : Heap) (locs : List Loc) (ls : Array Slot), i + f = n + 1 → i ≤ n → zw_B D cA ad sh (zw_A ad sh z) s.heap mi ml z H locs → lv_has ls 2 [(1, .int (nI i)), (0, .ref (ad 0))] →
      zc_W l D cA ad sh sh z [.ref (ad 0)] 2 0 0 none (p_unset n f (nI i) mi) ml z p e s m below meth c H locs 0 0 (F0 m 17 ls []) := by
    intro f
    induction f with
    | zero =>
      intro i  mi ml H locs ls hi h2 hB hl
      omega
    | succ f ih =>
      intro i  mi ml H locs ls hi h2 hB hl
      rw [p_unset]
      refine lv_iload_n hx hb d_TS_clear_17 rfl (lv_at hl 0 rfl) ?_
      refine lv_aload_n hx hb d_TS_clear_18 rfl (lv_at hl 1 rfl) ?_
      refine zw_getR X hB fl_TS_31 0 (hs 0 _ rfl) rfl d_TS_clear_19 ?_
      refine zw_alen X hB 20 (by decide) (hs 20 _ rfl) d_TS_clear_22 ?_
      refine lv_icmp_ge (tgt := 39) hx hb d_TS_clear_23 (by decide) (fun c_23 => ?_) (fun c_23 => ?_)
      · rw [if_pos c_23]
        exact zc_vret X hr hlocks hB (by rfl) (by rfl) (by rfl) d_TS_clear_39
      · rw [if_neg c_23]
        have hlt : i < n := zn_lt (by omega) c_23
        have hin : vp_in (nI i) n := vp_in_nI hlt (by omega)
        refine lv_aload_n hx hb d_TS_clear_26 rfl (lv_at hl 1 rfl) ?_
        refine zw_getR X hB fl_TS_31 0 (hs 0 _ rfl) rfl d_TS_clear_27 ?_
        refine lv_iload_n hx hb d_TS_clear_30 rfl (lv_at hl 0 rfl) ?_
        refine lv_iconst (v := 0) hx hb d_TS_clear_31 (by decide) ?_
        refine zw_zast X hB 20 (hs 20 _ rfl) (by rfl) hin d_TS_clear_32 (fun H locs hB => ?_)
        obtain ⟨mi_1, emi_1⟩ : ∃ y, y = zw_up mi 20 (nI i).toNatClampNeg 0 := ⟨_, rfl⟩
        rw [← emi_1] at hB
        refine lv_iinc (v := nI (i + 1)) (lv' := [(1, .int (nI (i + 1))), (0, .ref (ad 0))]) hx hb d_TS_clear_33 hl (k := 0) rfl (nI_1 i) (by decide) rfl (fun ls hl => ?_)
        refine lv_goto (tgt := 17) hx hb d_TS_clear_36 (by decide) ?_
        subst emi_1
        rw [nI_1 i]
        exact ih (i + 1)  _ _ H locs ls (by omega) (by omega) hB (lv_sub hl [0, 1] rfl)
  refine lv_aload_n hx hb d_TS_clear_0 rfl (lv_at hl 0 rfl) ?_
  refine zw_getR X hB fl_TS_18 0 (hs 0 _ rfl) rfl d_TS_clear_1 ?_
  refine zw_callVv X hB mv_TS_170 1 (hs 1 _ rfl) rfl (c_Plan_reset hn hs z mi ml e0) rfl hl.1 ⟨Nat.le_of_ble_eq_true rfl, Nat.le_of_ble_eq_true rfl⟩ rfl (Nat.le_of_ble_eq_true rfl) ⟨Nat.le_of_ble_eq_true rfl, Nat.le_of_ble_eq_true rfl⟩ d_TS_clear_4 (fun H locs hB => ?_)
  refine lv_aload_n hx hb d_TS_clear_7 rfl (lv_at hl 0 rfl) ?_
  refine zw_getR X hB fl_TS_27 0 (hs 0 _ rfl) rfl d_TS_clear_8 ?_
  refine lv_iconst (v := 0) hx hb d_TS_clear_11 (by decide) ?_
  refine zw_callVv X hB mv_TS_173 5 (hs 5 _ rfl) rfl (c_Course_prepare hn hs z ((p_reset n (n + 1) 0 mi ml).1) ((p_reset n (n + 1) 0 mi ml).2) 0 0 (by omega) rfl e1 0 (by omega) e2) rfl hl.1 ⟨Nat.le_of_ble_eq_true rfl, Nat.le_of_ble_eq_true rfl⟩ rfl (Nat.le_of_ble_eq_true rfl) ⟨Nat.le_of_ble_eq_true rfl, Nat.le_of_ble_eq_true rfl⟩ d_TS_clear_12 (fun H locs hB => ?_)
  refine lv_iconst (v := 0) hx hb d_TS_clear_15 (by decide) ?_
  refine lv_istore_n (lv' := [(1, .int 0), (0, .ref (ad 0))]) hx hb d_TS_clear_16 rfl hl (by decide) rfl (fun ls hl => ?_)
  exact loop (n + 1) 0 _ _ _ _ ls (by omega) (by omega) hB (lv_sub hl [0, 1] rfl)
end
section
def shMl : List (Option zw_Sp) := [some (.inl (7, [(0, 0), (0, 0), (0, 0), (2, 33), (2, 34), (2, 35), (2, 36), (2, 37), (2, 38), (2, 39), (2, 40), (2, 41), (2, 42), (2, 43), (2, 44), (0, 0), (0, 0), (2, 45), (2, 46), (2, 47), (2, 48), (2, 49), (2, 50), (0, 0), (0, 0), (0, 0), (2, 51), (2, 52), (2, 53), (0, 0), (0, 0), (0, 0), (0, 0), (0, 0), (0, 0), (0, 0)])), some (.inr (0, 16, 0)), some (.inr (0, 16, 0)), some (.inr (1, 16, 0)), some (.inr (0, 16, 0)), some (.inr (0, 96, 0)), some (.inr (0, 96, 0)), some (.inr (0, 96, 0)), some (.inr (0, 8, 0)), some (.inr (0, 8, 0)), some (.inr (0, 8, 0)), some (.inr (0, 8, 0)), some (.inr (0, 8, 0)), some (.inr (2, 16, 0)), some (.inr (1, 16, 0)), some (.inr (1, 336, 0)), some (.inr (0, 16, 0)), some (.inr (0, 16, 0)), some (.inr (0, 16, 0)), some (.inr (0, 16, 0)), some (.inr (0, 16, 0)), some (.inr (0, 256, 0))]
def shM (k : Nat) : Option zw_Sp := if k < 32 then none else shMl.getD (k - 32) none
-- the reference (cell 32): code 0, shares 1, room 2, failings 15, stop 16, queued 23, used 24, living 25, finished 29, ticks 30, idle 31, waits 32, stepsDone 33, most 34, livedAtEnd 35
def q_isShare (mi : zw_I) (x : Int32) : Int32 := if x < 0 then 0 else if mi 32 1 ≤ x then 0 else 1
theorem q_isShare_01 {mi : zw_I} {x : Int32} : q_isShare mi x = 0 ∨ q_isShare mi x = 1 := by
  unfold q_isShare
  split
  · exact Or.inl rfl
  · split
    · exact Or.inl rfl
    · exact Or.inr rfl
def q_share3 (x st ce : Int32) (mi : zw_I) : zw_I := zw_up (zw_up (zw_up mi 32 0 0) 33 x.toNatClampNeg st) 34 x.toNatClampNeg ce
def q_share (mi : zw_I) (ml : zw_L) (x st ce : Int32) (t : Int64) : Int32 × zw_I × zw_L := if q_isShare mi x = 0 then (0, zw_up mi 32 0 1, ml) else if p_within st 1 20 = 0 then (0, zw_up mi 32 0 2, ml) else if p_within ce 1 (mi 32 2) = 0 then (0, zw_up mi 32 0 2, ml) else (q_share3 x st ce mi 36 x.toNatClampNeg, q_share3 x st ce mi, zw_up ml 35 x.toNatClampNeg t)
def q_need2 (x : Int32) (mi : zw_I) : zw_I := zw_up mi 36 x.toNatClampNeg (mi 36 x.toNatClampNeg + 1)
def q_need1 (x s o m a : Int32) (mi : zw_I) : zw_I := q_need2 x (zw_up (zw_up (zw_up mi 37 a.toNatClampNeg s) 38 a.toNatClampNeg o) 39 a.toNatClampNeg m)
def q_need0 (x s o m : Int32) (mi : zw_I) : zw_I := q_need1 x s o m (6 * x + mi 36 x.toNatClampNeg) mi
def q_need (mi : zw_I) (x s o m : Int32) : Int32 × zw_I := if q_isShare mi x = 0 then (0, zw_up mi 32 0 1) else if q_isShare mi o = 0 then (0, zw_up mi 32 0 1) else if p_within s 0 19 = 0 then (0, zw_up mi 32 0 2) else if p_within m 1 20 = 0 then (0, zw_up mi 32 0 2) else if o = x then (0, zw_up mi 32 0 2) else if mi 36 x.toNatClampNeg = 6 then (0, zw_up mi 32 0 3) else (q_need0 x s o m (zw_up mi 32 0 0) 36 x.toNatClampNeg, q_need0 x s o m (zw_up mi 32 0 0))
def q_free (mi : zw_I) (x : Int32) : Int32 × zw_I := if q_isShare mi x = 0 then (0, zw_up mi 32 0 1) else (zw_up mi 32 0 0 36 x.toNatClampNeg, zw_up (zw_up mi 32 0 0) 36 x.toNatClampNeg 0)
def q_fail5 (mi : zw_I) : zw_I := zw_up mi 32 15 (mi 32 15 + 1)
def q_fail4 (t : Int32) (mi : zw_I) : zw_I := q_fail5 (zw_up mi 43 (mi 32 15).toNatClampNeg t)
def q_fail3 (s t : Int32) (mi : zw_I) : zw_I := q_fail4 t (zw_up mi 42 (mi 32 15).toNatClampNeg s)
def q_fail2 (x s t : Int32) (mi : zw_I) : zw_I := q_fail3 s t (zw_up mi 41 (mi 32 15).toNatClampNeg x)
def q_fail1 (w x s t : Int32) (mi : zw_I) : zw_I := q_fail2 x s t (zw_up mi 40 (mi 32 15).toNatClampNeg w)
def q_failing (mi : zw_I) (w x s t : Int32) : Int32 × zw_I := if q_isShare mi x = 0 then (0, zw_up mi 32 0 1) else if p_within w 0 15 = 0 then (0, zw_up mi 32 0 2) else if p_within s 0 19 = 0 then (0, zw_up mi 32 0 2) else if p_within t 1 9 = 0 then (0, zw_up mi 32 0 2) else if mi 32 15 = 8 then (0, zw_up mi 32 0 3) else (q_fail1 w x s t (zw_up mi 32 0 0) 32 15, q_fail1 w x s t (zw_up mi 32 0 0))
def q_stop (mi : zw_I) (x : Int32) : Int32 × zw_I := if x = -1 then (zw_up mi 32 0 0 32 16, zw_up (zw_up mi 32 0 0) 32 16 x) else if q_isShare mi x = 0 then (0, zw_up mi 32 0 1) else (zw_up mi 32 0 0 32 16, zw_up (zw_up mi 32 0 0) 32 16 x)
def q_waits (mi : zw_I) (x : Int32) : Nat → Int32 → Int32
  | 0, _ => -1
  | f + 1, k => if mi 36 x.toNatClampNeg ≤ k then -1 else if mi 37 (6 * x + k).toNatClampNeg = mi 48 x.toNatClampNeg then (if mi 39 (6 * x + k).toNatClampNeg ≤ mi 48 (mi 38 (6 * x + k).toNatClampNeg).toNatClampNeg then q_waits mi x f (k + 1) else 6 * x + k) else q_waits mi x f (k + 1)
def q_canTake (mi : zw_I) : Int32 := if mi 32 23 ≤ 0 then 0 else if mi 32 2 < mi 32 24 + mi 34 (mi 50 (0 : Int32).toNatClampNeg).toNatClampNeg then 0 else 1
theorem q_canTake_01 {mi : zw_I} : q_canTake mi = 0 ∨ q_canTake mi = 1 := by
  unfold q_canTake
  split
  · exact Or.inl rfl
  · split
    · exact Or.inl rfl
    · exact Or.inr rfl
def q_shift : Nat → Int32 → zw_I → zw_I
  | 0, _, mi => mi
  | f + 1, k, mi => if mi 32 23 ≤ k then mi else q_shift f (k + 1) (zw_up mi 50 k.toNatClampNeg (mi 50 (k + 1).toNatClampNeg))
def q_take4 (mi : zw_I) : zw_I := if mi 32 24 ≤ mi 32 34 then zw_up mi 32 34 (mi 32 34) else zw_up mi 32 34 (mi 32 24)
def q_take3 (x : Int32) (mi : zw_I) : zw_I := q_take4 (zw_up mi 32 24 (mi 32 24 + mi 34 x.toNatClampNeg))
def q_take2 (x : Int32) (mi : zw_I) : zw_I := q_take3 x (zw_up mi 52 x.toNatClampNeg (mi 52 x.toNatClampNeg + 1))
def q_take1 (wk x : Int32) (mi : zw_I) : zw_I := q_take2 x (zw_up mi 49 wk.toNatClampNeg x)
def q_take (wk : Int32) (mi : zw_I) : zw_I := q_take1 wk (mi 50 (0 : Int32).toNatClampNeg) (q_shift 17 0 (zw_up mi 32 23 (mi 32 23 - 1)))
def q_fails (w x : Int32) (mi : zw_I) : Nat → Int32 → Int32 × zw_I
  | 0, _ => (0, mi)
  | f + 1, k => if mi 32 15 ≤ k then (0, mi) else if mi 44 k.toNatClampNeg ≤ 0 then q_fails w x mi f (k + 1) else if mi 40 k.toNatClampNeg = w then (if mi 41 k.toNatClampNeg = x then (if mi 42 k.toNatClampNeg = mi 48 x.toNatClampNeg then (1, zw_up mi 44 k.toNatClampNeg (mi 44 k.toNatClampNeg - 1)) else q_fails w x mi f (k + 1)) else q_fails w x mi f (k + 1)) else q_fails w x mi f (k + 1)
def q_sum (mi : zw_I) (ml : zw_L) (x s : Int32) : Nat → Int32 → Int64 → Int64
  | 0, _, a => a
  | f + 1, k, a => if mi 36 x.toNatClampNeg ≤ k then a else if mi 37 (6 * x + k).toNatClampNeg = s then q_sum mi ml x s f (k + 1) (a + ml 47 (21 * mi 38 (6 * x + k).toNatClampNeg + mi 39 (6 * x + k).toNatClampNeg).toNatClampNeg) else q_sum mi ml x s f (k + 1) (a + 0)
def q_next (mi : zw_I) (ml : zw_L) (x : Int32) : Int64 := q_sum mi ml x (mi 48 x.toNatClampNeg) 7 0 (ml 47 (21 * x + mi 48 x.toNatClampNeg).toNatClampNeg * 6364136223846793005 + (mi 48 x.toNatClampNeg).toInt64 + 1)
def q_stepL (mi : zw_I) (ml : zw_L) (x : Int32) : zw_L := zw_up ml 47 (21 * x + mi 48 x.toNatClampNeg + 1).toNatClampNeg (p_mix (q_next mi ml x))
def q_step1 (x : Int32) (mi : zw_I) : zw_I := zw_up (zw_up mi 48 x.toNatClampNeg (mi 48 x.toNatClampNeg + 1)) 32 33 (zw_up mi 48 x.toNatClampNeg (mi 48 x.toNatClampNeg + 1) 32 33 + 1)
def q_step5 (wk : Int32) (mi : zw_I) : zw_I := zw_up mi 49 wk.toNatClampNeg (-1)
def q_step4 (wk x : Int32) (mi : zw_I) : zw_I := q_step5 wk (zw_up mi 32 24 (mi 32 24 - mi 34 x.toNatClampNeg))
def q_step3 (wk x : Int32) (mi : zw_I) : zw_I := q_step4 wk x (zw_up mi 32 29 (mi 32 29 + 1))
def q_step2 (wk x : Int32) (mi : zw_I) : zw_I := q_step3 wk x (zw_up mi 51 (mi 32 29).toNatClampNeg x)
def q_stepB (wk x : Int32) (mi : zw_I) : zw_I := if mi 48 x.toNatClampNeg = mi 33 x.toNatClampNeg then q_step2 wk x mi else mi
def q_step (wk x : Int32) (mi : zw_I) : zw_I := q_stepB wk x (q_step1 x mi)
def q_idle (mi : zw_I) : zw_I := zw_up mi 32 31 (mi 32 31 + 1)
def q_awaits2 (mi : zw_I) : zw_I := zw_up mi 32 32 (mi 32 32 + 1)
def q_awaits (x a : Int32) (mi : zw_I) : zw_I := q_awaits2 (zw_up mi 53 (16 * x + mi 38 a.toNatClampNeg).toNatClampNeg (mi 53 (16 * x + mi 38 a.toNatClampNeg).toNatClampNeg + 1))
def q_die5 (mi : zw_I) : zw_I := zw_up mi 32 23 (mi 32 23 + 1)
def q_die4 (x : Int32) (mi : zw_I) : zw_I := q_die5 (zw_up mi 50 (mi 32 23).toNatClampNeg x)
def q_die3 (x : Int32) (mi : zw_I) : zw_I := q_die4 x (zw_up mi 32 24 (mi 32 24 - mi 34 x.toNatClampNeg))
def q_die2 (x : Int32) (mi : zw_I) : zw_I := q_die3 x (zw_up mi 48 x.toNatClampNeg 0)
def q_die1 (x : Int32) (mi : zw_I) : zw_I := q_die2 x (zw_up mi 32 25 (mi 32 25 - 1))
def q_die (wk x : Int32) (mi : zw_I) : zw_I := q_die1 x (zw_up mi 49 wk.toNatClampNeg (-2))
def q_tick4 (wk x : Int32) (q : Int32 × zw_I) (ml : zw_L) : zw_I × zw_L := if q.1 = 0 then (q_step wk x q.2, q_stepL q.2 ml x) else (q_die wk x q.2, ml)
def q_tick3 (wk x : Int32) (mi : zw_I) (ml : zw_L) : zw_I × zw_L := if q_waits mi x 7 0 < 0 then q_tick4 wk x (q_fails wk x mi 9 0) ml else (q_awaits x (q_waits mi x 7 0) mi, ml)
def q_tick2 (wk x : Int32) (mi : zw_I) (ml : zw_L) : zw_I × zw_L := if 0 ≤ x then q_tick3 wk x mi ml else if q_canTake mi = 0 then (q_idle mi, ml) else (q_take wk mi, ml)
def q_tick (wk : Int32) (mi : zw_I) (ml : zw_L) : zw_I × zw_L := q_tick2 wk (mi 49 wk.toNatClampNeg) mi ml
def q_isFin (mi : zw_I) (x : Int32) : Int32 := if mi 48 x.toNatClampNeg = mi 33 x.toNatClampNeg then 1 else 0
theorem q_isFin_01 {mi : zw_I} {x : Int32} : q_isFin mi x = 0 ∨ q_isFin mi x = 1 := by
  unfold q_isFin
  split
  · exact Or.inr rfl
  · exact Or.inl rfl
def q_stuck (mi : zw_I) (wk : Int32) : Nat → Int32 → Int32 → Int32
  | 0, s, _ => s
  | f + 1, s, k => if wk ≤ k then s else if s = 0 then s else if mi 49 k.toNatClampNeg = -2 then q_stuck mi wk f 1 (k + 1) else if mi 49 k.toNatClampNeg = -1 then (if q_canTake mi = 0 then q_stuck mi wk f 1 (k + 1) else q_stuck mi wk f 0 (k + 1)) else if q_waits mi (mi 49 k.toNatClampNeg) 7 0 < 0 then q_stuck mi wk f 0 (k + 1) else q_stuck mi wk f 1 (k + 1)
def q_end2 (mi : zw_I) (wk : Int32) : Int32 := if mi 32 25 = 0 then -1 else if q_stuck mi wk 17 1 0 = 0 then (if mi 32 30 = 20000 then -3 else 2) else -2
def q_end (mi : zw_I) (wk : Int32) : Int32 := if mi 32 29 = mi 32 1 then 0 else if mi 32 16 = -1 then q_end2 mi wk else if q_isFin mi (mi 32 16) = 0 then q_end2 mi wk else 1
def q_beg1 : Nat → Int32 → zw_I → zw_L → zw_I × zw_L
  | 0, _, mi, ml => (mi, ml)
  | f + 1, k, mi, ml => if mi 32 1 ≤ k then (mi, ml) else q_beg1 f (k + 1) (zw_up (zw_up (zw_up mi 48 k.toNatClampNeg 0) 52 k.toNatClampNeg 0) 50 k.toNatClampNeg k) (zw_up ml 47 (21 * k).toNatClampNeg (ml 35 k.toNatClampNeg))
def q_beg2 : Nat → Int32 → zw_I → zw_I
  | 0, _, mi => mi
  | f + 1, k, mi => if 256 ≤ k then mi else q_beg2 f (k + 1) (zw_up mi 53 k.toNatClampNeg 0)
def q_beg3 (wk : Int32) : Nat → Int32 → zw_I → zw_I
  | 0, _, mi => mi
  | f + 1, k, mi => if wk ≤ k then mi else q_beg3 wk f (k + 1) (zw_up mi 49 k.toNatClampNeg (-1))
def q_beg4 : Nat → Int32 → zw_I → zw_I
  | 0, _, mi => mi
  | f + 1, k, mi => if mi 32 15 ≤ k then mi else q_beg4 f (k + 1) (zw_up mi 44 k.toNatClampNeg (mi 43 k.toNatClampNeg))
def q_beg5 (wk : Int32) (mi : zw_I) : zw_I := zw_up (zw_up (zw_up (zw_up (zw_up (zw_up (zw_up (zw_up (zw_up mi 32 23 (mi 32 1)) 32 24 0) 32 25 wk) 32 29 0) 32 30 0) 32 31 0) 32 32 0) 32 33 0) 32 34 0
def q_begZ (wk : Int32) (mi : zw_I) : zw_I := q_beg5 wk (q_beg4 9 0 (q_beg3 wk 17 0 (q_beg2 257 0 mi)))
def q_begin (wk : Int32) (mi : zw_I) (ml : zw_L) : zw_I × zw_L := (q_begZ wk (q_beg1 17 0 mi ml).1, (q_beg1 17 0 mi ml).2)
theorem q_beg2_off {a b : Nat} (h : a ≠ 53) : ∀ (f : Nat) (k : Int32) (mi : zw_I), q_beg2 f k mi a b = mi a b
  | 0, _, _ => rfl
  | f + 1, k, mi => by
    rw [q_beg2]
    split
    · rfl
    · rw [q_beg2_off h f]; simp [zw_up, h]
theorem q_beg3_off {wk : Int32} {a b : Nat} (h : a ≠ 49) : ∀ (f : Nat) (k : Int32) (mi : zw_I), q_beg3 wk f k mi a b = mi a b
  | 0, _, _ => rfl
  | f + 1, k, mi => by
    rw [q_beg3]
    split
    · rfl
    · rw [q_beg3_off h f]; simp [zw_up, h]
def q_vals (e : Int32) : Nat → Int32 → zw_I → zw_L → zw_I × zw_L
  | 0, _, mi, ml => (mi, ml)
  | f + 1, k, mi, ml => if mi 32 1 ≤ k then (mi, ml) else if e < 0 then (mi, ml) else q_vals e f (k + 1) (zw_up mi 45 k.toNatClampNeg (q_isFin mi k)) (zw_up ml 46 k.toNatClampNeg (ml 47 (21 * k + zw_up mi 45 k.toNatClampNeg (q_isFin mi k) 33 k.toNatClampNeg).toNatClampNeg))
/-- the worker at a place among those that live: place, worker -/
def q_find (mi : zw_I) : Nat → Int32 → Int32 → Int32
  | 0, _, w => w
  | f + 1, pl, w => if mi 49 w.toNatClampNeg = -2 then q_find mi f (pl - 0) (w + 1) else if pl ≤ 0 then w else q_find mi f (pl - 1) (w + 1)
def q_place (mi : zw_I) (x : Int64) : Int32 := ((x.toUInt64 >>> ((33 : Int32).toInt64.toUInt64 &&& Int64.toUInt64 63)).toInt64 - (x.toUInt64 >>> ((33 : Int32).toInt64.toUInt64 &&& Int64.toUInt64 63)).toInt64 / (mi 32 25).toInt64 * (mi 32 25).toInt64).toInt32
def q_t1 (mi : zw_I) : zw_I := zw_up mi 32 30 (mi 32 30 + 1)
def q_loop (wk : Int32) : Nat → Int64 → Int32 → zw_I → zw_L → Int32 × zw_I × zw_L
  | 0, _, e, mi, ml => (e, mi, ml)
  | f + 1, x, e, mi, ml => if e = 2 then q_loop wk f (p_x x) (q_end (q_tick (q_find mi 17 (q_place mi (p_x x)) 0) (q_t1 mi) ml).1 wk) (q_tick (q_find mi 17 (q_place mi (p_x x)) 0) (q_t1 mi) ml).1 (q_tick (q_find mi 17 (q_place mi (p_x x)) 0) (q_t1 mi) ml).2 else (e, mi, ml)
def q_live (mi : zw_I) : zw_I := zw_up mi 32 35 (mi 32 25)
def q_runZ (q : Int32 × zw_I × zw_L) : Int32 × zw_I × zw_L := (q.1, q_vals q.1 17 0 (q_live q.2.1) q.2.2)
def q_run0 (wk : Int32) (x : Int64) (mi : zw_I) (ml : zw_L) : Int32 × zw_I × zw_L := q_loop wk 20001 x (q_end (q_begin wk mi ml).1 wk) (q_begin wk mi ml).1 (q_begin wk mi ml).2
def q_run (wk : Int32) (x : Int64) (mi : zw_I) (ml : zw_L) : Int32 × zw_I × zw_L := if p_within wk 1 16 = 0 then (0, zw_up mi 32 0 1, ml) else q_runZ (q_run0 wk x (zw_up mi 32 0 0) ml)
def q_at (mi : zw_I) (ml : zw_L) (x : Int32) : Int64 × zw_I := if q_isShare mi x = 0 then (0, zw_up mi 32 0 1) else if mi 45 x.toNatClampNeg = 0 then (0, zw_up mi 32 0 2) else (ml 46 x.toNatClampNeg, zw_up mi 32 0 0)
def q_order (mi : zw_I) (x : Int32) : Int32 × zw_I := if p_within x 0 (mi 32 29 - 1) = 0 then (0, zw_up mi 32 0 1) else (zw_up mi 32 0 0 51 x.toNatClampNeg, zw_up mi 32 0 0)
def q_begun (mi : zw_I) (x : Int32) : Int32 × zw_I := if q_isShare mi x = 0 then (0, zw_up mi 32 0 1) else (zw_up mi 32 0 0 52 x.toNatClampNeg, zw_up mi 32 0 0)
def q_waited (mi : zw_I) (x y : Int32) : Int32 × zw_I := if q_isShare mi x = 0 then (0, zw_up mi 32 0 1) else if q_isShare mi y = 0 then (0, zw_up mi 32 0 1) else (zw_up mi 32 0 0 53 (16 * x + y).toNatClampNeg, zw_up mi 32 0 0)
def q_count (mi : zw_I) : Nat → Int32 → Int32 → Int32
  | 0, a, _ => a
  | f + 1, a, k => if mi 32 1 ≤ k then a else if mi 45 k.toNatClampNeg = 0 then q_count mi f (a + 0) (k + 1) else q_count mi f (a + 1) (k + 1)
def q_toldA (mi : zw_I) (x a : Int32) : Int32 := if x = 0 then mi 32 1 else if x = 1 then mi 32 2 else if x = 2 then mi 32 15 else if x = 3 then mi 32 16 else if x = 4 then mi 32 30 else if x = 5 then mi 32 31 else if x = 6 then mi 32 32 else if x = 7 then mi 32 33 else if x = 8 then mi 32 34 else if x = 9 then mi 32 35 else if x = 10 then mi 32 29 else if x = 11 then a else -1
def q_told (mi : zw_I) (x : Int32) : Int32 := q_toldA mi x (q_count mi 17 0 0)
def q_clr1 : Nat → Int32 → zw_I → zw_L → zw_I × zw_L
  | 0, _, mi, ml => (mi, ml)
  | f + 1, k, mi, ml => if 16 ≤ k then (mi, ml) else q_clr1 f (k + 1) (zw_up (zw_up (zw_up (zw_up (zw_up (zw_up mi 33 k.toNatClampNeg 1) 34 k.toNatClampNeg 1) 36 k.toNatClampNeg 0) 45 k.toNatClampNeg 0) 48 k.toNatClampNeg 0) 52 k.toNatClampNeg 0) (zw_up ml 35 k.toNatClampNeg k.toInt64)
def q_clr3 (mi : zw_I) : zw_I := zw_up (zw_up (zw_up (zw_up (zw_up (zw_up (zw_up mi 32 29 0) 32 30 0) 32 31 0) 32 32 0) 32 33 0) 32 34 0) 32 35 0
def q_clr0 (mi : zw_I) : zw_I := zw_up (zw_up (zw_up mi 32 0 0) 32 15 0) 32 16 (-1)
def q_clear (mi : zw_I) (ml : zw_L) : zw_I × zw_L := (q_clr3 (q_beg2 257 0 (q_clr1 17 0 (q_clr0 mi) ml).1), (q_clr1 17 0 (q_clr0 mi) ml).2)
/-- what keeps the reference's indexes in their ranges -/
def zm_N (mi : zw_I) : Prop := (∀ i : Nat, i < 16 → ∃ w : Nat, w ≤ 6 ∧ mi 36 i = nI w) ∧ (∀ k : Nat, k < 96 → vp_in (mi 38 k) 16 ∧ vp_in (mi 39 k) 21) ∧ ∃ w : Nat, w ≤ 8 ∧ mi 32 15 = nI w
theorem zm_at {x : Int32} (h : vp_in x 16) (k : Nat) (hk : k < 6) : vp_in (6 * x + nI k) 96 := by
  obtain ⟨j, hj, rfl⟩ := vp_in_of h (by decide)
  rw [show (6 : Int32) = nI 6 from rfl, pk_mul, nI_add]
  exact vp_in_nI (by omega) (by decide)
theorem zm_21 {x y : Int32} (h : vp_in x 16) (hy : vp_in y 21) : vp_in (21 * x + y) 336 := by
  obtain ⟨j, hj, rfl⟩ := vp_in_of h (by decide)
  obtain ⟨k, hk, rfl⟩ := vp_in_of hy (by decide)
  rw [show (21 : Int32) = nI 21 from rfl, pk_mul, nI_add]
  exact vp_in_nI (by omega) (by decide)
theorem zm_21' {x y : Int32} (h : vp_in x 16) (hy : vp_in (y + 1) 21) (hy0 : vp_in y 21) : vp_in (21 * x + y + 1) 336 := by
  obtain ⟨j, hj, rfl⟩ := vp_in_of h (by decide)
  obtain ⟨k, hk, rfl⟩ := vp_in_of hy0 (by decide)
  rw [nI_1] at hy
  have hk1 : k + 1 < 21 := by
    have := vp_in_iff.mp hy
    rw [nI_toInt (by omega)] at this
    omega
  rw [show (21 : Int32) = nI 21 from rfl, pk_mul, nI_add, nI_1]
  exact vp_in_nI (by omega) (by decide)
theorem zm_210 {x : Int32} (h : vp_in x 16) : vp_in (21 * x) 336 := by
  obtain ⟨j, hj, rfl⟩ := vp_in_of h (by decide)
  rw [show (21 : Int32) = nI 21 from rfl, pk_mul]
  exact vp_in_nI (by omega) (by decide)
theorem zm_16 {x y : Int32} (h : vp_in x 16) (hy : vp_in y 16) : vp_in (16 * x + y) 256 := by
  obtain ⟨j, hj, rfl⟩ := vp_in_of h (by decide)
  obtain ⟨k, hk, rfl⟩ := vp_in_of hy (by decide)
  rw [show (16 : Int32) = nI 16 from rfl, pk_mul, nI_add]
  exact vp_in_nI (by omega) (by decide)
/-- .. of the share x at which a worker works -/
def zm_T (mi : zw_I) (x : Int32) : Prop := vp_in (mi 48 x.toNatClampNeg) 21 ∧ vp_in (mi 48 x.toNatClampNeg + 1) 21 ∧ vp_in (mi 32 29) 16 ∧ vp_in (mi 32 23) 16
theorem q_fails_off {w x : Int32} {mi : zw_I} {a b : Nat} (h1 : a ≠ 44) : ∀ (f : Nat) (k : Int32), (q_fails w x mi f k).2 a b = mi a b
  | 0, _ => rfl
  | f + 1, k => by
    rw [q_fails]
    split
    · rfl
    · split
      · exact q_fails_off h1 f (k + 1)
      · split
        · split
          · split
            · simp [zw_up, h1]
            · exact q_fails_off h1 f (k + 1)
          · exact q_fails_off h1 f (k + 1)
        · exact q_fails_off h1 f (k + 1)
theorem zm_N_same {mi m : zw_I} (h : ∀ a b, a ≠ 44 → m a b = mi a b) (hN : zm_N mi) : zm_N m := by
  obtain ⟨h1, h2, h3⟩ := hN
  refine ⟨fun i hi => by rw [h 36 i (by decide)]; exact h1 i hi, fun k hk => by rw [h 38 k (by decide), h 39 k (by decide)]; exact h2 k hk, by rw [h 32 15 (by decide)]; exact h3⟩
theorem zm_T_same {mi m : zw_I} {x : Int32} (h : ∀ a b, a ≠ 44 → m a b = mi a b) (hT : zm_T mi x) : zm_T m x := by
  unfold zm_T
  rw [h 48 _ (by decide), h 32 29 (by decide), h 32 23 (by decide)]
  exact hT
end
section
abbrev Y_Model_thrown : zc_Y := (⟨R_Model, "thrown", "()I"⟩, prog_9_method_2_code, 1, (some FieldType.int))
abbrev Y_Model_isShare : zc_Y := (⟨R_Model, "isShare", "(I)Z"⟩, prog_9_method_3_code, 2, (some FieldType.boolean))
abbrev Y_Model_isIn : zc_Y := (⟨R_Model, "isIn", "(III)Z"⟩, prog_9_method_4_code, 3, (some FieldType.boolean))
abbrev Y_Model_share : zc_Y := (⟨R_Model, "share", "(IIIJ)I"⟩, prog_9_method_5_code, 6, (some FieldType.int))
abbrev Y_Model_need : zc_Y := (⟨R_Model, "need", "(IIII)I"⟩, prog_9_method_6_code, 6, (some FieldType.int))
abbrev Y_Model_free : zc_Y := (⟨R_Model, "free", "(I)I"⟩, prog_9_method_7_code, 3, (some FieldType.int))
abbrev Y_Model_failing : zc_Y := (⟨R_Model, "failing", "(IIII)I"⟩, prog_9_method_8_code, 5, (some FieldType.int))
abbrev Y_Model_stop : zc_Y := (⟨R_Model, "stop", "(I)I"⟩, prog_9_method_9_code, 3, (some FieldType.int))
abbrev Y_Model_waitsFor : zc_Y := (⟨R_Model, "waitsFor", "(I)I"⟩, prog_9_method_10_code, 4, (some FieldType.int))
abbrev Y_Model_canTake : zc_Y := (⟨R_Model, "canTake", "()Z"⟩, prog_9_method_11_code, 1, (some FieldType.boolean))
abbrev Y_Model_take : zc_Y := (⟨R_Model, "take", "(I)V"⟩, prog_9_method_12_code, 4, none)
abbrev Y_Model_fails : zc_Y := (⟨R_Model, "fails", "(II)Z"⟩, prog_9_method_13_code, 4, (some FieldType.boolean))
abbrev Y_Model_isFinished : zc_Y := (⟨R_Model, "isFinished", "(I)Z"⟩, prog_9_method_16_code, 2, (some FieldType.boolean))
theorem d_Model_thrown_0 : decode prog_9_method_2_code 0 = .ok (.aload_n 0, 1) := by decide +kernel
theorem d_Model_thrown_1 : decode prog_9_method_2_code 1 = .ok (.getfield 85, 3) := by decide +kernel
theorem d_Model_thrown_4 : decode prog_9_method_2_code 4 = .ok (.ireturn, 1) := by decide +kernel
theorem d_Model_isShare_0 : decode prog_9_method_3_code 0 = .ok (.iload_n 1, 1) := by decide +kernel
theorem d_Model_isShare_1 : decode prog_9_method_3_code 1 = .ok (.ifCond .lt 15, 3) := by decide +kernel
theorem d_Model_isShare_4 : decode prog_9_method_3_code 4 = .ok (.iload_n 1, 1) := by decide +kernel
theorem d_Model_isShare_5 : decode prog_9_method_3_code 5 = .ok (.aload_n 0, 1) := by decide +kernel
theorem d_Model_isShare_6 : decode prog_9_method_3_code 6 = .ok (.getfield 75, 3) := by decide +kernel
theorem d_Model_isShare_9 : decode prog_9_method_3_code 9 = .ok (.if_icmp .ge 7, 3) := by decide +kernel
theorem d_Model_isShare_12 : decode prog_9_method_3_code 12 = .ok (.iconst 1, 1) := by decide +kernel
theorem d_Model_isShare_13 : decode prog_9_method_3_code 13 = .ok (.goto 4, 3) := by decide +kernel
theorem d_Model_isShare_16 : decode prog_9_method_3_code 16 = .ok (.iconst 0, 1) := by decide +kernel
theorem d_Model_isShare_17 : decode prog_9_method_3_code 17 = .ok (.ireturn, 1) := by decide +kernel
theorem d_Model_isIn_0 : decode prog_9_method_4_code 0 = .ok (.iload_n 0, 1) := by decide +kernel
theorem d_Model_isIn_1 : decode prog_9_method_4_code 1 = .ok (.iload_n 1, 1) := by decide +kernel
theorem d_Model_isIn_2 : decode prog_9_method_4_code 2 = .ok (.if_icmp .lt 12, 3) := by decide +kernel
theorem d_Model_isIn_5 : decode prog_9_method_4_code 5 = .ok (.iload_n 0, 1) := by decide +kernel
theorem d_Model_isIn_6 : decode prog_9_method_4_code 6 = .ok (.iload_n 2, 1) := by decide +kernel
theorem d_Model_isIn_7 : decode prog_9_method_4_code 7 = .ok (.if_icmp .gt 7, 3) := by decide +kernel
theorem d_Model_isIn_10 : decode prog_9_method_4_code 10 = .ok (.iconst 1, 1) := by decide +kernel
theorem d_Model_isIn_11 : decode prog_9_method_4_code 11 = .ok (.goto 4, 3) := by decide +kernel
theorem d_Model_isIn_14 : decode prog_9_method_4_code 14 = .ok (.iconst 0, 1) := by decide +kernel
theorem d_Model_isIn_15 : decode prog_9_method_4_code 15 = .ok (.ireturn, 1) := by decide +kernel
theorem d_Model_share_0 : decode prog_9_method_5_code 0 = .ok (.aload_n 0, 1) := by decide +kernel
theorem d_Model_share_1 : decode prog_9_method_5_code 1 = .ok (.aload_n 0, 1) := by decide +kernel
theorem d_Model_share_2 : decode prog_9_method_5_code 2 = .ok (.iload_n 1, 1) := by decide +kernel
theorem d_Model_share_3 : decode prog_9_method_5_code 3 = .ok (.invokevirtual 88, 3) := by decide +kernel
theorem d_Model_share_6 : decode prog_9_method_5_code 6 = .ok (.ifCond .ne 7, 3) := by decide +kernel
theorem d_Model_share_9 : decode prog_9_method_5_code 9 = .ok (.iconst 1, 1) := by decide +kernel
theorem d_Model_share_10 : decode prog_9_method_5_code 10 = .ok (.goto 30, 3) := by decide +kernel
theorem d_Model_share_13 : decode prog_9_method_5_code 13 = .ok (.iload_n 2, 1) := by decide +kernel
theorem d_Model_share_14 : decode prog_9_method_5_code 14 = .ok (.iconst 1, 1) := by decide +kernel
theorem d_Model_share_15 : decode prog_9_method_5_code 15 = .ok (.bipush 20, 2) := by decide +kernel
theorem d_Model_share_17 : decode prog_9_method_5_code 17 = .ok (.invokestatic 92, 3) := by decide +kernel
theorem d_Model_share_20 : decode prog_9_method_5_code 20 = .ok (.ifCond .eq 15, 3) := by decide +kernel
theorem d_Model_share_23 : decode prog_9_method_5_code 23 = .ok (.iload_n 3, 1) := by decide +kernel
theorem d_Model_share_24 : decode prog_9_method_5_code 24 = .ok (.iconst 1, 1) := by decide +kernel
theorem d_Model_share_25 : decode prog_9_method_5_code 25 = .ok (.aload_n 0, 1) := by decide +kernel
theorem d_Model_share_26 : decode prog_9_method_5_code 26 = .ok (.getfield 79, 3) := by decide +kernel
theorem d_Model_share_29 : decode prog_9_method_5_code 29 = .ok (.invokestatic 92, 3) := by decide +kernel
theorem d_Model_share_32 : decode prog_9_method_5_code 32 = .ok (.ifCond .ne 7, 3) := by decide +kernel
theorem d_Model_share_35 : decode prog_9_method_5_code 35 = .ok (.iconst 2, 1) := by decide +kernel
theorem d_Model_share_36 : decode prog_9_method_5_code 36 = .ok (.goto 4, 3) := by decide +kernel
theorem d_Model_share_39 : decode prog_9_method_5_code 39 = .ok (.iconst 0, 1) := by decide +kernel
theorem d_Model_share_40 : decode prog_9_method_5_code 40 = .ok (.putfield 85, 3) := by decide +kernel
theorem d_Model_share_43 : decode prog_9_method_5_code 43 = .ok (.aload_n 0, 1) := by decide +kernel
theorem d_Model_share_44 : decode prog_9_method_5_code 44 = .ok (.getfield 85, 3) := by decide +kernel
theorem d_Model_share_47 : decode prog_9_method_5_code 47 = .ok (.ifCond .le 5, 3) := by decide +kernel
theorem d_Model_share_50 : decode prog_9_method_5_code 50 = .ok (.iconst 0, 1) := by decide +kernel
theorem d_Model_share_51 : decode prog_9_method_5_code 51 = .ok (.ireturn, 1) := by decide +kernel
theorem d_Model_share_52 : decode prog_9_method_5_code 52 = .ok (.aload_n 0, 1) := by decide +kernel
theorem d_Model_share_53 : decode prog_9_method_5_code 53 = .ok (.getfield 7, 3) := by decide +kernel
theorem d_Model_share_56 : decode prog_9_method_5_code 56 = .ok (.iload_n 1, 1) := by decide +kernel
theorem d_Model_share_57 : decode prog_9_method_5_code 57 = .ok (.iload_n 2, 1) := by decide +kernel
theorem d_Model_share_58 : decode prog_9_method_5_code 58 = .ok (.iastore, 1) := by decide +kernel
theorem d_Model_share_59 : decode prog_9_method_5_code 59 = .ok (.aload_n 0, 1) := by decide +kernel
theorem d_Model_share_60 : decode prog_9_method_5_code 60 = .ok (.getfield 13, 3) := by decide +kernel
theorem d_Model_share_63 : decode prog_9_method_5_code 63 = .ok (.iload_n 1, 1) := by decide +kernel
theorem d_Model_share_64 : decode prog_9_method_5_code 64 = .ok (.iload_n 3, 1) := by decide +kernel
theorem d_Model_share_65 : decode prog_9_method_5_code 65 = .ok (.iastore, 1) := by decide +kernel
theorem d_Model_share_66 : decode prog_9_method_5_code 66 = .ok (.aload_n 0, 1) := by decide +kernel
theorem d_Model_share_67 : decode prog_9_method_5_code 67 = .ok (.getfield 16, 3) := by decide +kernel
theorem d_Model_share_70 : decode prog_9_method_5_code 70 = .ok (.iload_n 1, 1) := by decide +kernel
theorem d_Model_share_71 : decode prog_9_method_5_code 71 = .ok (.lload 4, 2) := by decide +kernel
theorem d_Model_share_73 : decode prog_9_method_5_code 73 = .ok (.lastore, 1) := by decide +kernel
theorem d_Model_share_74 : decode prog_9_method_5_code 74 = .ok (.aload_n 0, 1) := by decide +kernel
theorem d_Model_share_75 : decode prog_9_method_5_code 75 = .ok (.getfield 20, 3) := by decide +kernel
theorem d_Model_share_78 : decode prog_9_method_5_code 78 = .ok (.iload_n 1, 1) := by decide +kernel
theorem d_Model_share_79 : decode prog_9_method_5_code 79 = .ok (.iaload, 1) := by decide +kernel
theorem d_Model_share_80 : decode prog_9_method_5_code 80 = .ok (.ireturn, 1) := by decide +kernel
theorem d_Model_need_0 : decode prog_9_method_6_code 0 = .ok (.aload_n 0, 1) := by decide +kernel
theorem d_Model_need_1 : decode prog_9_method_6_code 1 = .ok (.aload_n 0, 1) := by decide +kernel
theorem d_Model_need_2 : decode prog_9_method_6_code 2 = .ok (.iload_n 1, 1) := by decide +kernel
theorem d_Model_need_3 : decode prog_9_method_6_code 3 = .ok (.invokevirtual 88, 3) := by decide +kernel
theorem d_Model_need_6 : decode prog_9_method_6_code 6 = .ok (.ifCond .eq 11, 3) := by decide +kernel
theorem d_Model_need_9 : decode prog_9_method_6_code 9 = .ok (.aload_n 0, 1) := by decide +kernel
theorem d_Model_need_10 : decode prog_9_method_6_code 10 = .ok (.iload_n 3, 1) := by decide +kernel
theorem d_Model_need_11 : decode prog_9_method_6_code 11 = .ok (.invokevirtual 88, 3) := by decide +kernel
theorem d_Model_need_14 : decode prog_9_method_6_code 14 = .ok (.ifCond .ne 7, 3) := by decide +kernel
theorem d_Model_need_17 : decode prog_9_method_6_code 17 = .ok (.iconst 1, 1) := by decide +kernel
theorem d_Model_need_18 : decode prog_9_method_6_code 18 = .ok (.goto 49, 3) := by decide +kernel
theorem d_Model_need_21 : decode prog_9_method_6_code 21 = .ok (.iload_n 2, 1) := by decide +kernel
theorem d_Model_need_22 : decode prog_9_method_6_code 22 = .ok (.iconst 0, 1) := by decide +kernel
theorem d_Model_need_23 : decode prog_9_method_6_code 23 = .ok (.bipush 19, 2) := by decide +kernel
theorem d_Model_need_25 : decode prog_9_method_6_code 25 = .ok (.invokestatic 92, 3) := by decide +kernel
theorem d_Model_need_28 : decode prog_9_method_6_code 28 = .ok (.ifCond .eq 19, 3) := by decide +kernel
theorem d_Model_need_31 : decode prog_9_method_6_code 31 = .ok (.iload 4, 2) := by decide +kernel
theorem d_Model_need_33 : decode prog_9_method_6_code 33 = .ok (.iconst 1, 1) := by decide +kernel
theorem d_Model_need_34 : decode prog_9_method_6_code 34 = .ok (.bipush 20, 2) := by decide +kernel
theorem d_Model_need_36 : decode prog_9_method_6_code 36 = .ok (.invokestatic 92, 3) := by decide +kernel
theorem d_Model_need_39 : decode prog_9_method_6_code 39 = .ok (.ifCond .eq 8, 3) := by decide +kernel
theorem d_Model_need_42 : decode prog_9_method_6_code 42 = .ok (.iload_n 3, 1) := by decide +kernel
theorem d_Model_need_43 : decode prog_9_method_6_code 43 = .ok (.iload_n 1, 1) := by decide +kernel
theorem d_Model_need_44 : decode prog_9_method_6_code 44 = .ok (.if_icmp .ne 7, 3) := by decide +kernel
theorem d_Model_need_47 : decode prog_9_method_6_code 47 = .ok (.iconst 2, 1) := by decide +kernel
theorem d_Model_need_48 : decode prog_9_method_6_code 48 = .ok (.goto 19, 3) := by decide +kernel
theorem d_Model_need_51 : decode prog_9_method_6_code 51 = .ok (.aload_n 0, 1) := by decide +kernel
theorem d_Model_need_52 : decode prog_9_method_6_code 52 = .ok (.getfield 20, 3) := by decide +kernel
theorem d_Model_need_55 : decode prog_9_method_6_code 55 = .ok (.iload_n 1, 1) := by decide +kernel
theorem d_Model_need_56 : decode prog_9_method_6_code 56 = .ok (.iaload, 1) := by decide +kernel
theorem d_Model_need_57 : decode prog_9_method_6_code 57 = .ok (.bipush 6, 2) := by decide +kernel
theorem d_Model_need_59 : decode prog_9_method_6_code 59 = .ok (.if_icmp .ne 7, 3) := by decide +kernel
theorem d_Model_need_62 : decode prog_9_method_6_code 62 = .ok (.iconst 3, 1) := by decide +kernel
theorem d_Model_need_63 : decode prog_9_method_6_code 63 = .ok (.goto 4, 3) := by decide +kernel
theorem d_Model_need_66 : decode prog_9_method_6_code 66 = .ok (.iconst 0, 1) := by decide +kernel
theorem d_Model_need_67 : decode prog_9_method_6_code 67 = .ok (.putfield 85, 3) := by decide +kernel
theorem d_Model_need_70 : decode prog_9_method_6_code 70 = .ok (.aload_n 0, 1) := by decide +kernel
theorem d_Model_need_71 : decode prog_9_method_6_code 71 = .ok (.getfield 85, 3) := by decide +kernel
theorem d_Model_need_74 : decode prog_9_method_6_code 74 = .ok (.ifCond .le 5, 3) := by decide +kernel
theorem d_Model_need_77 : decode prog_9_method_6_code 77 = .ok (.iconst 0, 1) := by decide +kernel
theorem d_Model_need_78 : decode prog_9_method_6_code 78 = .ok (.ireturn, 1) := by decide +kernel
theorem d_Model_need_79 : decode prog_9_method_6_code 79 = .ok (.bipush 6, 2) := by decide +kernel
theorem d_Model_need_81 : decode prog_9_method_6_code 81 = .ok (.iload_n 1, 1) := by decide +kernel
theorem d_Model_need_82 : decode prog_9_method_6_code 82 = .ok (.imul, 1) := by decide +kernel
theorem d_Model_need_83 : decode prog_9_method_6_code 83 = .ok (.aload_n 0, 1) := by decide +kernel
theorem d_Model_need_84 : decode prog_9_method_6_code 84 = .ok (.getfield 20, 3) := by decide +kernel
theorem d_Model_need_87 : decode prog_9_method_6_code 87 = .ok (.iload_n 1, 1) := by decide +kernel
theorem d_Model_need_88 : decode prog_9_method_6_code 88 = .ok (.iaload, 1) := by decide +kernel
theorem d_Model_need_89 : decode prog_9_method_6_code 89 = .ok (.iadd, 1) := by decide +kernel
theorem d_Model_need_90 : decode prog_9_method_6_code 90 = .ok (.istore 5, 2) := by decide +kernel
theorem d_Model_need_92 : decode prog_9_method_6_code 92 = .ok (.aload_n 0, 1) := by decide +kernel
theorem d_Model_need_93 : decode prog_9_method_6_code 93 = .ok (.getfield 23, 3) := by decide +kernel
theorem d_Model_need_96 : decode prog_9_method_6_code 96 = .ok (.iload 5, 2) := by decide +kernel
theorem d_Model_need_98 : decode prog_9_method_6_code 98 = .ok (.iload_n 2, 1) := by decide +kernel
theorem d_Model_need_99 : decode prog_9_method_6_code 99 = .ok (.iastore, 1) := by decide +kernel
theorem d_Model_need_100 : decode prog_9_method_6_code 100 = .ok (.aload_n 0, 1) := by decide +kernel
theorem d_Model_need_101 : decode prog_9_method_6_code 101 = .ok (.getfield 26, 3) := by decide +kernel
theorem d_Model_need_104 : decode prog_9_method_6_code 104 = .ok (.iload 5, 2) := by decide +kernel
theorem d_Model_need_106 : decode prog_9_method_6_code 106 = .ok (.iload_n 3, 1) := by decide +kernel
theorem d_Model_need_107 : decode prog_9_method_6_code 107 = .ok (.iastore, 1) := by decide +kernel
theorem d_Model_need_108 : decode prog_9_method_6_code 108 = .ok (.aload_n 0, 1) := by decide +kernel
theorem d_Model_need_109 : decode prog_9_method_6_code 109 = .ok (.getfield 29, 3) := by decide +kernel
theorem d_Model_need_112 : decode prog_9_method_6_code 112 = .ok (.iload 5, 2) := by decide +kernel
theorem d_Model_need_114 : decode prog_9_method_6_code 114 = .ok (.iload 4, 2) := by decide +kernel
theorem d_Model_need_116 : decode prog_9_method_6_code 116 = .ok (.iastore, 1) := by decide +kernel
theorem d_Model_need_117 : decode prog_9_method_6_code 117 = .ok (.aload_n 0, 1) := by decide +kernel
theorem d_Model_need_118 : decode prog_9_method_6_code 118 = .ok (.getfield 20, 3) := by decide +kernel
theorem d_Model_need_121 : decode prog_9_method_6_code 121 = .ok (.iload_n 1, 1) := by decide +kernel
theorem d_Model_need_122 : decode prog_9_method_6_code 122 = .ok (.dup2, 1) := by decide +kernel
theorem d_Model_need_123 : decode prog_9_method_6_code 123 = .ok (.iaload, 1) := by decide +kernel
theorem d_Model_need_124 : decode prog_9_method_6_code 124 = .ok (.iconst 1, 1) := by decide +kernel
theorem d_Model_need_125 : decode prog_9_method_6_code 125 = .ok (.iadd, 1) := by decide +kernel
theorem d_Model_need_126 : decode prog_9_method_6_code 126 = .ok (.iastore, 1) := by decide +kernel
theorem d_Model_need_127 : decode prog_9_method_6_code 127 = .ok (.aload_n 0, 1) := by decide +kernel
theorem d_Model_need_128 : decode prog_9_method_6_code 128 = .ok (.getfield 20, 3) := by decide +kernel
theorem d_Model_need_131 : decode prog_9_method_6_code 131 = .ok (.iload_n 1, 1) := by decide +kernel
theorem d_Model_need_132 : decode prog_9_method_6_code 132 = .ok (.iaload, 1) := by decide +kernel
theorem d_Model_need_133 : decode prog_9_method_6_code 133 = .ok (.ireturn, 1) := by decide +kernel
theorem d_Model_free_0 : decode prog_9_method_7_code 0 = .ok (.aload_n 0, 1) := by decide +kernel
theorem d_Model_free_1 : decode prog_9_method_7_code 1 = .ok (.aload_n 0, 1) := by decide +kernel
theorem d_Model_free_2 : decode prog_9_method_7_code 2 = .ok (.iload_n 1, 1) := by decide +kernel
theorem d_Model_free_3 : decode prog_9_method_7_code 3 = .ok (.invokevirtual 88, 3) := by decide +kernel
theorem d_Model_free_6 : decode prog_9_method_7_code 6 = .ok (.ifCond .eq 7, 3) := by decide +kernel
theorem d_Model_free_9 : decode prog_9_method_7_code 9 = .ok (.iconst 0, 1) := by decide +kernel
theorem d_Model_free_10 : decode prog_9_method_7_code 10 = .ok (.goto 4, 3) := by decide +kernel
theorem d_Model_free_13 : decode prog_9_method_7_code 13 = .ok (.iconst 1, 1) := by decide +kernel
theorem d_Model_free_14 : decode prog_9_method_7_code 14 = .ok (.putfield 85, 3) := by decide +kernel
theorem d_Model_free_17 : decode prog_9_method_7_code 17 = .ok (.aload_n 0, 1) := by decide +kernel
theorem d_Model_free_18 : decode prog_9_method_7_code 18 = .ok (.getfield 85, 3) := by decide +kernel
theorem d_Model_free_21 : decode prog_9_method_7_code 21 = .ok (.ifCond .le 5, 3) := by decide +kernel
theorem d_Model_free_24 : decode prog_9_method_7_code 24 = .ok (.iconst 0, 1) := by decide +kernel
theorem d_Model_free_25 : decode prog_9_method_7_code 25 = .ok (.ireturn, 1) := by decide +kernel
theorem d_Model_free_26 : decode prog_9_method_7_code 26 = .ok (.aload_n 0, 1) := by decide +kernel
theorem d_Model_free_27 : decode prog_9_method_7_code 27 = .ok (.getfield 20, 3) := by decide +kernel
theorem d_Model_free_30 : decode prog_9_method_7_code 30 = .ok (.iload_n 1, 1) := by decide +kernel
theorem d_Model_free_31 : decode prog_9_method_7_code 31 = .ok (.iaload, 1) := by decide +kernel
theorem d_Model_free_32 : decode prog_9_method_7_code 32 = .ok (.istore_n 2, 1) := by decide +kernel
theorem d_Model_free_33 : decode prog_9_method_7_code 33 = .ok (.aload_n 0, 1) := by decide +kernel
theorem d_Model_free_34 : decode prog_9_method_7_code 34 = .ok (.getfield 20, 3) := by decide +kernel
theorem d_Model_free_37 : decode prog_9_method_7_code 37 = .ok (.iload_n 1, 1) := by decide +kernel
theorem d_Model_free_38 : decode prog_9_method_7_code 38 = .ok (.iconst 0, 1) := by decide +kernel
theorem d_Model_free_39 : decode prog_9_method_7_code 39 = .ok (.iastore, 1) := by decide +kernel
theorem d_Model_free_40 : decode prog_9_method_7_code 40 = .ok (.iload_n 2, 1) := by decide +kernel
theorem d_Model_free_41 : decode prog_9_method_7_code 41 = .ok (.ireturn, 1) := by decide +kernel
theorem d_Model_failing_0 : decode prog_9_method_8_code 0 = .ok (.aload_n 0, 1) := by decide +kernel
theorem d_Model_failing_1 : decode prog_9_method_8_code 1 = .ok (.aload_n 0, 1) := by decide +kernel
theorem d_Model_failing_2 : decode prog_9_method_8_code 2 = .ok (.iload_n 2, 1) := by decide +kernel
theorem d_Model_failing_3 : decode prog_9_method_8_code 3 = .ok (.invokevirtual 88, 3) := by decide +kernel
theorem d_Model_failing_6 : decode prog_9_method_8_code 6 = .ok (.ifCond .ne 7, 3) := by decide +kernel
theorem d_Model_failing_9 : decode prog_9_method_8_code 9 = .ok (.iconst 1, 1) := by decide +kernel
theorem d_Model_failing_10 : decode prog_9_method_8_code 10 = .ok (.goto 52, 3) := by decide +kernel
theorem d_Model_failing_13 : decode prog_9_method_8_code 13 = .ok (.iload_n 1, 1) := by decide +kernel
theorem d_Model_failing_14 : decode prog_9_method_8_code 14 = .ok (.iconst 0, 1) := by decide +kernel
theorem d_Model_failing_15 : decode prog_9_method_8_code 15 = .ok (.bipush 15, 2) := by decide +kernel
theorem d_Model_failing_17 : decode prog_9_method_8_code 17 = .ok (.invokestatic 92, 3) := by decide +kernel
theorem d_Model_failing_20 : decode prog_9_method_8_code 20 = .ok (.ifCond .eq 24, 3) := by decide +kernel
theorem d_Model_failing_23 : decode prog_9_method_8_code 23 = .ok (.iload_n 3, 1) := by decide +kernel
theorem d_Model_failing_24 : decode prog_9_method_8_code 24 = .ok (.iconst 0, 1) := by decide +kernel
theorem d_Model_failing_25 : decode prog_9_method_8_code 25 = .ok (.bipush 19, 2) := by decide +kernel
theorem d_Model_failing_27 : decode prog_9_method_8_code 27 = .ok (.invokestatic 92, 3) := by decide +kernel
theorem d_Model_failing_30 : decode prog_9_method_8_code 30 = .ok (.ifCond .eq 14, 3) := by decide +kernel
theorem d_Model_failing_33 : decode prog_9_method_8_code 33 = .ok (.iload 4, 2) := by decide +kernel
theorem d_Model_failing_35 : decode prog_9_method_8_code 35 = .ok (.iconst 1, 1) := by decide +kernel
theorem d_Model_failing_36 : decode prog_9_method_8_code 36 = .ok (.bipush 9, 2) := by decide +kernel
theorem d_Model_failing_38 : decode prog_9_method_8_code 38 = .ok (.invokestatic 92, 3) := by decide +kernel
theorem d_Model_failing_41 : decode prog_9_method_8_code 41 = .ok (.ifCond .ne 7, 3) := by decide +kernel
theorem d_Model_failing_44 : decode prog_9_method_8_code 44 = .ok (.iconst 2, 1) := by decide +kernel
theorem d_Model_failing_45 : decode prog_9_method_8_code 45 = .ok (.goto 17, 3) := by decide +kernel
theorem d_Model_failing_48 : decode prog_9_method_8_code 48 = .ok (.aload_n 0, 1) := by decide +kernel
theorem d_Model_failing_49 : decode prog_9_method_8_code 49 = .ok (.getfield 96, 3) := by decide +kernel
theorem d_Model_failing_52 : decode prog_9_method_8_code 52 = .ok (.bipush 8, 2) := by decide +kernel
theorem d_Model_failing_54 : decode prog_9_method_8_code 54 = .ok (.if_icmp .ne 7, 3) := by decide +kernel
theorem d_Model_failing_57 : decode prog_9_method_8_code 57 = .ok (.iconst 3, 1) := by decide +kernel
theorem d_Model_failing_58 : decode prog_9_method_8_code 58 = .ok (.goto 4, 3) := by decide +kernel
theorem d_Model_failing_61 : decode prog_9_method_8_code 61 = .ok (.iconst 0, 1) := by decide +kernel
theorem d_Model_failing_62 : decode prog_9_method_8_code 62 = .ok (.putfield 85, 3) := by decide +kernel
theorem d_Model_failing_65 : decode prog_9_method_8_code 65 = .ok (.aload_n 0, 1) := by decide +kernel
theorem d_Model_failing_66 : decode prog_9_method_8_code 66 = .ok (.getfield 85, 3) := by decide +kernel
theorem d_Model_failing_69 : decode prog_9_method_8_code 69 = .ok (.ifCond .le 5, 3) := by decide +kernel
theorem d_Model_failing_72 : decode prog_9_method_8_code 72 = .ok (.iconst 0, 1) := by decide +kernel
theorem d_Model_failing_73 : decode prog_9_method_8_code 73 = .ok (.ireturn, 1) := by decide +kernel
theorem d_Model_failing_74 : decode prog_9_method_8_code 74 = .ok (.aload_n 0, 1) := by decide +kernel
theorem d_Model_failing_75 : decode prog_9_method_8_code 75 = .ok (.getfield 32, 3) := by decide +kernel
theorem d_Model_failing_78 : decode prog_9_method_8_code 78 = .ok (.aload_n 0, 1) := by decide +kernel
theorem d_Model_failing_79 : decode prog_9_method_8_code 79 = .ok (.getfield 96, 3) := by decide +kernel
theorem d_Model_failing_82 : decode prog_9_method_8_code 82 = .ok (.iload_n 1, 1) := by decide +kernel
theorem d_Model_failing_83 : decode prog_9_method_8_code 83 = .ok (.iastore, 1) := by decide +kernel
theorem d_Model_failing_84 : decode prog_9_method_8_code 84 = .ok (.aload_n 0, 1) := by decide +kernel
theorem d_Model_failing_85 : decode prog_9_method_8_code 85 = .ok (.getfield 35, 3) := by decide +kernel
theorem d_Model_failing_88 : decode prog_9_method_8_code 88 = .ok (.aload_n 0, 1) := by decide +kernel
theorem d_Model_failing_89 : decode prog_9_method_8_code 89 = .ok (.getfield 96, 3) := by decide +kernel
theorem d_Model_failing_92 : decode prog_9_method_8_code 92 = .ok (.iload_n 2, 1) := by decide +kernel
theorem d_Model_failing_93 : decode prog_9_method_8_code 93 = .ok (.iastore, 1) := by decide +kernel
theorem d_Model_failing_94 : decode prog_9_method_8_code 94 = .ok (.aload_n 0, 1) := by decide +kernel
theorem d_Model_failing_95 : decode prog_9_method_8_code 95 = .ok (.getfield 38, 3) := by decide +kernel
theorem d_Model_failing_98 : decode prog_9_method_8_code 98 = .ok (.aload_n 0, 1) := by decide +kernel
theorem d_Model_failing_99 : decode prog_9_method_8_code 99 = .ok (.getfield 96, 3) := by decide +kernel
theorem d_Model_failing_102 : decode prog_9_method_8_code 102 = .ok (.iload_n 3, 1) := by decide +kernel
theorem d_Model_failing_103 : decode prog_9_method_8_code 103 = .ok (.iastore, 1) := by decide +kernel
theorem d_Model_failing_104 : decode prog_9_method_8_code 104 = .ok (.aload_n 0, 1) := by decide +kernel
theorem d_Model_failing_105 : decode prog_9_method_8_code 105 = .ok (.getfield 41, 3) := by decide +kernel
theorem d_Model_failing_108 : decode prog_9_method_8_code 108 = .ok (.aload_n 0, 1) := by decide +kernel
theorem d_Model_failing_109 : decode prog_9_method_8_code 109 = .ok (.getfield 96, 3) := by decide +kernel
theorem d_Model_failing_112 : decode prog_9_method_8_code 112 = .ok (.iload 4, 2) := by decide +kernel
theorem d_Model_failing_114 : decode prog_9_method_8_code 114 = .ok (.iastore, 1) := by decide +kernel
theorem d_Model_failing_115 : decode prog_9_method_8_code 115 = .ok (.aload_n 0, 1) := by decide +kernel
theorem d_Model_failing_116 : decode prog_9_method_8_code 116 = .ok (.dup, 1) := by decide +kernel
theorem d_Model_failing_117 : decode prog_9_method_8_code 117 = .ok (.getfield 96, 3) := by decide +kernel
theorem d_Model_failing_120 : decode prog_9_method_8_code 120 = .ok (.iconst 1, 1) := by decide +kernel
theorem d_Model_failing_121 : decode prog_9_method_8_code 121 = .ok (.iadd, 1) := by decide +kernel
theorem d_Model_failing_122 : decode prog_9_method_8_code 122 = .ok (.putfield 96, 3) := by decide +kernel
theorem d_Model_failing_125 : decode prog_9_method_8_code 125 = .ok (.aload_n 0, 1) := by decide +kernel
theorem d_Model_failing_126 : decode prog_9_method_8_code 126 = .ok (.getfield 96, 3) := by decide +kernel
theorem d_Model_failing_129 : decode prog_9_method_8_code 129 = .ok (.ireturn, 1) := by decide +kernel
theorem d_Model_stop_0 : decode prog_9_method_9_code 0 = .ok (.aload_n 0, 1) := by decide +kernel
theorem d_Model_stop_1 : decode prog_9_method_9_code 1 = .ok (.iload_n 1, 1) := by decide +kernel
theorem d_Model_stop_2 : decode prog_9_method_9_code 2 = .ok (.iconst (-1), 1) := by decide +kernel
theorem d_Model_stop_3 : decode prog_9_method_9_code 3 = .ok (.if_icmp .eq 11, 3) := by decide +kernel
theorem d_Model_stop_6 : decode prog_9_method_9_code 6 = .ok (.aload_n 0, 1) := by decide +kernel
theorem d_Model_stop_7 : decode prog_9_method_9_code 7 = .ok (.iload_n 1, 1) := by decide +kernel
theorem d_Model_stop_8 : decode prog_9_method_9_code 8 = .ok (.invokevirtual 88, 3) := by decide +kernel
theorem d_Model_stop_11 : decode prog_9_method_9_code 11 = .ok (.ifCond .eq 7, 3) := by decide +kernel
theorem d_Model_stop_14 : decode prog_9_method_9_code 14 = .ok (.iconst 0, 1) := by decide +kernel
theorem d_Model_stop_15 : decode prog_9_method_9_code 15 = .ok (.goto 4, 3) := by decide +kernel
theorem d_Model_stop_18 : decode prog_9_method_9_code 18 = .ok (.iconst 1, 1) := by decide +kernel
theorem d_Model_stop_19 : decode prog_9_method_9_code 19 = .ok (.putfield 85, 3) := by decide +kernel
theorem d_Model_stop_22 : decode prog_9_method_9_code 22 = .ok (.aload_n 0, 1) := by decide +kernel
theorem d_Model_stop_23 : decode prog_9_method_9_code 23 = .ok (.getfield 85, 3) := by decide +kernel
theorem d_Model_stop_26 : decode prog_9_method_9_code 26 = .ok (.ifCond .le 5, 3) := by decide +kernel
theorem d_Model_stop_29 : decode prog_9_method_9_code 29 = .ok (.iconst 0, 1) := by decide +kernel
theorem d_Model_stop_30 : decode prog_9_method_9_code 30 = .ok (.ireturn, 1) := by decide +kernel
theorem d_Model_stop_31 : decode prog_9_method_9_code 31 = .ok (.aload_n 0, 1) := by decide +kernel
theorem d_Model_stop_32 : decode prog_9_method_9_code 32 = .ok (.getfield 99, 3) := by decide +kernel
theorem d_Model_stop_35 : decode prog_9_method_9_code 35 = .ok (.istore_n 2, 1) := by decide +kernel
theorem d_Model_stop_36 : decode prog_9_method_9_code 36 = .ok (.aload_n 0, 1) := by decide +kernel
theorem d_Model_stop_37 : decode prog_9_method_9_code 37 = .ok (.iload_n 1, 1) := by decide +kernel
theorem d_Model_stop_38 : decode prog_9_method_9_code 38 = .ok (.putfield 99, 3) := by decide +kernel
theorem d_Model_stop_41 : decode prog_9_method_9_code 41 = .ok (.iload_n 2, 1) := by decide +kernel
theorem d_Model_stop_42 : decode prog_9_method_9_code 42 = .ok (.ireturn, 1) := by decide +kernel
theorem d_Model_waitsFor_0 : decode prog_9_method_10_code 0 = .ok (.iconst 0, 1) := by decide +kernel
theorem d_Model_waitsFor_1 : decode prog_9_method_10_code 1 = .ok (.istore_n 2, 1) := by decide +kernel
theorem d_Model_waitsFor_2 : decode prog_9_method_10_code 2 = .ok (.iload_n 2, 1) := by decide +kernel
theorem d_Model_waitsFor_3 : decode prog_9_method_10_code 3 = .ok (.aload_n 0, 1) := by decide +kernel
theorem d_Model_waitsFor_4 : decode prog_9_method_10_code 4 = .ok (.getfield 20, 3) := by decide +kernel
theorem d_Model_waitsFor_7 : decode prog_9_method_10_code 7 = .ok (.iload_n 1, 1) := by decide +kernel
theorem d_Model_waitsFor_8 : decode prog_9_method_10_code 8 = .ok (.iaload, 1) := by decide +kernel
theorem d_Model_waitsFor_9 : decode prog_9_method_10_code 9 = .ok (.if_icmp .ge 53, 3) := by decide +kernel
theorem d_Model_waitsFor_12 : decode prog_9_method_10_code 12 = .ok (.bipush 6, 2) := by decide +kernel
theorem d_Model_waitsFor_14 : decode prog_9_method_10_code 14 = .ok (.iload_n 1, 1) := by decide +kernel
theorem d_Model_waitsFor_15 : decode prog_9_method_10_code 15 = .ok (.imul, 1) := by decide +kernel
theorem d_Model_waitsFor_16 : decode prog_9_method_10_code 16 = .ok (.iload_n 2, 1) := by decide +kernel
theorem d_Model_waitsFor_17 : decode prog_9_method_10_code 17 = .ok (.iadd, 1) := by decide +kernel
theorem d_Model_waitsFor_18 : decode prog_9_method_10_code 18 = .ok (.istore_n 3, 1) := by decide +kernel
theorem d_Model_waitsFor_19 : decode prog_9_method_10_code 19 = .ok (.aload_n 0, 1) := by decide +kernel
theorem d_Model_waitsFor_20 : decode prog_9_method_10_code 20 = .ok (.getfield 23, 3) := by decide +kernel
theorem d_Model_waitsFor_23 : decode prog_9_method_10_code 23 = .ok (.iload_n 3, 1) := by decide +kernel
theorem d_Model_waitsFor_24 : decode prog_9_method_10_code 24 = .ok (.iaload, 1) := by decide +kernel
theorem d_Model_waitsFor_25 : decode prog_9_method_10_code 25 = .ok (.aload_n 0, 1) := by decide +kernel
theorem d_Model_waitsFor_26 : decode prog_9_method_10_code 26 = .ok (.getfield 57, 3) := by decide +kernel
theorem d_Model_waitsFor_29 : decode prog_9_method_10_code 29 = .ok (.iload_n 1, 1) := by decide +kernel
theorem d_Model_waitsFor_30 : decode prog_9_method_10_code 30 = .ok (.iaload, 1) := by decide +kernel
theorem d_Model_waitsFor_31 : decode prog_9_method_10_code 31 = .ok (.if_icmp .ne 25, 3) := by decide +kernel
theorem d_Model_waitsFor_34 : decode prog_9_method_10_code 34 = .ok (.aload_n 0, 1) := by decide +kernel
theorem d_Model_waitsFor_35 : decode prog_9_method_10_code 35 = .ok (.getfield 57, 3) := by decide +kernel
theorem d_Model_waitsFor_38 : decode prog_9_method_10_code 38 = .ok (.aload_n 0, 1) := by decide +kernel
theorem d_Model_waitsFor_39 : decode prog_9_method_10_code 39 = .ok (.getfield 26, 3) := by decide +kernel
theorem d_Model_waitsFor_42 : decode prog_9_method_10_code 42 = .ok (.iload_n 3, 1) := by decide +kernel
theorem d_Model_waitsFor_43 : decode prog_9_method_10_code 43 = .ok (.iaload, 1) := by decide +kernel
theorem d_Model_waitsFor_44 : decode prog_9_method_10_code 44 = .ok (.iaload, 1) := by decide +kernel
theorem d_Model_waitsFor_45 : decode prog_9_method_10_code 45 = .ok (.aload_n 0, 1) := by decide +kernel
theorem d_Model_waitsFor_46 : decode prog_9_method_10_code 46 = .ok (.getfield 29, 3) := by decide +kernel
theorem d_Model_waitsFor_49 : decode prog_9_method_10_code 49 = .ok (.iload_n 3, 1) := by decide +kernel
theorem d_Model_waitsFor_50 : decode prog_9_method_10_code 50 = .ok (.iaload, 1) := by decide +kernel
theorem d_Model_waitsFor_51 : decode prog_9_method_10_code 51 = .ok (.if_icmp .ge 5, 3) := by decide +kernel
theorem d_Model_waitsFor_54 : decode prog_9_method_10_code 54 = .ok (.iload_n 3, 1) := by decide +kernel
theorem d_Model_waitsFor_55 : decode prog_9_method_10_code 55 = .ok (.ireturn, 1) := by decide +kernel
theorem d_Model_waitsFor_56 : decode prog_9_method_10_code 56 = .ok (.iinc 2 1, 3) := by decide +kernel
theorem d_Model_waitsFor_59 : decode prog_9_method_10_code 59 = .ok (.goto (-57), 3) := by decide +kernel
theorem d_Model_waitsFor_62 : decode prog_9_method_10_code 62 = .ok (.iconst (-1), 1) := by decide +kernel
theorem d_Model_waitsFor_63 : decode prog_9_method_10_code 63 = .ok (.ireturn, 1) := by decide +kernel
theorem d_Model_canTake_0 : decode prog_9_method_11_code 0 = .ok (.aload_n 0, 1) := by decide +kernel
theorem d_Model_canTake_1 : decode prog_9_method_11_code 1 = .ok (.getfield 102, 3) := by decide +kernel
theorem d_Model_canTake_4 : decode prog_9_method_11_code 4 = .ok (.ifCond .le 30, 3) := by decide +kernel
theorem d_Model_canTake_7 : decode prog_9_method_11_code 7 = .ok (.aload_n 0, 1) := by decide +kernel
theorem d_Model_canTake_8 : decode prog_9_method_11_code 8 = .ok (.getfield 105, 3) := by decide +kernel
theorem d_Model_canTake_11 : decode prog_9_method_11_code 11 = .ok (.aload_n 0, 1) := by decide +kernel
theorem d_Model_canTake_12 : decode prog_9_method_11_code 12 = .ok (.getfield 13, 3) := by decide +kernel
theorem d_Model_canTake_15 : decode prog_9_method_11_code 15 = .ok (.aload_n 0, 1) := by decide +kernel
theorem d_Model_canTake_16 : decode prog_9_method_11_code 16 = .ok (.getfield 63, 3) := by decide +kernel
theorem d_Model_canTake_19 : decode prog_9_method_11_code 19 = .ok (.iconst 0, 1) := by decide +kernel
theorem d_Model_canTake_20 : decode prog_9_method_11_code 20 = .ok (.iaload, 1) := by decide +kernel
theorem d_Model_canTake_21 : decode prog_9_method_11_code 21 = .ok (.iaload, 1) := by decide +kernel
theorem d_Model_canTake_22 : decode prog_9_method_11_code 22 = .ok (.iadd, 1) := by decide +kernel
theorem d_Model_canTake_23 : decode prog_9_method_11_code 23 = .ok (.aload_n 0, 1) := by decide +kernel
theorem d_Model_canTake_24 : decode prog_9_method_11_code 24 = .ok (.getfield 79, 3) := by decide +kernel
theorem d_Model_canTake_27 : decode prog_9_method_11_code 27 = .ok (.if_icmp .gt 7, 3) := by decide +kernel
theorem d_Model_canTake_30 : decode prog_9_method_11_code 30 = .ok (.iconst 1, 1) := by decide +kernel
theorem d_Model_canTake_31 : decode prog_9_method_11_code 31 = .ok (.goto 4, 3) := by decide +kernel
theorem d_Model_canTake_34 : decode prog_9_method_11_code 34 = .ok (.iconst 0, 1) := by decide +kernel
theorem d_Model_canTake_35 : decode prog_9_method_11_code 35 = .ok (.ireturn, 1) := by decide +kernel
theorem d_Model_take_0 : decode prog_9_method_12_code 0 = .ok (.aload_n 0, 1) := by decide +kernel
theorem d_Model_take_1 : decode prog_9_method_12_code 1 = .ok (.getfield 63, 3) := by decide +kernel
theorem d_Model_take_4 : decode prog_9_method_12_code 4 = .ok (.iconst 0, 1) := by decide +kernel
theorem d_Model_take_5 : decode prog_9_method_12_code 5 = .ok (.iaload, 1) := by decide +kernel
theorem d_Model_take_6 : decode prog_9_method_12_code 6 = .ok (.istore_n 2, 1) := by decide +kernel
theorem d_Model_take_7 : decode prog_9_method_12_code 7 = .ok (.aload_n 0, 1) := by decide +kernel
theorem d_Model_take_8 : decode prog_9_method_12_code 8 = .ok (.dup, 1) := by decide +kernel
theorem d_Model_take_9 : decode prog_9_method_12_code 9 = .ok (.getfield 102, 3) := by decide +kernel
theorem d_Model_take_12 : decode prog_9_method_12_code 12 = .ok (.iconst 1, 1) := by decide +kernel
theorem d_Model_take_13 : decode prog_9_method_12_code 13 = .ok (.isub, 1) := by decide +kernel
theorem d_Model_take_14 : decode prog_9_method_12_code 14 = .ok (.putfield 102, 3) := by decide +kernel
theorem d_Model_take_17 : decode prog_9_method_12_code 17 = .ok (.iconst 0, 1) := by decide +kernel
theorem d_Model_take_18 : decode prog_9_method_12_code 18 = .ok (.istore_n 3, 1) := by decide +kernel
theorem d_Model_take_19 : decode prog_9_method_12_code 19 = .ok (.iload_n 3, 1) := by decide +kernel
theorem d_Model_take_20 : decode prog_9_method_12_code 20 = .ok (.aload_n 0, 1) := by decide +kernel
theorem d_Model_take_21 : decode prog_9_method_12_code 21 = .ok (.getfield 102, 3) := by decide +kernel
theorem d_Model_take_24 : decode prog_9_method_12_code 24 = .ok (.if_icmp .ge 23, 3) := by decide +kernel
theorem d_Model_take_27 : decode prog_9_method_12_code 27 = .ok (.aload_n 0, 1) := by decide +kernel
theorem d_Model_take_28 : decode prog_9_method_12_code 28 = .ok (.getfield 63, 3) := by decide +kernel
theorem d_Model_take_31 : decode prog_9_method_12_code 31 = .ok (.iload_n 3, 1) := by decide +kernel
theorem d_Model_take_32 : decode prog_9_method_12_code 32 = .ok (.aload_n 0, 1) := by decide +kernel
theorem d_Model_take_33 : decode prog_9_method_12_code 33 = .ok (.getfield 63, 3) := by decide +kernel
theorem d_Model_take_36 : decode prog_9_method_12_code 36 = .ok (.iload_n 3, 1) := by decide +kernel
theorem d_Model_take_37 : decode prog_9_method_12_code 37 = .ok (.iconst 1, 1) := by decide +kernel
theorem d_Model_take_38 : decode prog_9_method_12_code 38 = .ok (.iadd, 1) := by decide +kernel
theorem d_Model_take_39 : decode prog_9_method_12_code 39 = .ok (.iaload, 1) := by decide +kernel
theorem d_Model_take_40 : decode prog_9_method_12_code 40 = .ok (.iastore, 1) := by decide +kernel
theorem d_Model_take_41 : decode prog_9_method_12_code 41 = .ok (.iinc 3 1, 3) := by decide +kernel
theorem d_Model_take_44 : decode prog_9_method_12_code 44 = .ok (.goto (-25), 3) := by decide +kernel
theorem d_Model_take_47 : decode prog_9_method_12_code 47 = .ok (.aload_n 0, 1) := by decide +kernel
theorem d_Model_take_48 : decode prog_9_method_12_code 48 = .ok (.getfield 60, 3) := by decide +kernel
theorem d_Model_take_51 : decode prog_9_method_12_code 51 = .ok (.iload_n 1, 1) := by decide +kernel
theorem d_Model_take_52 : decode prog_9_method_12_code 52 = .ok (.iload_n 2, 1) := by decide +kernel
theorem d_Model_take_53 : decode prog_9_method_12_code 53 = .ok (.iastore, 1) := by decide +kernel
theorem d_Model_take_54 : decode prog_9_method_12_code 54 = .ok (.aload_n 0, 1) := by decide +kernel
theorem d_Model_take_55 : decode prog_9_method_12_code 55 = .ok (.getfield 69, 3) := by decide +kernel
theorem d_Model_take_58 : decode prog_9_method_12_code 58 = .ok (.iload_n 2, 1) := by decide +kernel
theorem d_Model_take_59 : decode prog_9_method_12_code 59 = .ok (.dup2, 1) := by decide +kernel
theorem d_Model_take_60 : decode prog_9_method_12_code 60 = .ok (.iaload, 1) := by decide +kernel
theorem d_Model_take_61 : decode prog_9_method_12_code 61 = .ok (.iconst 1, 1) := by decide +kernel
theorem d_Model_take_62 : decode prog_9_method_12_code 62 = .ok (.iadd, 1) := by decide +kernel
theorem d_Model_take_63 : decode prog_9_method_12_code 63 = .ok (.iastore, 1) := by decide +kernel
theorem d_Model_take_64 : decode prog_9_method_12_code 64 = .ok (.aload_n 0, 1) := by decide +kernel
theorem d_Model_take_65 : decode prog_9_method_12_code 65 = .ok (.dup, 1) := by decide +kernel
theorem d_Model_take_66 : decode prog_9_method_12_code 66 = .ok (.getfield 105, 3) := by decide +kernel
theorem d_Model_take_69 : decode prog_9_method_12_code 69 = .ok (.aload_n 0, 1) := by decide +kernel
theorem d_Model_take_70 : decode prog_9_method_12_code 70 = .ok (.getfield 13, 3) := by decide +kernel
theorem d_Model_take_73 : decode prog_9_method_12_code 73 = .ok (.iload_n 2, 1) := by decide +kernel
theorem d_Model_take_74 : decode prog_9_method_12_code 74 = .ok (.iaload, 1) := by decide +kernel
theorem d_Model_take_75 : decode prog_9_method_12_code 75 = .ok (.iadd, 1) := by decide +kernel
theorem d_Model_take_76 : decode prog_9_method_12_code 76 = .ok (.putfield 105, 3) := by decide +kernel
theorem d_Model_take_79 : decode prog_9_method_12_code 79 = .ok (.aload_n 0, 1) := by decide +kernel
theorem d_Model_take_80 : decode prog_9_method_12_code 80 = .ok (.aload_n 0, 1) := by decide +kernel
theorem d_Model_take_81 : decode prog_9_method_12_code 81 = .ok (.getfield 105, 3) := by decide +kernel
theorem d_Model_take_84 : decode prog_9_method_12_code 84 = .ok (.aload_n 0, 1) := by decide +kernel
theorem d_Model_take_85 : decode prog_9_method_12_code 85 = .ok (.getfield 108, 3) := by decide +kernel
theorem d_Model_take_88 : decode prog_9_method_12_code 88 = .ok (.if_icmp .le 10, 3) := by decide +kernel
theorem d_Model_take_91 : decode prog_9_method_12_code 91 = .ok (.aload_n 0, 1) := by decide +kernel
theorem d_Model_take_92 : decode prog_9_method_12_code 92 = .ok (.getfield 105, 3) := by decide +kernel
theorem d_Model_take_95 : decode prog_9_method_12_code 95 = .ok (.goto 7, 3) := by decide +kernel
theorem d_Model_take_98 : decode prog_9_method_12_code 98 = .ok (.aload_n 0, 1) := by decide +kernel
theorem d_Model_take_99 : decode prog_9_method_12_code 99 = .ok (.getfield 108, 3) := by decide +kernel
theorem d_Model_take_102 : decode prog_9_method_12_code 102 = .ok (.putfield 108, 3) := by decide +kernel
theorem d_Model_take_105 : decode prog_9_method_12_code 105 = .ok (.return_, 1) := by decide +kernel
theorem d_Model_fails_0 : decode prog_9_method_13_code 0 = .ok (.iconst 0, 1) := by decide +kernel
theorem d_Model_fails_1 : decode prog_9_method_13_code 1 = .ok (.istore_n 3, 1) := by decide +kernel
theorem d_Model_fails_2 : decode prog_9_method_13_code 2 = .ok (.iload_n 3, 1) := by decide +kernel
theorem d_Model_fails_3 : decode prog_9_method_13_code 3 = .ok (.aload_n 0, 1) := by decide +kernel
theorem d_Model_fails_4 : decode prog_9_method_13_code 4 = .ok (.getfield 96, 3) := by decide +kernel
theorem d_Model_fails_7 : decode prog_9_method_13_code 7 = .ok (.if_icmp .ge 65, 3) := by decide +kernel
theorem d_Model_fails_10 : decode prog_9_method_13_code 10 = .ok (.aload_n 0, 1) := by decide +kernel
theorem d_Model_fails_11 : decode prog_9_method_13_code 11 = .ok (.getfield 44, 3) := by decide +kernel
theorem d_Model_fails_14 : decode prog_9_method_13_code 14 = .ok (.iload_n 3, 1) := by decide +kernel
theorem d_Model_fails_15 : decode prog_9_method_13_code 15 = .ok (.iaload, 1) := by decide +kernel
theorem d_Model_fails_16 : decode prog_9_method_13_code 16 = .ok (.ifCond .le 50, 3) := by decide +kernel
theorem d_Model_fails_19 : decode prog_9_method_13_code 19 = .ok (.aload_n 0, 1) := by decide +kernel
theorem d_Model_fails_20 : decode prog_9_method_13_code 20 = .ok (.getfield 32, 3) := by decide +kernel
theorem d_Model_fails_23 : decode prog_9_method_13_code 23 = .ok (.iload_n 3, 1) := by decide +kernel
theorem d_Model_fails_24 : decode prog_9_method_13_code 24 = .ok (.iaload, 1) := by decide +kernel
theorem d_Model_fails_25 : decode prog_9_method_13_code 25 = .ok (.iload_n 1, 1) := by decide +kernel
theorem d_Model_fails_26 : decode prog_9_method_13_code 26 = .ok (.if_icmp .ne 40, 3) := by decide +kernel
theorem d_Model_fails_29 : decode prog_9_method_13_code 29 = .ok (.aload_n 0, 1) := by decide +kernel
theorem d_Model_fails_30 : decode prog_9_method_13_code 30 = .ok (.getfield 35, 3) := by decide +kernel
theorem d_Model_fails_33 : decode prog_9_method_13_code 33 = .ok (.iload_n 3, 1) := by decide +kernel
theorem d_Model_fails_34 : decode prog_9_method_13_code 34 = .ok (.iaload, 1) := by decide +kernel
theorem d_Model_fails_35 : decode prog_9_method_13_code 35 = .ok (.iload_n 2, 1) := by decide +kernel
theorem d_Model_fails_36 : decode prog_9_method_13_code 36 = .ok (.if_icmp .ne 30, 3) := by decide +kernel
theorem d_Model_fails_39 : decode prog_9_method_13_code 39 = .ok (.aload_n 0, 1) := by decide +kernel
theorem d_Model_fails_40 : decode prog_9_method_13_code 40 = .ok (.getfield 38, 3) := by decide +kernel
theorem d_Model_fails_43 : decode prog_9_method_13_code 43 = .ok (.iload_n 3, 1) := by decide +kernel
theorem d_Model_fails_44 : decode prog_9_method_13_code 44 = .ok (.iaload, 1) := by decide +kernel
theorem d_Model_fails_45 : decode prog_9_method_13_code 45 = .ok (.aload_n 0, 1) := by decide +kernel
theorem d_Model_fails_46 : decode prog_9_method_13_code 46 = .ok (.getfield 57, 3) := by decide +kernel
theorem d_Model_fails_49 : decode prog_9_method_13_code 49 = .ok (.iload_n 2, 1) := by decide +kernel
theorem d_Model_fails_50 : decode prog_9_method_13_code 50 = .ok (.iaload, 1) := by decide +kernel
theorem d_Model_fails_51 : decode prog_9_method_13_code 51 = .ok (.if_icmp .ne 15, 3) := by decide +kernel
theorem d_Model_fails_54 : decode prog_9_method_13_code 54 = .ok (.aload_n 0, 1) := by decide +kernel
theorem d_Model_fails_55 : decode prog_9_method_13_code 55 = .ok (.getfield 44, 3) := by decide +kernel
theorem d_Model_fails_58 : decode prog_9_method_13_code 58 = .ok (.iload_n 3, 1) := by decide +kernel
theorem d_Model_fails_59 : decode prog_9_method_13_code 59 = .ok (.dup2, 1) := by decide +kernel
theorem d_Model_fails_60 : decode prog_9_method_13_code 60 = .ok (.iaload, 1) := by decide +kernel
theorem d_Model_fails_61 : decode prog_9_method_13_code 61 = .ok (.iconst 1, 1) := by decide +kernel
theorem d_Model_fails_62 : decode prog_9_method_13_code 62 = .ok (.isub, 1) := by decide +kernel
theorem d_Model_fails_63 : decode prog_9_method_13_code 63 = .ok (.iastore, 1) := by decide +kernel
theorem d_Model_fails_64 : decode prog_9_method_13_code 64 = .ok (.iconst 1, 1) := by decide +kernel
theorem d_Model_fails_65 : decode prog_9_method_13_code 65 = .ok (.ireturn, 1) := by decide +kernel
theorem d_Model_fails_66 : decode prog_9_method_13_code 66 = .ok (.iinc 3 1, 3) := by decide +kernel
theorem d_Model_fails_69 : decode prog_9_method_13_code 69 = .ok (.goto (-67), 3) := by decide +kernel
theorem d_Model_fails_72 : decode prog_9_method_13_code 72 = .ok (.iconst 0, 1) := by decide +kernel
theorem d_Model_fails_73 : decode prog_9_method_13_code 73 = .ok (.ireturn, 1) := by decide +kernel
theorem d_Model_isFinished_0 : decode prog_9_method_16_code 0 = .ok (.aload_n 0, 1) := by decide +kernel
theorem d_Model_isFinished_1 : decode prog_9_method_16_code 1 = .ok (.getfield 57, 3) := by decide +kernel
theorem d_Model_isFinished_4 : decode prog_9_method_16_code 4 = .ok (.iload_n 1, 1) := by decide +kernel
theorem d_Model_isFinished_5 : decode prog_9_method_16_code 5 = .ok (.iaload, 1) := by decide +kernel
theorem d_Model_isFinished_6 : decode prog_9_method_16_code 6 = .ok (.aload_n 0, 1) := by decide +kernel
theorem d_Model_isFinished_7 : decode prog_9_method_16_code 7 = .ok (.getfield 7, 3) := by decide +kernel
theorem d_Model_isFinished_10 : decode prog_9_method_16_code 10 = .ok (.iload_n 1, 1) := by decide +kernel
theorem d_Model_isFinished_11 : decode prog_9_method_16_code 11 = .ok (.iaload, 1) := by decide +kernel
theorem d_Model_isFinished_12 : decode prog_9_method_16_code 12 = .ok (.if_icmp .ne 7, 3) := by decide +kernel
theorem d_Model_isFinished_15 : decode prog_9_method_16_code 15 = .ok (.iconst 1, 1) := by decide +kernel
theorem d_Model_isFinished_16 : decode prog_9_method_16_code 16 = .ok (.goto 4, 3) := by decide +kernel
theorem d_Model_isFinished_19 : decode prog_9_method_16_code 19 = .ok (.iconst 0, 1) := by decide +kernel
theorem d_Model_isFinished_20 : decode prog_9_method_16_code 20 = .ok (.ireturn, 1) := by decide +kernel
theorem fl_Model_7 : zw_FL R_Model 7 7 3 := ⟨R_Model, T_Model, 36, rfl, by decide, ly_Model, Or.inl (zw_in (List.mem_of_getElem? (i := 621) (by decide +kernel)) (by decide +kernel))⟩
theorem fl_Model_13 : zw_FL R_Model 13 7 4 := ⟨R_Model, T_Model, 36, rfl, by decide, ly_Model, Or.inl (zw_in (List.mem_of_getElem? (i := 622) (by decide +kernel)) (by decide +kernel))⟩
theorem fl_Model_16 : zw_FL R_Model 16 7 5 := ⟨R_Model, T_Model, 36, rfl, by decide, ly_Model, Or.inl (zw_in (List.mem_of_getElem? (i := 623) (by decide +kernel)) (by decide +kernel))⟩
theorem fl_Model_20 : zw_FL R_Model 20 7 6 := ⟨R_Model, T_Model, 36, rfl, by decide, ly_Model, Or.inl (zw_in (List.mem_of_getElem? (i := 624) (by decide +kernel)) (by decide +kernel))⟩
theorem fl_Model_23 : zw_FL R_Model 23 7 7 := ⟨R_Model, T_Model, 36, rfl, by decide, ly_Model, Or.inl (zw_in (List.mem_of_getElem? (i := 625) (by decide +kernel)) (by decide +kernel))⟩
theorem fl_Model_26 : zw_FL R_Model 26 7 8 := ⟨R_Model, T_Model, 36, rfl, by decide, ly_Model, Or.inl (zw_in (List.mem_of_getElem? (i := 626) (by decide +kernel)) (by decide +kernel))⟩
theorem fl_Model_29 : zw_FL R_Model 29 7 9 := ⟨R_Model, T_Model, 36, rfl, by decide, ly_Model, Or.inl (zw_in (List.mem_of_getElem? (i := 627) (by decide +kernel)) (by decide +kernel))⟩
theorem fl_Model_32 : zw_FL R_Model 32 7 10 := ⟨R_Model, T_Model, 36, rfl, by decide, ly_Model, Or.inl (zw_in (List.mem_of_getElem? (i := 628) (by decide +kernel)) (by decide +kernel))⟩
theorem fl_Model_35 : zw_FL R_Model 35 7 11 := ⟨R_Model, T_Model, 36, rfl, by decide, ly_Model, Or.inl (zw_in (List.mem_of_getElem? (i := 629) (by decide +kernel)) (by decide +kernel))⟩
theorem fl_Model_38 : zw_FL R_Model 38 7 12 := ⟨R_Model, T_Model, 36, rfl, by decide, ly_Model, Or.inl (zw_in (List.mem_of_getElem? (i := 630) (by decide +kernel)) (by decide +kernel))⟩
theorem fl_Model_41 : zw_FL R_Model 41 7 13 := ⟨R_Model, T_Model, 36, rfl, by decide, ly_Model, Or.inl (zw_in (List.mem_of_getElem? (i := 631) (by decide +kernel)) (by decide +kernel))⟩
theorem fl_Model_44 : zw_FL R_Model 44 7 14 := ⟨R_Model, T_Model, 36, rfl, by decide, ly_Model, Or.inl (zw_in (List.mem_of_getElem? (i := 632) (by decide +kernel)) (by decide +kernel))⟩
theorem fl_Model_57 : zw_FL R_Model 57 7 20 := ⟨R_Model, T_Model, 36, rfl, by decide, ly_Model, Or.inl (zw_in (List.mem_of_getElem? (i := 638) (by decide +kernel)) (by decide +kernel))⟩
theorem fl_Model_60 : zw_FL R_Model 60 7 21 := ⟨R_Model, T_Model, 36, rfl, by decide, ly_Model, Or.inl (zw_in (List.mem_of_getElem? (i := 639) (by decide +kernel)) (by decide +kernel))⟩
theorem fl_Model_63 : zw_FL R_Model 63 7 22 := ⟨R_Model, T_Model, 36, rfl, by decide, ly_Model, Or.inl (zw_in (List.mem_of_getElem? (i := 640) (by decide +kernel)) (by decide +kernel))⟩
theorem fl_Model_69 : zw_FL R_Model 69 7 27 := ⟨R_Model, T_Model, 36, rfl, by decide, ly_Model, Or.inl (zw_in (List.mem_of_getElem? (i := 645) (by decide +kernel)) (by decide +kernel))⟩
theorem fl_Model_75 : zw_FL R_Model 75 7 1 := ⟨R_Model, T_Model, 36, rfl, by decide, ly_Model, Or.inl (zw_in (List.mem_of_getElem? (i := 619) (by decide +kernel)) (by decide +kernel))⟩
theorem fl_Model_79 : zw_FL R_Model 79 7 2 := ⟨R_Model, T_Model, 36, rfl, by decide, ly_Model, Or.inl (zw_in (List.mem_of_getElem? (i := 620) (by decide +kernel)) (by decide +kernel))⟩
theorem fl_Model_85 : zw_FL R_Model 85 7 0 := ⟨R_Model, T_Model, 36, rfl, by decide, ly_Model, Or.inl (zw_in (List.mem_of_getElem? (i := 618) (by decide +kernel)) (by decide +kernel))⟩
theorem fl_Model_96 : zw_FL R_Model 96 7 15 := ⟨R_Model, T_Model, 36, rfl, by decide, ly_Model, Or.inl (zw_in (List.mem_of_getElem? (i := 633) (by decide +kernel)) (by decide +kernel))⟩
theorem fl_Model_99 : zw_FL R_Model 99 7 16 := ⟨R_Model, T_Model, 36, rfl, by decide, ly_Model, Or.inl (zw_in (List.mem_of_getElem? (i := 634) (by decide +kernel)) (by decide +kernel))⟩
theorem fl_Model_102 : zw_FL R_Model 102 7 23 := ⟨R_Model, T_Model, 36, rfl, by decide, ly_Model, Or.inl (zw_in (List.mem_of_getElem? (i := 641) (by decide +kernel)) (by decide +kernel))⟩
theorem fl_Model_105 : zw_FL R_Model 105 7 24 := ⟨R_Model, T_Model, 36, rfl, by decide, ly_Model, Or.inl (zw_in (List.mem_of_getElem? (i := 642) (by decide +kernel)) (by decide +kernel))⟩
theorem fl_Model_108 : zw_FL R_Model 108 7 34 := ⟨R_Model, T_Model, 36, rfl, by decide, ly_Model, Or.inl (zw_in (List.mem_of_getElem? (i := 652) (by decide +kernel)) (by decide +kernel))⟩
theorem fp_Model_85 : zw_FP R_Model 85 7 0 (.int) false := ⟨R_Model, T_Model, 36, ty_Model, rfl, by decide, ly_Model, ty_Model_ok, rfl, nm_Model, rfl, Or.inl ⟨(zw_in (List.mem_of_getElem? (i := 618) (by decide +kernel)) (by decide +kernel)), fun h => by cases h⟩⟩
theorem fp_Model_96 : zw_FP R_Model 96 7 15 (.int) false := ⟨R_Model, T_Model, 36, ty_Model, rfl, by decide, ly_Model, ty_Model_ok, rfl, nm_Model, rfl, Or.inl ⟨(zw_in (List.mem_of_getElem? (i := 633) (by decide +kernel)) (by decide +kernel)), fun h => by cases h⟩⟩
theorem fp_Model_99 : zw_FP R_Model 99 7 16 (.int) false := ⟨R_Model, T_Model, 36, ty_Model, rfl, by decide, ly_Model, ty_Model_ok, rfl, nm_Model, rfl, Or.inl ⟨(zw_in (List.mem_of_getElem? (i := 634) (by decide +kernel)) (by decide +kernel)), fun h => by cases h⟩⟩
theorem fp_Model_102 : zw_FP R_Model 102 7 23 (.int) false := ⟨R_Model, T_Model, 36, ty_Model, rfl, by decide, ly_Model, ty_Model_ok, rfl, nm_Model, rfl, Or.inl ⟨(zw_in (List.mem_of_getElem? (i := 641) (by decide +kernel)) (by decide +kernel)), fun h => by cases h⟩⟩
theorem fp_Model_105 : zw_FP R_Model 105 7 24 (.int) false := ⟨R_Model, T_Model, 36, ty_Model, rfl, by decide, ly_Model, ty_Model_ok, rfl, nm_Model, rfl, Or.inl ⟨(zw_in (List.mem_of_getElem? (i := 642) (by decide +kernel)) (by decide +kernel)), fun h => by cases h⟩⟩
theorem fp_Model_108 : zw_FP R_Model 108 7 34 (.int) false := ⟨R_Model, T_Model, 36, ty_Model, rfl, by decide, ly_Model, ty_Model_ok, rfl, nm_Model, rfl, Or.inl ⟨(zw_in (List.mem_of_getElem? (i := 652) (by decide +kernel)) (by decide +kernel)), fun h => by cases h⟩⟩
theorem mv_Model_88 : zw_MV R_Model 88 Y_Model_isShare R_Model 1 := ⟨Or.inl (zw_in (List.mem_of_getElem? (i := 735) (by decide +kernel)) (by decide +kernel)), (zw_in (List.mem_of_getElem? (i := 737) (by decide +kernel)) (by decide +kernel)), (zw_in (List.mem_of_getElem? (i := 13) (by decide +kernel)) (by decide +kernel)), (zw_in (List.mem_of_getElem? (i := 738) (by decide +kernel)) (by decide +kernel)), (zw_in (List.mem_of_getElem? (i := 33) (by decide +kernel)) (by decide +kernel)), by decide +kernel, by decide +kernel⟩
theorem mv_Model_92 : zw_MS R_Model 92 Y_Model_isIn 3 := ⟨Or.inl (zw_in (List.mem_of_getElem? (i := 739) (by decide +kernel)) (by decide +kernel)), (zw_in (List.mem_of_getElem? (i := 740) (by decide +kernel)) (by decide +kernel)), (zw_in (List.mem_of_getElem? (i := 741) (by decide +kernel)) (by decide +kernel)), (zw_in (List.mem_of_getElem? (i := 33) (by decide +kernel)) (by decide +kernel)), by decide +kernel, by decide +kernel⟩

set_option maxHeartbeats 4000000 in
set_option maxRecDepth 100000 in
theorem c_Model_thrown {l : Launch} {D : va_G} {cA : Nat → ClassId} {ad : Nat → Nat} {sh : zw_Sh} (hm : ∀ (k : Nat) (q : zw_Sp), shM k = some q → sh k = some q) (z : Nat) (mi : zw_I) (ml : zw_L) :
    zc_M l D cA Y_Model_thrown 0 0 0 ad sh sh z [.ref (ad 32)] mi ml (some (.int (mi 32 0))) mi ml z := by
  refine zc_enter (own := R_Model) (by decide) rfl (Nat.le_of_ble_eq_true rfl) ?_
  intro p e s m below meth c X hr hlocks hnm hB ls hl
  have X : zw_C D cA R_Model prog_9_method_2_code 1 p m c s := X
  have hr : meth.sig.returnType = (some FieldType.int) := hr
  have hx := X.1
  have hb := X.2.1
  have hl : lv_has ls 1 [(0, .ref (ad 32))] := hl
  refine lv_aload_n hx hb d_Model_thrown_0 rfl (lv_at hl 0 rfl) ?_
  refine zw_getI X hB fl_Model_85 32 (hm 32 _ rfl) rfl d_Model_thrown_1 ?_
  exact zc_iret X hr hlocks hB (by rfl) (by rfl) (by rfl) d_Model_thrown_4

set_option maxHeartbeats 4000000 in
set_option maxRecDepth 100000 in
theorem c_Model_isShare {l : Launch} {D : va_G} {cA : Nat → ClassId} {ad : Nat → Nat} {sh : zw_Sh} (hm : ∀ (k : Nat) (q : zw_Sp), shM k = some q → sh k = some q) (z : Nat) (mi : zw_I) (ml : zw_L) (x : Int32) :
    zc_M l D cA Y_Model_isShare 0 0 0 ad sh sh z [.ref (ad 32), .int x] mi ml (some (.int (q_isShare mi x))) mi ml z := by
  refine zc_enter (own := R_Model) (by decide) rfl (Nat.le_of_ble_eq_true rfl) ?_
  intro p e s m below meth c X hr hlocks hnm hB ls hl
  have X : zw_C D cA R_Model prog_9_method_3_code 2 p m c s := X
  have hr : meth.sig.returnType = (some FieldType.boolean) := hr
  have hx := X.1
  have hb := X.2.1
  have hl : lv_has ls 2 [(0, .ref (ad 32)), (1, .int x)] := hl
  unfold q_isShare
  refine lv_iload_n hx hb d_Model_isShare_0 rfl (lv_at hl 1 rfl) ?_
  refine lv_if_lt (tgt := 16) hx hb d_Model_isShare_1 (by decide) (fun c_1 => ?_) (fun c_1 => ?_)
  · rw [if_pos c_1]
    refine lv_iconst (v := 0) hx hb d_Model_isShare_16 (by decide) ?_
    exact zc_zret X hr hlocks hB (by rfl) (by rfl) (by rfl) (by rfl) d_Model_isShare_17
  · rw [if_neg c_1]
    refine lv_iload_n hx hb d_Model_isShare_4 rfl (lv_at hl 1 rfl) ?_
    refine lv_aload_n hx hb d_Model_isShare_5 rfl (lv_at hl 0 rfl) ?_
    refine zw_getI X hB fl_Model_75 32 (hm 32 _ rfl) rfl d_Model_isShare_6 ?_
    refine lv_icmp_ge (tgt := 16) hx hb d_Model_isShare_9 (by decide) (fun c_9 => ?_) (fun c_9 => ?_)
    · rw [if_pos c_9]
      refine lv_iconst (v := 0) hx hb d_Model_isShare_16 (by decide) ?_
      exact zc_zret X hr hlocks hB (by rfl) (by rfl) (by rfl) (by rfl) d_Model_isShare_17
    · rw [if_neg c_9]
      refine lv_iconst (v := 1) hx hb d_Model_isShare_12 (by decide) ?_
      refine lv_goto (tgt := 17) hx hb d_Model_isShare_13 (by decide) ?_
      exact zc_zret X hr hlocks hB (by rfl) (by rfl) (by rfl) (by rfl) d_Model_isShare_17

set_option maxHeartbeats 4000000 in
set_option maxRecDepth 100000 in
theorem c_Model_isIn {l : Launch} {D : va_G} {cA : Nat → ClassId} {ad : Nat → Nat} {sh : zw_Sh} (hm : ∀ (k : Nat) (q : zw_Sp), shM k = some q → sh k = some q) (z : Nat) (mi : zw_I) (ml : zw_L) (x : Int32) (lo : Int32) (hi : Int32) :
    zc_M l D cA Y_Model_isIn 0 0 0 ad sh sh z [.int x, .int lo, .int hi] mi ml (some (.int (p_within x lo hi))) mi ml z := by
  refine zc_enter (own := R_Model) (by decide) rfl (Nat.le_of_ble_eq_true rfl) ?_
  intro p e s m below meth c X hr hlocks hnm hB ls hl
  have X : zw_C D cA R_Model prog_9_method_4_code 3 p m c s := X
  have hr : meth.sig.returnType = (some FieldType.boolean) := hr
  have hx := X.1
  have hb := X.2.1
  have hl : lv_has ls 3 [(0, .int x), (1, .int lo), (2, .int hi)] := hl
  unfold p_within
  refine lv_iload_n hx hb d_Model_isIn_0 rfl (lv_at hl 0 rfl) ?_
  refine lv_iload_n hx hb d_Model_isIn_1 rfl (lv_at hl 1 rfl) ?_
  refine lv_icmp_lt (tgt := 14) hx hb d_Model_isIn_2 (by decide) (fun c_2 => ?_) (fun c_2 => ?_)
  · rw [if_pos c_2]
    refine lv_iconst (v := 0) hx hb d_Model_isIn_14 (by decide) ?_
    exact zc_zret X hr hlocks hB (by rfl) (by rfl) (by rfl) (by rfl) d_Model_isIn_15
  · rw [if_neg c_2]
    refine lv_iload_n hx hb d_Model_isIn_5 rfl (lv_at hl 0 rfl) ?_
    refine lv_iload_n hx hb d_Model_isIn_6 rfl (lv_at hl 2 rfl) ?_
    refine lv_icmp_gt (tgt := 14) hx hb d_Model_isIn_7 (by decide) (fun c_7 => ?_) (fun c_7 => ?_)
    · rw [if_pos c_7]
      refine lv_iconst (v := 0) hx hb d_Model_isIn_14 (by decide) ?_
      exact zc_zret X hr hlocks hB (by rfl) (by rfl) (by rfl) (by rfl) d_Model_isIn_15
    · rw [if_neg c_7]
      refine lv_iconst (v := 1) hx hb d_Model_isIn_10 (by decide) ?_
      refine lv_goto (tgt := 15) hx hb d_Model_isIn_11 (by decide) ?_
      exact zc_zret X hr hlocks hB (by rfl) (by rfl) (by rfl) (by rfl) d_Model_isIn_15

set_option maxHeartbeats 4000000 in
set_option maxRecDepth 100000 in
theorem c_Model_share {l : Launch} {D : va_G} {cA : Nat → ClassId} {ad : Nat → Nat} {sh : zw_Sh} (hm : ∀ (k : Nat) (q : zw_Sp), shM k = some q → sh k = some q) (z : Nat) (mi : zw_I) (ml : zw_L) (x : Int32) (st : Int32) (ce : Int32) (t : Int64) (h1 : ¬ q_isShare mi x = 0 → vp_in x 16) :
    zc_M l D cA Y_Model_share 1 0 0 ad sh sh z [.ref (ad 32), .int x, .int st, .int ce, .long t] mi ml (some (.int ((q_share mi ml x st ce t).1))) ((q_share mi ml x st ce t).2.1) ((q_share mi ml x st ce t).2.2) z := by
  refine zc_enter (own := R_Model) (by decide) rfl (Nat.le_of_ble_eq_true rfl) ?_
  intro p e s m below meth c X hr hlocks hnm hB ls hl
  have X : zw_C D cA R_Model prog_9_method_5_code 6 p m c s := X
  have hr : meth.sig.returnType = (some FieldType.int) := hr
  have hx := X.1
  have hb := X.2.1
  have hl : lv_has ls 6 [(0, .ref (ad 32)), (1, .int x), (2, .int st), (3, .int ce), (4, .long t)] := hl
  unfold q_share
  refine lv_aload_n hx hb d_Model_share_0 rfl (lv_at hl 0 rfl) ?_
  refine lv_aload_n hx hb d_Model_share_1 rfl (lv_at hl 0 rfl) ?_
  refine lv_iload_n hx hb d_Model_share_2 rfl (lv_at hl 1 rfl) ?_
  refine zw_callVr X hB mv_Model_88 32 (hm 32 _ rfl) rfl (c_Model_isShare hm z mi ml x) rfl hl.1 ⟨Nat.le_of_ble_eq_true rfl, Nat.le_of_ble_eq_true rfl⟩ rfl (Nat.le_of_ble_eq_true rfl) ⟨Nat.le_of_ble_eq_true rfl, Nat.le_of_ble_eq_true rfl⟩ d_Model_share_3 (fun H locs hB => ?_)
  refine lv_if_ne (tgt := 13) hx hb d_Model_share_6 (by decide) (fun c_6 => ?_) (fun c_6 => ?_)
  · rw [if_neg c_6]
    refine lv_iload_n hx hb d_Model_share_13 rfl (lv_at hl 2 rfl) ?_
    refine lv_iconst (v := 1) hx hb d_Model_share_14 (by decide) ?_
    refine lv_bipush (v := 20) hx hb d_Model_share_15 (by decide) ?_
    refine zw_callSr X hB mv_Model_92 (c_Model_isIn hm z mi ml st 1 20) rfl hl.1 ⟨Nat.le_of_ble_eq_true rfl, Nat.le_of_ble_eq_true rfl⟩ rfl (Nat.le_of_ble_eq_true rfl) ⟨Nat.le_of_ble_eq_true rfl, Nat.le_of_ble_eq_true rfl⟩ d_Model_share_17 (fun H locs hB => ?_)
    refine lv_if_eq (tgt := 35) hx hb d_Model_share_20 (by decide) (fun c_20 => ?_) (fun c_20 => ?_)
    · rw [if_pos c_20]
      refine lv_iconst (v := 2) hx hb d_Model_share_35 (by decide) ?_
      refine lv_goto (tgt := 40) hx hb d_Model_share_36 (by decide) ?_
      refine zw_putI X hB fp_Model_85 (fun h => by cases h) 32 (hm 32 _ rfl) rfl d_Model_share_40 (fun H locs hB => ?_)
      obtain ⟨mi_1, emi_1⟩ : ∃ y, y = zw_up mi 32 0 2 := ⟨_, rfl⟩
      rw [← emi_1] at hB
      refine lv_aload_n hx hb d_Model_share_43 rfl (lv_at hl 0 rfl) ?_
      refine zw_getI X hB fl_Model_85 32 (hm 32 _ rfl) rfl d_Model_share_44 ?_
      refine lv_if_le (tgt := 52) hx hb d_Model_share_47 (by decide) (fun c_47 => ?_) (fun c_47 => ?_)
      · exact absurd c_47 (by rw [emi_1, zw_up_self]; decide)
      · refine lv_iconst (v := 0) hx hb d_Model_share_50 (by decide) ?_
        exact zc_iret X hr hlocks hB (by subst emi_1; rfl) (by subst emi_1; rfl) (by subst emi_1; rfl) d_Model_share_51
    · rw [if_neg c_20]
      refine lv_iload_n hx hb d_Model_share_23 rfl (lv_at hl 3 rfl) ?_
      refine lv_iconst (v := 1) hx hb d_Model_share_24 (by decide) ?_
      refine lv_aload_n hx hb d_Model_share_25 rfl (lv_at hl 0 rfl) ?_
      refine zw_getI X hB fl_Model_79 32 (hm 32 _ rfl) rfl d_Model_share_26 ?_
      refine zw_callSr X hB mv_Model_92 (c_Model_isIn hm z mi ml ce 1 (mi 32 2)) rfl hl.1 ⟨Nat.le_of_ble_eq_true rfl, Nat.le_of_ble_eq_true rfl⟩ rfl (Nat.le_of_ble_eq_true rfl) ⟨Nat.le_of_ble_eq_true rfl, Nat.le_of_ble_eq_true rfl⟩ d_Model_share_29 (fun H locs hB => ?_)
      refine lv_if_ne (tgt := 39) hx hb d_Model_share_32 (by decide) (fun c_32 => ?_) (fun c_32 => ?_)
      · rw [if_neg c_32]
        refine lv_iconst (v := 0) hx hb d_Model_share_39 (by decide) ?_
        refine zw_putI X hB fp_Model_85 (fun h => by cases h) 32 (hm 32 _ rfl) rfl d_Model_share_40 (fun H locs hB => ?_)
        obtain ⟨mi_2, emi_2⟩ : ∃ y, y = zw_up mi 32 0 0 := ⟨_, rfl⟩
        rw [← emi_2] at hB
        refine lv_aload_n hx hb d_Model_share_43 rfl (lv_at hl 0 rfl) ?_
        refine zw_getI X hB fl_Model_85 32 (hm 32 _ rfl) rfl d_Model_share_44 ?_
        refine lv_if_le (tgt := 52) hx hb d_Model_share_47 (by decide) (fun c_47 => ?_) (fun c_47 => ?_)
        · refine lv_aload_n hx hb d_Model_share_52 rfl (lv_at hl 0 rfl) ?_
          refine zw_getR X hB fl_Model_7 32 (hm 32 _ rfl) rfl d_Model_share_53 ?_
          refine lv_iload_n hx hb d_Model_share_56 rfl (lv_at hl 1 rfl) ?_
          refine lv_iload_n hx hb d_Model_share_57 rfl (lv_at hl 2 rfl) ?_
          refine zw_iast X hB 33 (hm 33 _ rfl) (h1 c_6) d_Model_share_58 (fun H locs hB => ?_)
          obtain ⟨mi_3, emi_3⟩ : ∃ y, y = zw_up mi_2 33 x.toNatClampNeg st := ⟨_, rfl⟩
          rw [← emi_3] at hB
          refine lv_aload_n hx hb d_Model_share_59 rfl (lv_at hl 0 rfl) ?_
          refine zw_getR X hB fl_Model_13 32 (hm 32 _ rfl) rfl d_Model_share_60 ?_
          refine lv_iload_n hx hb d_Model_share_63 rfl (lv_at hl 1 rfl) ?_
          refine lv_iload_n hx hb d_Model_share_64 rfl (lv_at hl 3 rfl) ?_
          refine zw_iast X hB 34 (hm 34 _ rfl) (h1 c_6) d_Model_share_65 (fun H locs hB => ?_)
          obtain ⟨mi_4, emi_4⟩ : ∃ y, y = zw_up mi_3 34 x.toNatClampNeg ce := ⟨_, rfl⟩
          rw [← emi_4] at hB
          refine lv_aload_n hx hb d_Model_share_66 rfl (lv_at hl 0 rfl) ?_
          refine zw_getR X hB fl_Model_16 32 (hm 32 _ rfl) rfl d_Model_share_67 ?_
          refine lv_iload_n hx hb d_Model_share_70 rfl (lv_at hl 1 rfl) ?_
          refine lv_lload hx hb d_Model_share_71 (lv_at hl 4 rfl) ?_
          refine zw_last X hB 35 (hm 35 _ rfl) (h1 c_6) d_Model_share_73 (fun H locs hB => ?_)
          obtain ⟨ml_5, eml_5⟩ : ∃ y, y = zw_up ml 35 x.toNatClampNeg t := ⟨_, rfl⟩
          rw [← eml_5] at hB
          refine lv_aload_n hx hb d_Model_share_74 rfl (lv_at hl 0 rfl) ?_
          refine zw_getR X hB fl_Model_20 32 (hm 32 _ rfl) rfl d_Model_share_75 ?_
          refine lv_iload_n hx hb d_Model_share_78 rfl (lv_at hl 1 rfl) ?_
          refine zw_iald X hB 36 (hm 36 _ rfl) (h1 c_6) d_Model_share_79 ?_
          exact zc_iret X hr hlocks hB (by subst eml_5; subst emi_4; subst emi_3; subst emi_2; rfl) (by subst eml_5; subst emi_4; subst emi_3; subst emi_2; rfl) (by subst eml_5; subst emi_4; subst emi_3; subst emi_2; rfl) d_Model_share_80
        · exact absurd (by rw [emi_2, zw_up_self]; decide) c_47
      · rw [if_pos c_32]
        refine lv_iconst (v := 2) hx hb d_Model_share_35 (by decide) ?_
        refine lv_goto (tgt := 40) hx hb d_Model_share_36 (by decide) ?_
        refine zw_putI X hB fp_Model_85 (fun h => by cases h) 32 (hm 32 _ rfl) rfl d_Model_share_40 (fun H locs hB => ?_)
        obtain ⟨mi_6, emi_6⟩ : ∃ y, y = zw_up mi 32 0 2 := ⟨_, rfl⟩
        rw [← emi_6] at hB
        refine lv_aload_n hx hb d_Model_share_43 rfl (lv_at hl 0 rfl) ?_
        refine zw_getI X hB fl_Model_85 32 (hm 32 _ rfl) rfl d_Model_share_44 ?_
        refine lv_if_le (tgt := 52) hx hb d_Model_share_47 (by decide) (fun c_47 => ?_) (fun c_47 => ?_)
        · exact absurd c_47 (by rw [emi_6, zw_up_self]; decide)
        · refine lv_iconst (v := 0) hx hb d_Model_share_50 (by decide) ?_
          exact zc_iret X hr hlocks hB (by subst emi_6; rfl) (by subst emi_6; rfl) (by subst emi_6; rfl) d_Model_share_51
  · rw [if_pos c_6]
    refine lv_iconst (v := 1) hx hb d_Model_share_9 (by decide) ?_
    refine lv_goto (tgt := 40) hx hb d_Model_share_10 (by decide) ?_
    refine zw_putI X hB fp_Model_85 (fun h => by cases h) 32 (hm 32 _ rfl) rfl d_Model_share_40 (fun H locs hB => ?_)
    obtain ⟨mi_7, emi_7⟩ : ∃ y, y = zw_up mi 32 0 1 := ⟨_, rfl⟩
    rw [← emi_7] at hB
    refine lv_aload_n hx hb d_Model_share_43 rfl (lv_at hl 0 rfl) ?_
    refine zw_getI X hB fl_Model_85 32 (hm 32 _ rfl) rfl d_Model_share_44 ?_
    refine lv_if_le (tgt := 52) hx hb d_Model_share_47 (by decide) (fun c_47 => ?_) (fun c_47 => ?_)
    · exact absurd c_47 (by rw [emi_7, zw_up_self]; decide)
    · refine lv_iconst (v := 0) hx hb d_Model_share_50 (by decide) ?_
      exact zc_iret X hr hlocks hB (by subst emi_7; rfl) (by subst emi_7; rfl) (by subst emi_7; rfl) d_Model_share_51

set_option maxHeartbeats 4000000 in
set_option maxRecDepth 100000 in
theorem c_Model_need {l : Launch} {D : va_G} {cA : Nat → ClassId} {ad : Nat → Nat} {sh : zw_Sh} (hm : ∀ (k : Nat) (q : zw_Sp), shM k = some q → sh k = some q) (z : Nat) (mi : zw_I) (ml : zw_L) (x : Int32) (s0 : Int32) (o : Int32) (m0 : Int32) (h1 : ¬ q_isShare mi x = 0 → vp_in x 16) (h2 : ¬ q_isShare mi x = 0 → ¬ mi 36 x.toNatClampNeg = 6 → vp_in (6 * x + mi 36 x.toNatClampNeg) 96) :
    zc_M l D cA Y_Model_need 1 0 0 ad sh sh z [.ref (ad 32), .int x, .int s0, .int o, .int m0] mi ml (some (.int ((q_need mi x s0 o m0).1))) ((q_need mi x s0 o m0).2) ml z := by
  refine zc_enter (own := R_Model) (by decide) rfl (Nat.le_of_ble_eq_true rfl) ?_
  intro p e s m below meth c X hr hlocks hnm hB ls hl
  have X : zw_C D cA R_Model prog_9_method_6_code 6 p m c s := X
  have hr : meth.sig.returnType = (some FieldType.int) := hr
  have hx := X.1
  have hb := X.2.1
  have hl : lv_has ls 6 [(0, .ref (ad 32)), (1, .int x), (2, .int s0), (3, .int o), (4, .int m0)] := hl
  unfold q_need
  refine lv_aload_n hx hb d_Model_need_0 rfl (lv_at hl 0 rfl) ?_
  refine lv_aload_n hx hb d_Model_need_1 rfl (lv_at hl 0 rfl) ?_
  refine lv_iload_n hx hb d_Model_need_2 rfl (lv_at hl 1 rfl) ?_
  refine zw_callVr X hB mv_Model_88 32 (hm 32 _ rfl) rfl (c_Model_isShare hm z mi ml x) rfl hl.1 ⟨Nat.le_of_ble_eq_true rfl, Nat.le_of_ble_eq_true rfl⟩ rfl (Nat.le_of_ble_eq_true rfl) ⟨Nat.le_of_ble_eq_true rfl, Nat.le_of_ble_eq_true rfl⟩ d_Model_need_3 (fun H locs hB => ?_)
  refine lv_if_eq (tgt := 17) hx hb d_Model_need_6 (by decide) (fun c_6 => ?_) (fun c_6 => ?_)
  · rw [if_pos c_6]
    refine lv_iconst (v := 1) hx hb d_Model_need_17 (by decide) ?_
    refine lv_goto (tgt := 67) hx hb d_Model_need_18 (by decide) ?_
    refine zw_putI X hB fp_Model_85 (fun h => by cases h) 32 (hm 32 _ rfl) rfl d_Model_need_67 (fun H locs hB => ?_)
    obtain ⟨mi_1, emi_1⟩ : ∃ y, y = zw_up mi 32 0 1 := ⟨_, rfl⟩
    rw [← emi_1] at hB
    refine lv_aload_n hx hb d_Model_need_70 rfl (lv_at hl 0 rfl) ?_
    refine zw_getI X hB fl_Model_85 32 (hm 32 _ rfl) rfl d_Model_need_71 ?_
    refine lv_if_le (tgt := 79) hx hb d_Model_need_74 (by decide) (fun c_74 => ?_) (fun c_74 => ?_)
    · exact absurd c_74 (by rw [emi_1, zw_up_self]; decide)
    · refine lv_iconst (v := 0) hx hb d_Model_need_77 (by decide) ?_
      exact zc_iret X hr hlocks hB (by subst emi_1; rfl) (by subst emi_1; rfl) (by subst emi_1; rfl) d_Model_need_78
  · rw [if_neg c_6]
    refine lv_aload_n hx hb d_Model_need_9 rfl (lv_at hl 0 rfl) ?_
    refine lv_iload_n hx hb d_Model_need_10 rfl (lv_at hl 3 rfl) ?_
    refine zw_callVr X hB mv_Model_88 32 (hm 32 _ rfl) rfl (c_Model_isShare hm z mi ml o) rfl hl.1 ⟨Nat.le_of_ble_eq_true rfl, Nat.le_of_ble_eq_true rfl⟩ rfl (Nat.le_of_ble_eq_true rfl) ⟨Nat.le_of_ble_eq_true rfl, Nat.le_of_ble_eq_true rfl⟩ d_Model_need_11 (fun H locs hB => ?_)
    refine lv_if_ne (tgt := 21) hx hb d_Model_need_14 (by decide) (fun c_14 => ?_) (fun c_14 => ?_)
    · rw [if_neg c_14]
      refine lv_iload_n hx hb d_Model_need_21 rfl (lv_at hl 2 rfl) ?_
      refine lv_iconst (v := 0) hx hb d_Model_need_22 (by decide) ?_
      refine lv_bipush (v := 19) hx hb d_Model_need_23 (by decide) ?_
      refine zw_callSr X hB mv_Model_92 (c_Model_isIn hm z mi ml s0 0 19) rfl hl.1 ⟨Nat.le_of_ble_eq_true rfl, Nat.le_of_ble_eq_true rfl⟩ rfl (Nat.le_of_ble_eq_true rfl) ⟨Nat.le_of_ble_eq_true rfl, Nat.le_of_ble_eq_true rfl⟩ d_Model_need_25 (fun H locs hB => ?_)
      refine lv_if_eq (tgt := 47) hx hb d_Model_need_28 (by decide) (fun c_28 => ?_) (fun c_28 => ?_)
      · rw [if_pos c_28]
        refine lv_iconst (v := 2) hx hb d_Model_need_47 (by decide) ?_
        refine lv_goto (tgt := 67) hx hb d_Model_need_48 (by decide) ?_
        refine zw_putI X hB fp_Model_85 (fun h => by cases h) 32 (hm 32 _ rfl) rfl d_Model_need_67 (fun H locs hB => ?_)
        obtain ⟨mi_2, emi_2⟩ : ∃ y, y = zw_up mi 32 0 2 := ⟨_, rfl⟩
        rw [← emi_2] at hB
        refine lv_aload_n hx hb d_Model_need_70 rfl (lv_at hl 0 rfl) ?_
        refine zw_getI X hB fl_Model_85 32 (hm 32 _ rfl) rfl d_Model_need_71 ?_
        refine lv_if_le (tgt := 79) hx hb d_Model_need_74 (by decide) (fun c_74 => ?_) (fun c_74 => ?_)
        · exact absurd c_74 (by rw [emi_2, zw_up_self]; decide)
        · refine lv_iconst (v := 0) hx hb d_Model_need_77 (by decide) ?_
          exact zc_iret X hr hlocks hB (by subst emi_2; rfl) (by subst emi_2; rfl) (by subst emi_2; rfl) d_Model_need_78
      · rw [if_neg c_28]
        refine lv_iload hx hb d_Model_need_31 (lv_at hl 4 rfl) ?_
        refine lv_iconst (v := 1) hx hb d_Model_need_33 (by decide) ?_
        refine lv_bipush (v := 20) hx hb d_Model_need_34 (by decide) ?_
        refine zw_callSr X hB mv_Model_92 (c_Model_isIn hm z mi ml m0 1 20) rfl hl.1 ⟨Nat.le_of_ble_eq_true rfl, Nat.le_of_ble_eq_true rfl⟩ rfl (Nat.le_of_ble_eq_true rfl) ⟨Nat.le_of_ble_eq_true rfl, Nat.le_of_ble_eq_true rfl⟩ d_Model_need_36 (fun H locs hB => ?_)
        refine lv_if_eq (tgt := 47) hx hb d_Model_need_39 (by decide) (fun c_39 => ?_) (fun c_39 => ?_)
        · rw [if_pos c_39]
          refine lv_iconst (v := 2) hx hb d_Model_need_47 (by decide) ?_
          refine lv_goto (tgt := 67) hx hb d_Model_need_48 (by decide) ?_
          refine zw_putI X hB fp_Model_85 (fun h => by cases h) 32 (hm 32 _ rfl) rfl d_Model_need_67 (fun H locs hB => ?_)
          obtain ⟨mi_3, emi_3⟩ : ∃ y, y = zw_up mi 32 0 2 := ⟨_, rfl⟩
          rw [← emi_3] at hB
          refine lv_aload_n hx hb d_Model_need_70 rfl (lv_at hl 0 rfl) ?_
          refine zw_getI X hB fl_Model_85 32 (hm 32 _ rfl) rfl d_Model_need_71 ?_
          refine lv_if_le (tgt := 79) hx hb d_Model_need_74 (by decide) (fun c_74 => ?_) (fun c_74 => ?_)
          · exact absurd c_74 (by rw [emi_3, zw_up_self]; decide)
          · refine lv_iconst (v := 0) hx hb d_Model_need_77 (by decide) ?_
            exact zc_iret X hr hlocks hB (by subst emi_3; rfl) (by subst emi_3; rfl) (by subst emi_3; rfl) d_Model_need_78
        · rw [if_neg c_39]
          refine lv_iload_n hx hb d_Model_need_42 rfl (lv_at hl 3 rfl) ?_
          refine lv_iload_n hx hb d_Model_need_43 rfl (lv_at hl 1 rfl) ?_
          refine lv_icmp_ne (tgt := 51) hx hb d_Model_need_44 (by decide) (fun c_44 => ?_) (fun c_44 => ?_)
          · rw [if_neg c_44]
            refine lv_aload_n hx hb d_Model_need_51 rfl (lv_at hl 0 rfl) ?_
            refine zw_getR X hB fl_Model_20 32 (hm 32 _ rfl) rfl d_Model_need_52 ?_
            refine lv_iload_n hx hb d_Model_need_55 rfl (lv_at hl 1 rfl) ?_
            refine zw_iald X hB 36 (hm 36 _ rfl) (h1 c_6) d_Model_need_56 ?_
            refine lv_bipush (v := 6) hx hb d_Model_need_57 (by decide) ?_
            refine lv_icmp_ne (tgt := 66) hx hb d_Model_need_59 (by decide) (fun c_59 => ?_) (fun c_59 => ?_)
            · rw [if_neg c_59]
              refine lv_iconst (v := 0) hx hb d_Model_need_66 (by decide) ?_
              refine zw_putI X hB fp_Model_85 (fun h => by cases h) 32 (hm 32 _ rfl) rfl d_Model_need_67 (fun H locs hB => ?_)
              obtain ⟨mi_4, emi_4⟩ : ∃ y, y = zw_up mi 32 0 0 := ⟨_, rfl⟩
              rw [← emi_4] at hB
              refine lv_aload_n hx hb d_Model_need_70 rfl (lv_at hl 0 rfl) ?_
              refine zw_getI X hB fl_Model_85 32 (hm 32 _ rfl) rfl d_Model_need_71 ?_
              refine lv_if_le (tgt := 79) hx hb d_Model_need_74 (by decide) (fun c_74 => ?_) (fun c_74 => ?_)
              · refine lv_bipush (v := 6) hx hb d_Model_need_79 (by decide) ?_
                refine lv_iload_n hx hb d_Model_need_81 rfl (lv_at hl 1 rfl) ?_
                refine lv_imul hx hb d_Model_need_82 ?_
                refine lv_aload_n hx hb d_Model_need_83 rfl (lv_at hl 0 rfl) ?_
                refine zw_getR X hB fl_Model_20 32 (hm 32 _ rfl) rfl d_Model_need_84 ?_
                refine lv_iload_n hx hb d_Model_need_87 rfl (lv_at hl 1 rfl) ?_
                refine zw_iald X hB 36 (hm 36 _ rfl) (h1 c_6) d_Model_need_88 ?_
                refine lv_iadd hx hb d_Model_need_89 ?_
                refine lv_istore (lv' := [(5, .int ((6 * x) + (mi_4 36 x.toNatClampNeg))), (0, .ref (ad 32)), (1, .int x), (2, .int s0), (3, .int o), (4, .int m0)]) hx hb d_Model_need_90 hl (by decide) rfl (fun ls hl => ?_)
                refine lv_aload_n hx hb d_Model_need_92 rfl (lv_at hl 1 rfl) ?_
                refine zw_getR X hB fl_Model_23 32 (hm 32 _ rfl) rfl d_Model_need_93 ?_
                refine lv_iload hx hb d_Model_need_96 (lv_at hl 0 rfl) ?_
                refine lv_iload_n hx hb d_Model_need_98 rfl (lv_at hl 3 rfl) ?_
                refine zw_iast X hB 37 (hm 37 _ rfl) (by subst_vars; simpa [zw_up] using h2 c_6 c_59) d_Model_need_99 (fun H locs hB => ?_)
                obtain ⟨mi_5, emi_5⟩ : ∃ y, y = zw_up mi_4 37 ((6 * x) + (mi_4 36 x.toNatClampNeg)).toNatClampNeg s0 := ⟨_, rfl⟩
                rw [← emi_5] at hB
                refine lv_aload_n hx hb d_Model_need_100 rfl (lv_at hl 1 rfl) ?_
                refine zw_getR X hB fl_Model_26 32 (hm 32 _ rfl) rfl d_Model_need_101 ?_
                refine lv_iload hx hb d_Model_need_104 (lv_at hl 0 rfl) ?_
                refine lv_iload_n hx hb d_Model_need_106 rfl (lv_at hl 4 rfl) ?_
                refine zw_iast X hB 38 (hm 38 _ rfl) (by subst_vars; simpa [zw_up] using h2 c_6 c_59) d_Model_need_107 (fun H locs hB => ?_)
                obtain ⟨mi_6, emi_6⟩ : ∃ y, y = zw_up mi_5 38 ((6 * x) + (mi_4 36 x.toNatClampNeg)).toNatClampNeg o := ⟨_, rfl⟩
                rw [← emi_6] at hB
                refine lv_aload_n hx hb d_Model_need_108 rfl (lv_at hl 1 rfl) ?_
                refine zw_getR X hB fl_Model_29 32 (hm 32 _ rfl) rfl d_Model_need_109 ?_
                refine lv_iload hx hb d_Model_need_112 (lv_at hl 0 rfl) ?_
                refine lv_iload hx hb d_Model_need_114 (lv_at hl 5 rfl) ?_
                refine zw_iast X hB 39 (hm 39 _ rfl) (by subst_vars; simpa [zw_up] using h2 c_6 c_59) d_Model_need_116 (fun H locs hB => ?_)
                obtain ⟨mi_7, emi_7⟩ : ∃ y, y = zw_up mi_6 39 ((6 * x) + (mi_4 36 x.toNatClampNeg)).toNatClampNeg m0 := ⟨_, rfl⟩
                rw [← emi_7] at hB
                refine lv_aload_n hx hb d_Model_need_117 rfl (lv_at hl 1 rfl) ?_
                refine zw_getR X hB fl_Model_20 32 (hm 32 _ rfl) rfl d_Model_need_118 ?_
                refine lv_iload_n hx hb d_Model_need_121 rfl (lv_at hl 2 rfl) ?_
                refine lv_dup2_11 hx hb d_Model_need_122 rfl rfl ?_
                refine zw_iald X hB 36 (hm 36 _ rfl) (h1 c_6) d_Model_need_123 ?_
                refine lv_iconst (v := 1) hx hb d_Model_need_124 (by decide) ?_
                refine lv_iadd hx hb d_Model_need_125 ?_
                refine zw_iast X hB 36 (hm 36 _ rfl) (h1 c_6) d_Model_need_126 (fun H locs hB => ?_)
                obtain ⟨mi_8, emi_8⟩ : ∃ y, y = zw_up mi_7 36 x.toNatClampNeg ((mi_7 36 x.toNatClampNeg) + 1) := ⟨_, rfl⟩
                rw [← emi_8] at hB
                refine lv_aload_n hx hb d_Model_need_127 rfl (lv_at hl 1 rfl) ?_
                refine zw_getR X hB fl_Model_20 32 (hm 32 _ rfl) rfl d_Model_need_128 ?_
                refine lv_iload_n hx hb d_Model_need_131 rfl (lv_at hl 2 rfl) ?_
                refine zw_iald X hB 36 (hm 36 _ rfl) (h1 c_6) d_Model_need_132 ?_
                exact zc_iret X hr hlocks hB (by subst emi_8; subst emi_7; subst emi_6; subst emi_5; subst emi_4; rfl) (by subst emi_8; subst emi_7; subst emi_6; subst emi_5; subst emi_4; rfl) (by subst emi_8; subst emi_7; subst emi_6; subst emi_5; subst emi_4; rfl) d_Model_need_133
              · exact absurd (by rw [emi_4, zw_up_self]; decide) c_74
            · rw [if_pos c_59]
              refine lv_iconst (v := 3) hx hb d_Model_need_62 (by decide) ?_
              refine lv_goto (tgt := 67) hx hb d_Model_need_63 (by decide) ?_
              refine zw_putI X hB fp_Model_85 (fun h => by cases h) 32 (hm 32 _ rfl) rfl d_Model_need_67 (fun H locs hB => ?_)
              obtain ⟨mi_9, emi_9⟩ : ∃ y, y = zw_up mi 32 0 3 := ⟨_, rfl⟩
              rw [← emi_9] at hB
              refine lv_aload_n hx hb d_Model_need_70 rfl (lv_at hl 0 rfl) ?_
              refine zw_getI X hB fl_Model_85 32 (hm 32 _ rfl) rfl d_Model_need_71 ?_
              refine lv_if_le (tgt := 79) hx hb d_Model_need_74 (by decide) (fun c_74 => ?_) (fun c_74 => ?_)
              · exact absurd c_74 (by rw [emi_9, zw_up_self]; decide)
              · refine lv_iconst (v := 0) hx hb d_Model_need_77 (by decide) ?_
                exact zc_iret X hr hlocks hB (by subst emi_9; rfl) (by subst emi_9; rfl) (by subst emi_9; rfl) d_Model_need_78
          · rw [if_pos c_44]
            refine lv_iconst (v := 2) hx hb d_Model_need_47 (by decide) ?_
            refine lv_goto (tgt := 67) hx hb d_Model_need_48 (by decide) ?_
            refine zw_putI X hB fp_Model_85 (fun h => by cases h) 32 (hm 32 _ rfl) rfl d_Model_need_67 (fun H locs hB => ?_)
            obtain ⟨mi_10, emi_10⟩ : ∃ y, y = zw_up mi 32 0 2 := ⟨_, rfl⟩
            rw [← emi_10] at hB
            refine lv_aload_n hx hb d_Model_need_70 rfl (lv_at hl 0 rfl) ?_
            refine zw_getI X hB fl_Model_85 32 (hm 32 _ rfl) rfl d_Model_need_71 ?_
            refine lv_if_le (tgt := 79) hx hb d_Model_need_74 (by decide) (fun c_74 => ?_) (fun c_74 => ?_)
            · exact absurd c_74 (by rw [emi_10, zw_up_self]; decide)
            · refine lv_iconst (v := 0) hx hb d_Model_need_77 (by decide) ?_
              exact zc_iret X hr hlocks hB (by subst emi_10; rfl) (by subst emi_10; rfl) (by subst emi_10; rfl) d_Model_need_78
    · rw [if_pos c_14]
      refine lv_iconst (v := 1) hx hb d_Model_need_17 (by decide) ?_
      refine lv_goto (tgt := 67) hx hb d_Model_need_18 (by decide) ?_
      refine zw_putI X hB fp_Model_85 (fun h => by cases h) 32 (hm 32 _ rfl) rfl d_Model_need_67 (fun H locs hB => ?_)
      obtain ⟨mi_11, emi_11⟩ : ∃ y, y = zw_up mi 32 0 1 := ⟨_, rfl⟩
      rw [← emi_11] at hB
      refine lv_aload_n hx hb d_Model_need_70 rfl (lv_at hl 0 rfl) ?_
      refine zw_getI X hB fl_Model_85 32 (hm 32 _ rfl) rfl d_Model_need_71 ?_
      refine lv_if_le (tgt := 79) hx hb d_Model_need_74 (by decide) (fun c_74 => ?_) (fun c_74 => ?_)
      · exact absurd c_74 (by rw [emi_11, zw_up_self]; decide)
      · refine lv_iconst (v := 0) hx hb d_Model_need_77 (by decide) ?_
        exact zc_iret X hr hlocks hB (by subst emi_11; rfl) (by subst emi_11; rfl) (by subst emi_11; rfl) d_Model_need_78

set_option maxHeartbeats 4000000 in
set_option maxRecDepth 100000 in
theorem c_Model_free {l : Launch} {D : va_G} {cA : Nat → ClassId} {ad : Nat → Nat} {sh : zw_Sh} (hm : ∀ (k : Nat) (q : zw_Sp), shM k = some q → sh k = some q) (z : Nat) (mi : zw_I) (ml : zw_L) (x : Int32) (h1 : ¬ q_isShare mi x = 0 → vp_in x 16) :
    zc_M l D cA Y_Model_free 1 0 0 ad sh sh z [.ref (ad 32), .int x] mi ml (some (.int ((q_free mi x).1))) ((q_free mi x).2) ml z := by
  refine zc_enter (own := R_Model) (by decide) rfl (Nat.le_of_ble_eq_true rfl) ?_
  intro p e s m below meth c X hr hlocks hnm hB ls hl
  have X : zw_C D cA R_Model prog_9_method_7_code 3 p m c s := X
  have hr : meth.sig.returnType = (some FieldType.int) := hr
  have hx := X.1
  have hb := X.2.1
  have hl : lv_has ls 3 [(0, .ref (ad 32)), (1, .int x)] := hl
  unfold q_free
  refine lv_aload_n hx hb d_Model_free_0 rfl (lv_at hl 0 rfl) ?_
  refine lv_aload_n hx hb d_Model_free_1 rfl (lv_at hl 0 rfl) ?_
  refine lv_iload_n hx hb d_Model_free_2 rfl (lv_at hl 1 rfl) ?_
  refine zw_callVr X hB mv_Model_88 32 (hm 32 _ rfl) rfl (c_Model_isShare hm z mi ml x) rfl hl.1 ⟨Nat.le_of_ble_eq_true rfl, Nat.le_of_ble_eq_true rfl⟩ rfl (Nat.le_of_ble_eq_true rfl) ⟨Nat.le_of_ble_eq_true rfl, Nat.le_of_ble_eq_true rfl⟩ d_Model_free_3 (fun H locs hB => ?_)
  refine lv_if_eq (tgt := 13) hx hb d_Model_free_6 (by decide) (fun c_6 => ?_) (fun c_6 => ?_)
  · rw [if_pos c_6]
    refine lv_iconst (v := 1) hx hb d_Model_free_13 (by decide) ?_
    refine zw_putI X hB fp_Model_85 (fun h => by cases h) 32 (hm 32 _ rfl) rfl d_Model_free_14 (fun H locs hB => ?_)
    obtain ⟨mi_1, emi_1⟩ : ∃ y, y = zw_up mi 32 0 1 := ⟨_, rfl⟩
    rw [← emi_1] at hB
    refine lv_aload_n hx hb d_Model_free_17 rfl (lv_at hl 0 rfl) ?_
    refine zw_getI X hB fl_Model_85 32 (hm 32 _ rfl) rfl d_Model_free_18 ?_
    refine lv_if_le (tgt := 26) hx hb d_Model_free_21 (by decide) (fun c_21 => ?_) (fun c_21 => ?_)
    · exact absurd c_21 (by rw [emi_1, zw_up_self]; decide)
    · refine lv_iconst (v := 0) hx hb d_Model_free_24 (by decide) ?_
      exact zc_iret X hr hlocks hB (by subst emi_1; rfl) (by subst emi_1; rfl) (by subst emi_1; rfl) d_Model_free_25
  · rw [if_neg c_6]
    refine lv_iconst (v := 0) hx hb d_Model_free_9 (by decide) ?_
    refine lv_goto (tgt := 14) hx hb d_Model_free_10 (by decide) ?_
    refine zw_putI X hB fp_Model_85 (fun h => by cases h) 32 (hm 32 _ rfl) rfl d_Model_free_14 (fun H locs hB => ?_)
    obtain ⟨mi_2, emi_2⟩ : ∃ y, y = zw_up mi 32 0 0 := ⟨_, rfl⟩
    rw [← emi_2] at hB
    refine lv_aload_n hx hb d_Model_free_17 rfl (lv_at hl 0 rfl) ?_
    refine zw_getI X hB fl_Model_85 32 (hm 32 _ rfl) rfl d_Model_free_18 ?_
    refine lv_if_le (tgt := 26) hx hb d_Model_free_21 (by decide) (fun c_21 => ?_) (fun c_21 => ?_)
    · refine lv_aload_n hx hb d_Model_free_26 rfl (lv_at hl 0 rfl) ?_
      refine zw_getR X hB fl_Model_20 32 (hm 32 _ rfl) rfl d_Model_free_27 ?_
      refine lv_iload_n hx hb d_Model_free_30 rfl (lv_at hl 1 rfl) ?_
      refine zw_iald X hB 36 (hm 36 _ rfl) (h1 c_6) d_Model_free_31 ?_
      refine lv_istore_n (lv' := [(2, .int (mi_2 36 x.toNatClampNeg)), (0, .ref (ad 32)), (1, .int x)]) hx hb d_Model_free_32 rfl hl (by decide) rfl (fun ls hl => ?_)
      refine lv_aload_n hx hb d_Model_free_33 rfl (lv_at hl 1 rfl) ?_
      refine zw_getR X hB fl_Model_20 32 (hm 32 _ rfl) rfl d_Model_free_34 ?_
      refine lv_iload_n hx hb d_Model_free_37 rfl (lv_at hl 2 rfl) ?_
      refine lv_iconst (v := 0) hx hb d_Model_free_38 (by decide) ?_
      refine zw_iast X hB 36 (hm 36 _ rfl) (h1 c_6) d_Model_free_39 (fun H locs hB => ?_)
      obtain ⟨mi_3, emi_3⟩ : ∃ y, y = zw_up mi_2 36 x.toNatClampNeg 0 := ⟨_, rfl⟩
      rw [← emi_3] at hB
      refine lv_iload_n hx hb d_Model_free_40 rfl (lv_at hl 0 rfl) ?_
      exact zc_iret X hr hlocks hB (by subst emi_3; subst emi_2; rfl) (by subst emi_3; subst emi_2; rfl) (by subst emi_3; subst emi_2; rfl) d_Model_free_41
    · exact absurd (by rw [emi_2, zw_up_self]; decide) c_21

set_option maxHeartbeats 4000000 in
set_option maxRecDepth 100000 in
theorem c_Model_failing {l : Launch} {D : va_G} {cA : Nat → ClassId} {ad : Nat → Nat} {sh : zw_Sh} (hm : ∀ (k : Nat) (q : zw_Sp), shM k = some q → sh k = some q) (z : Nat) (mi : zw_I) (ml : zw_L) (w : Int32) (x : Int32) (s0 : Int32) (t : Int32) (h1 : ¬ mi 32 15 = 8 → vp_in (mi 32 15) 8) :
    zc_M l D cA Y_Model_failing 1 0 0 ad sh sh z [.ref (ad 32), .int w, .int x, .int s0, .int t] mi ml (some (.int ((q_failing mi w x s0 t).1))) ((q_failing mi w x s0 t).2) ml z := by
  refine zc_enter (own := R_Model) (by decide) rfl (Nat.le_of_ble_eq_true rfl) ?_
  intro p e s m below meth c X hr hlocks hnm hB ls hl
  have X : zw_C D cA R_Model prog_9_method_8_code 5 p m c s := X
  have hr : meth.sig.returnType = (some FieldType.int) := hr
  have hx := X.1
  have hb := X.2.1
  have hl : lv_has ls 5 [(0, .ref (ad 32)), (1, .int w), (2, .int x), (3, .int s0), (4, .int t)] := hl
  unfold q_failing
  refine lv_aload_n hx hb d_Model_failing_0 rfl (lv_at hl 0 rfl) ?_
  refine lv_aload_n hx hb d_Model_failing_1 rfl (lv_at hl 0 rfl) ?_
  refine lv_iload_n hx hb d_Model_failing_2 rfl (lv_at hl 2 rfl) ?_
  refine zw_callVr X hB mv_Model_88 32 (hm 32 _ rfl) rfl (c_Model_isShare hm z mi ml x) rfl hl.1 ⟨Nat.le_of_ble_eq_true rfl, Nat.le_of_ble_eq_true rfl⟩ rfl (Nat.le_of_ble_eq_true rfl) ⟨Nat.le_of_ble_eq_true rfl, Nat.le_of_ble_eq_true rfl⟩ d_Model_failing_3 (fun H locs hB => ?_)
  refine lv_if_ne (tgt := 13) hx hb d_Model_failing_6 (by decide) (fun c_6 => ?_) (fun c_6 => ?_)
  · rw [if_neg c_6]
    refine lv_iload_n hx hb d_Model_failing_13 rfl (lv_at hl 1 rfl) ?_
    refine lv_iconst (v := 0) hx hb d_Model_failing_14 (by decide) ?_
    refine lv_bipush (v := 15) hx hb d_Model_failing_15 (by decide) ?_
    refine zw_callSr X hB mv_Model_92 (c_Model_isIn hm z mi ml w 0 15) rfl hl.1 ⟨Nat.le_of_ble_eq_true rfl, Nat.le_of_ble_eq_true rfl⟩ rfl (Nat.le_of_ble_eq_true rfl) ⟨Nat.le_of_ble_eq_true rfl, Nat.le_of_ble_eq_true rfl⟩ d_Model_failing_17 (fun H locs hB => ?_)
    refine lv_if_eq (tgt := 44) hx hb d_Model_failing_20 (by decide) (fun c_20 => ?_) (fun c_20 => ?_)
    · rw [if_pos c_20]
      refine lv_iconst (v := 2) hx hb d_Model_failing_44 (by decide) ?_
      refine lv_goto (tgt := 62) hx hb d_Model_failing_45 (by decide) ?_
      refine zw_putI X hB fp_Model_85 (fun h => by cases h) 32 (hm 32 _ rfl) rfl d_Model_failing_62 (fun H locs hB => ?_)
      obtain ⟨mi_1, emi_1⟩ : ∃ y, y = zw_up mi 32 0 2 := ⟨_, rfl⟩
      rw [← emi_1] at hB
      refine lv_aload_n hx hb d_Model_failing_65 rfl (lv_at hl 0 rfl) ?_
      refine zw_getI X hB fl_Model_85 32 (hm 32 _ rfl) rfl d_Model_failing_66 ?_
      refine lv_if_le (tgt := 74) hx hb d_Model_failing_69 (by decide) (fun c_69 => ?_) (fun c_69 => ?_)
      · exact absurd c_69 (by rw [emi_1, zw_up_self]; decide)
      · refine lv_iconst (v := 0) hx hb d_Model_failing_72 (by decide) ?_
        exact zc_iret X hr hlocks hB (by subst emi_1; rfl) (by subst emi_1; rfl) (by subst emi_1; rfl) d_Model_failing_73
    · rw [if_neg c_20]
      refine lv_iload_n hx hb d_Model_failing_23 rfl (lv_at hl 3 rfl) ?_
      refine lv_iconst (v := 0) hx hb d_Model_failing_24 (by decide) ?_
      refine lv_bipush (v := 19) hx hb d_Model_failing_25 (by decide) ?_
      refine zw_callSr X hB mv_Model_92 (c_Model_isIn hm z mi ml s0 0 19) rfl hl.1 ⟨Nat.le_of_ble_eq_true rfl, Nat.le_of_ble_eq_true rfl⟩ rfl (Nat.le_of_ble_eq_true rfl) ⟨Nat.le_of_ble_eq_true rfl, Nat.le_of_ble_eq_true rfl⟩ d_Model_failing_27 (fun H locs hB => ?_)
      refine lv_if_eq (tgt := 44) hx hb d_Model_failing_30 (by decide) (fun c_30 => ?_) (fun c_30 => ?_)
      · rw [if_pos c_30]
        refine lv_iconst (v := 2) hx hb d_Model_failing_44 (by decide) ?_
        refine lv_goto (tgt := 62) hx hb d_Model_failing_45 (by decide) ?_
        refine zw_putI X hB fp_Model_85 (fun h => by cases h) 32 (hm 32 _ rfl) rfl d_Model_failing_62 (fun H locs hB => ?_)
        obtain ⟨mi_2, emi_2⟩ : ∃ y, y = zw_up mi 32 0 2 := ⟨_, rfl⟩
        rw [← emi_2] at hB
        refine lv_aload_n hx hb d_Model_failing_65 rfl (lv_at hl 0 rfl) ?_
        refine zw_getI X hB fl_Model_85 32 (hm 32 _ rfl) rfl d_Model_failing_66 ?_
        refine lv_if_le (tgt := 74) hx hb d_Model_failing_69 (by decide) (fun c_69 => ?_) (fun c_69 => ?_)
        · exact absurd c_69 (by rw [emi_2, zw_up_self]; decide)
        · refine lv_iconst (v := 0) hx hb d_Model_failing_72 (by decide) ?_
          exact zc_iret X hr hlocks hB (by subst emi_2; rfl) (by subst emi_2; rfl) (by subst emi_2; rfl) d_Model_failing_73
      · rw [if_neg c_30]
        refine lv_iload hx hb d_Model_failing_33 (lv_at hl 4 rfl) ?_
        refine lv_iconst (v := 1) hx hb d_Model_failing_35 (by decide) ?_
        refine lv_bipush (v := 9) hx hb d_Model_failing_36 (by decide) ?_
        refine zw_callSr X hB mv_Model_92 (c_Model_isIn hm z mi ml t 1 9) rfl hl.1 ⟨Nat.le_of_ble_eq_true rfl, Nat.le_of_ble_eq_true rfl⟩ rfl (Nat.le_of_ble_eq_true rfl) ⟨Nat.le_of_ble_eq_true rfl, Nat.le_of_ble_eq_true rfl⟩ d_Model_failing_38 (fun H locs hB => ?_)
        refine lv_if_ne (tgt := 48) hx hb d_Model_failing_41 (by decide) (fun c_41 => ?_) (fun c_41 => ?_)
        · rw [if_neg c_41]
          refine lv_aload_n hx hb d_Model_failing_48 rfl (lv_at hl 0 rfl) ?_
          refine zw_getI X hB fl_Model_96 32 (hm 32 _ rfl) rfl d_Model_failing_49 ?_
          refine lv_bipush (v := 8) hx hb d_Model_failing_52 (by decide) ?_
          refine lv_icmp_ne (tgt := 61) hx hb d_Model_failing_54 (by decide) (fun c_54 => ?_) (fun c_54 => ?_)
          · rw [if_neg c_54]
            refine lv_iconst (v := 0) hx hb d_Model_failing_61 (by decide) ?_
            refine zw_putI X hB fp_Model_85 (fun h => by cases h) 32 (hm 32 _ rfl) rfl d_Model_failing_62 (fun H locs hB => ?_)
            obtain ⟨mi_3, emi_3⟩ : ∃ y, y = zw_up mi 32 0 0 := ⟨_, rfl⟩
            rw [← emi_3] at hB
            refine lv_aload_n hx hb d_Model_failing_65 rfl (lv_at hl 0 rfl) ?_
            refine zw_getI X hB fl_Model_85 32 (hm 32 _ rfl) rfl d_Model_failing_66 ?_
            refine lv_if_le (tgt := 74) hx hb d_Model_failing_69 (by decide) (fun c_69 => ?_) (fun c_69 => ?_)
            · refine lv_aload_n hx hb d_Model_failing_74 rfl (lv_at hl 0 rfl) ?_
              refine zw_getR X hB fl_Model_32 32 (hm 32 _ rfl) rfl d_Model_failing_75 ?_
              refine lv_aload_n hx hb d_Model_failing_78 rfl (lv_at hl 0 rfl) ?_
              refine zw_getI X hB fl_Model_96 32 (hm 32 _ rfl) rfl d_Model_failing_79 ?_
              refine lv_iload_n hx hb d_Model_failing_82 rfl (lv_at hl 1 rfl) ?_
              refine zw_iast X hB 40 (hm 40 _ rfl) (by subst_vars; simpa [zw_up] using h1 c_54) d_Model_failing_83 (fun H locs hB => ?_)
              obtain ⟨mi_4, emi_4⟩ : ∃ y, y = zw_up mi_3 40 (mi_3 32 15).toNatClampNeg w := ⟨_, rfl⟩
              rw [← emi_4] at hB
              refine lv_aload_n hx hb d_Model_failing_84 rfl (lv_at hl 0 rfl) ?_
              refine zw_getR X hB fl_Model_35 32 (hm 32 _ rfl) rfl d_Model_failing_85 ?_
              refine lv_aload_n hx hb d_Model_failing_88 rfl (lv_at hl 0 rfl) ?_
              refine zw_getI X hB fl_Model_96 32 (hm 32 _ rfl) rfl d_Model_failing_89 ?_
              refine lv_iload_n hx hb d_Model_failing_92 rfl (lv_at hl 2 rfl) ?_
              refine zw_iast X hB 41 (hm 41 _ rfl) (by subst_vars; simpa [zw_up] using h1 c_54) d_Model_failing_93 (fun H locs hB => ?_)
              obtain ⟨mi_5, emi_5⟩ : ∃ y, y = zw_up mi_4 41 (mi_4 32 15).toNatClampNeg x := ⟨_, rfl⟩
              rw [← emi_5] at hB
              refine lv_aload_n hx hb d_Model_failing_94 rfl (lv_at hl 0 rfl) ?_
              refine zw_getR X hB fl_Model_38 32 (hm 32 _ rfl) rfl d_Model_failing_95 ?_
              refine lv_aload_n hx hb d_Model_failing_98 rfl (lv_at hl 0 rfl) ?_
              refine zw_getI X hB fl_Model_96 32 (hm 32 _ rfl) rfl d_Model_failing_99 ?_
              refine lv_iload_n hx hb d_Model_failing_102 rfl (lv_at hl 3 rfl) ?_
              refine zw_iast X hB 42 (hm 42 _ rfl) (by subst_vars; simpa [zw_up] using h1 c_54) d_Model_failing_103 (fun H locs hB => ?_)
              obtain ⟨mi_6, emi_6⟩ : ∃ y, y = zw_up mi_5 42 (mi_5 32 15).toNatClampNeg s0 := ⟨_, rfl⟩
              rw [← emi_6] at hB
              refine lv_aload_n hx hb d_Model_failing_104 rfl (lv_at hl 0 rfl) ?_
              refine zw_getR X hB fl_Model_41 32 (hm 32 _ rfl) rfl d_Model_failing_105 ?_
              refine lv_aload_n hx hb d_Model_failing_108 rfl (lv_at hl 0 rfl) ?_
              refine zw_getI X hB fl_Model_96 32 (hm 32 _ rfl) rfl d_Model_failing_109 ?_
              refine lv_iload hx hb d_Model_failing_112 (lv_at hl 4 rfl) ?_
              refine zw_iast X hB 43 (hm 43 _ rfl) (by subst_vars; simpa [zw_up] using h1 c_54) d_Model_failing_114 (fun H locs hB => ?_)
              obtain ⟨mi_7, emi_7⟩ : ∃ y, y = zw_up mi_6 43 (mi_6 32 15).toNatClampNeg t := ⟨_, rfl⟩
              rw [← emi_7] at hB
              refine lv_aload_n hx hb d_Model_failing_115 rfl (lv_at hl 0 rfl) ?_
              refine lv_dup hx hb d_Model_failing_116 rfl ?_
              refine zw_getI X hB fl_Model_96 32 (hm 32 _ rfl) rfl d_Model_failing_117 ?_
              refine lv_iconst (v := 1) hx hb d_Model_failing_120 (by decide) ?_
              refine lv_iadd hx hb d_Model_failing_121 ?_
              refine zw_putI X hB fp_Model_96 (fun h => by cases h) 32 (hm 32 _ rfl) rfl d_Model_failing_122 (fun H locs hB => ?_)
              obtain ⟨mi_8, emi_8⟩ : ∃ y, y = zw_up mi_7 32 15 ((mi_7 32 15) + 1) := ⟨_, rfl⟩
              rw [← emi_8] at hB
              refine lv_aload_n hx hb d_Model_failing_125 rfl (lv_at hl 0 rfl) ?_
              refine zw_getI X hB fl_Model_96 32 (hm 32 _ rfl) rfl d_Model_failing_126 ?_
              exact zc_iret X hr hlocks hB (by subst emi_8; subst emi_7; subst emi_6; subst emi_5; subst emi_4; subst emi_3; rfl) (by subst emi_8; subst emi_7; subst emi_6; subst emi_5; subst emi_4; subst emi_3; rfl) (by subst emi_8; subst emi_7; subst emi_6; subst emi_5; subst emi_4; subst emi_3; rfl) d_Model_failing_129
            · exact absurd (by rw [emi_3, zw_up_self]; decide) c_69
          · rw [if_pos c_54]
            refine lv_iconst (v := 3) hx hb d_Model_failing_57 (by decide) ?_
            refine lv_goto (tgt := 62) hx hb d_Model_failing_58 (by decide) ?_
            refine zw_putI X hB fp_Model_85 (fun h => by cases h) 32 (hm 32 _ rfl) rfl d_Model_failing_62 (fun H locs hB => ?_)
            obtain ⟨mi_9, emi_9⟩ : ∃ y, y = zw_up mi 32 0 3 := ⟨_, rfl⟩
            rw [← emi_9] at hB
            refine lv_aload_n hx hb d_Model_failing_65 rfl (lv_at hl 0 rfl) ?_
            refine zw_getI X hB fl_Model_85 32 (hm 32 _ rfl) rfl d_Model_failing_66 ?_
            refine lv_if_le (tgt := 74) hx hb d_Model_failing_69 (by decide) (fun c_69 => ?_) (fun c_69 => ?_)
            · exact absurd c_69 (by rw [emi_9, zw_up_self]; decide)
            · refine lv_iconst (v := 0) hx hb d_Model_failing_72 (by decide) ?_
              exact zc_iret X hr hlocks hB (by subst emi_9; rfl) (by subst emi_9; rfl) (by subst emi_9; rfl) d_Model_failing_73
        · rw [if_pos c_41]
          refine lv_iconst (v := 2) hx hb d_Model_failing_44 (by decide) ?_
          refine lv_goto (tgt := 62) hx hb d_Model_failing_45 (by decide) ?_
          refine zw_putI X hB fp_Model_85 (fun h => by cases h) 32 (hm 32 _ rfl) rfl d_Model_failing_62 (fun H locs hB => ?_)
          obtain ⟨mi_10, emi_10⟩ : ∃ y, y = zw_up mi 32 0 2 := ⟨_, rfl⟩
          rw [← emi_10] at hB
          refine lv_aload_n hx hb d_Model_failing_65 rfl (lv_at hl 0 rfl) ?_
          refine zw_getI X hB fl_Model_85 32 (hm 32 _ rfl) rfl d_Model_failing_66 ?_
          refine lv_if_le (tgt := 74) hx hb d_Model_failing_69 (by decide) (fun c_69 => ?_) (fun c_69 => ?_)
          · exact absurd c_69 (by rw [emi_10, zw_up_self]; decide)
          · refine lv_iconst (v := 0) hx hb d_Model_failing_72 (by decide) ?_
            exact zc_iret X hr hlocks hB (by subst emi_10; rfl) (by subst emi_10; rfl) (by subst emi_10; rfl) d_Model_failing_73
  · rw [if_pos c_6]
    refine lv_iconst (v := 1) hx hb d_Model_failing_9 (by decide) ?_
    refine lv_goto (tgt := 62) hx hb d_Model_failing_10 (by decide) ?_
    refine zw_putI X hB fp_Model_85 (fun h => by cases h) 32 (hm 32 _ rfl) rfl d_Model_failing_62 (fun H locs hB => ?_)
    obtain ⟨mi_11, emi_11⟩ : ∃ y, y = zw_up mi 32 0 1 := ⟨_, rfl⟩
    rw [← emi_11] at hB
    refine lv_aload_n hx hb d_Model_failing_65 rfl (lv_at hl 0 rfl) ?_
    refine zw_getI X hB fl_Model_85 32 (hm 32 _ rfl) rfl d_Model_failing_66 ?_
    refine lv_if_le (tgt := 74) hx hb d_Model_failing_69 (by decide) (fun c_69 => ?_) (fun c_69 => ?_)
    · exact absurd c_69 (by rw [emi_11, zw_up_self]; decide)
    · refine lv_iconst (v := 0) hx hb d_Model_failing_72 (by decide) ?_
      exact zc_iret X hr hlocks hB (by subst emi_11; rfl) (by subst emi_11; rfl) (by subst emi_11; rfl) d_Model_failing_73

set_option maxHeartbeats 4000000 in
set_option maxRecDepth 100000 in
theorem c_Model_stop {l : Launch} {D : va_G} {cA : Nat → ClassId} {ad : Nat → Nat} {sh : zw_Sh} (hm : ∀ (k : Nat) (q : zw_Sp), shM k = some q → sh k = some q) (z : Nat) (mi : zw_I) (ml : zw_L) (x : Int32) :
    zc_M l D cA Y_Model_stop 1 0 0 ad sh sh z [.ref (ad 32), .int x] mi ml (some (.int ((q_stop mi x).1))) ((q_stop mi x).2) ml z := by
  refine zc_enter (own := R_Model) (by decide) rfl (Nat.le_of_ble_eq_true rfl) ?_
  intro p e s m below meth c X hr hlocks hnm hB ls hl
  have X : zw_C D cA R_Model prog_9_method_9_code 3 p m c s := X
  have hr : meth.sig.returnType = (some FieldType.int) := hr
  have hx := X.1
  have hb := X.2.1
  have hl : lv_has ls 3 [(0, .ref (ad 32)), (1, .int x)] := hl
  unfold q_stop
  refine lv_aload_n hx hb d_Model_stop_0 rfl (lv_at hl 0 rfl) ?_
  refine lv_iload_n hx hb d_Model_stop_1 rfl (lv_at hl 1 rfl) ?_
  refine lv_iconst (v := (-1)) hx hb d_Model_stop_2 (by decide) ?_
  refine lv_icmp_eq (tgt := 14) hx hb d_Model_stop_3 (by decide) (fun c_3 => ?_) (fun c_3 => ?_)
  · rw [if_pos c_3]
    refine lv_iconst (v := 0) hx hb d_Model_stop_14 (by decide) ?_
    refine lv_goto (tgt := 19) hx hb d_Model_stop_15 (by decide) ?_
    refine zw_putI X hB fp_Model_85 (fun h => by cases h) 32 (hm 32 _ rfl) rfl d_Model_stop_19 (fun H locs hB => ?_)
    obtain ⟨mi_1, emi_1⟩ : ∃ y, y = zw_up mi 32 0 0 := ⟨_, rfl⟩
    rw [← emi_1] at hB
    refine lv_aload_n hx hb d_Model_stop_22 rfl (lv_at hl 0 rfl) ?_
    refine zw_getI X hB fl_Model_85 32 (hm 32 _ rfl) rfl d_Model_stop_23 ?_
    refine lv_if_le (tgt := 31) hx hb d_Model_stop_26 (by decide) (fun c_26 => ?_) (fun c_26 => ?_)
    · refine lv_aload_n hx hb d_Model_stop_31 rfl (lv_at hl 0 rfl) ?_
      refine zw_getI X hB fl_Model_99 32 (hm 32 _ rfl) rfl d_Model_stop_32 ?_
      refine lv_istore_n (lv' := [(2, .int (mi_1 32 16)), (0, .ref (ad 32)), (1, .int x)]) hx hb d_Model_stop_35 rfl hl (by decide) rfl (fun ls hl => ?_)
      refine lv_aload_n hx hb d_Model_stop_36 rfl (lv_at hl 1 rfl) ?_
      refine lv_iload_n hx hb d_Model_stop_37 rfl (lv_at hl 2 rfl) ?_
      refine zw_putI X hB fp_Model_99 (fun h => by cases h) 32 (hm 32 _ rfl) rfl d_Model_stop_38 (fun H locs hB => ?_)
      obtain ⟨mi_2, emi_2⟩ : ∃ y, y = zw_up mi_1 32 16 x := ⟨_, rfl⟩
      rw [← emi_2] at hB
      refine lv_iload_n hx hb d_Model_stop_41 rfl (lv_at hl 0 rfl) ?_
      exact zc_iret X hr hlocks hB (by subst emi_2; subst emi_1; rfl) (by subst emi_2; subst emi_1; rfl) (by subst emi_2; subst emi_1; rfl) d_Model_stop_42
    · exact absurd (by rw [emi_1, zw_up_self]; decide) c_26
  · rw [if_neg c_3]
    refine lv_aload_n hx hb d_Model_stop_6 rfl (lv_at hl 0 rfl) ?_
    refine lv_iload_n hx hb d_Model_stop_7 rfl (lv_at hl 1 rfl) ?_
    refine zw_callVr X hB mv_Model_88 32 (hm 32 _ rfl) rfl (c_Model_isShare hm z mi ml x) rfl hl.1 ⟨Nat.le_of_ble_eq_true rfl, Nat.le_of_ble_eq_true rfl⟩ rfl (Nat.le_of_ble_eq_true rfl) ⟨Nat.le_of_ble_eq_true rfl, Nat.le_of_ble_eq_true rfl⟩ d_Model_stop_8 (fun H locs hB => ?_)
    refine lv_if_eq (tgt := 18) hx hb d_Model_stop_11 (by decide) (fun c_11 => ?_) (fun c_11 => ?_)
    · rw [if_pos c_11]
      refine lv_iconst (v := 1) hx hb d_Model_stop_18 (by decide) ?_
      refine zw_putI X hB fp_Model_85 (fun h => by cases h) 32 (hm 32 _ rfl) rfl d_Model_stop_19 (fun H locs hB => ?_)
      obtain ⟨mi_3, emi_3⟩ : ∃ y, y = zw_up mi 32 0 1 := ⟨_, rfl⟩
      rw [← emi_3] at hB
      refine lv_aload_n hx hb d_Model_stop_22 rfl (lv_at hl 0 rfl) ?_
      refine zw_getI X hB fl_Model_85 32 (hm 32 _ rfl) rfl d_Model_stop_23 ?_
      refine lv_if_le (tgt := 31) hx hb d_Model_stop_26 (by decide) (fun c_26 => ?_) (fun c_26 => ?_)
      · exact absurd c_26 (by rw [emi_3, zw_up_self]; decide)
      · refine lv_iconst (v := 0) hx hb d_Model_stop_29 (by decide) ?_
        exact zc_iret X hr hlocks hB (by subst emi_3; rfl) (by subst emi_3; rfl) (by subst emi_3; rfl) d_Model_stop_30
    · rw [if_neg c_11]
      refine lv_iconst (v := 0) hx hb d_Model_stop_14 (by decide) ?_
      refine lv_goto (tgt := 19) hx hb d_Model_stop_15 (by decide) ?_
      refine zw_putI X hB fp_Model_85 (fun h => by cases h) 32 (hm 32 _ rfl) rfl d_Model_stop_19 (fun H locs hB => ?_)
      obtain ⟨mi_4, emi_4⟩ : ∃ y, y = zw_up mi 32 0 0 := ⟨_, rfl⟩
      rw [← emi_4] at hB
      refine lv_aload_n hx hb d_Model_stop_22 rfl (lv_at hl 0 rfl) ?_
      refine zw_getI X hB fl_Model_85 32 (hm 32 _ rfl) rfl d_Model_stop_23 ?_
      refine lv_if_le (tgt := 31) hx hb d_Model_stop_26 (by decide) (fun c_26 => ?_) (fun c_26 => ?_)
      · refine lv_aload_n hx hb d_Model_stop_31 rfl (lv_at hl 0 rfl) ?_
        refine zw_getI X hB fl_Model_99 32 (hm 32 _ rfl) rfl d_Model_stop_32 ?_
        refine lv_istore_n (lv' := [(2, .int (mi_4 32 16)), (0, .ref (ad 32)), (1, .int x)]) hx hb d_Model_stop_35 rfl hl (by decide) rfl (fun ls hl => ?_)
        refine lv_aload_n hx hb d_Model_stop_36 rfl (lv_at hl 1 rfl) ?_
        refine lv_iload_n hx hb d_Model_stop_37 rfl (lv_at hl 2 rfl) ?_
        refine zw_putI X hB fp_Model_99 (fun h => by cases h) 32 (hm 32 _ rfl) rfl d_Model_stop_38 (fun H locs hB => ?_)
        obtain ⟨mi_5, emi_5⟩ : ∃ y, y = zw_up mi_4 32 16 x := ⟨_, rfl⟩
        rw [← emi_5] at hB
        refine lv_iload_n hx hb d_Model_stop_41 rfl (lv_at hl 0 rfl) ?_
        exact zc_iret X hr hlocks hB (by subst emi_5; subst emi_4; rfl) (by subst emi_5; subst emi_4; rfl) (by subst emi_5; subst emi_4; rfl) d_Model_stop_42
      · exact absurd (by rw [emi_4, zw_up_self]; decide) c_26

set_option maxHeartbeats 4000000 in
set_option maxRecDepth 100000 in
theorem c_Model_waitsFor {l : Launch} {D : va_G} {cA : Nat → ClassId} {ad : Nat → Nat} {sh : zw_Sh} (hm : ∀ (k : Nat) (q : zw_Sp), shM k = some q → sh k = some q) (z : Nat) (mi : zw_I) (ml : zw_L) (x : Int32) (h1 : vp_in x 16) (w : Nat) (hw : w ≤ 6) (ew : mi 36 x.toNatClampNeg = nI w) (hat : ∀ k : Nat, k < 6 → vp_in (6 * x + nI k) 96) (ho : ∀ k : Nat, k < 96 → vp_in (mi 38 k) 16) :
    zc_M l D cA Y_Model_waitsFor 0 0 0 ad sh sh z [.ref (ad 32), .int x] mi ml (some (.int (q_waits mi x 7 0))) mi ml z := by
  refine zc_enter (own := R_Model) (by decide) rfl (Nat.le_of_ble_eq_true rfl) ?_
  intro p e s m below meth c X hr hlocks hnm hB ls hl
  have X : zw_C D cA R_Model prog_9_method_10_code 4 p m c s := X
  have hr : meth.sig.returnType = (some FieldType.int) := hr
  have hx := X.1
  have hb := X.2.1
  have hl : lv_has ls 4 [(0, .ref (ad 32)), (1, .int x)] := hl
  have loop : ∀ (f i : Nat)  (H : Heap) (locs : List Loc) (ls : Array Slot), i + f = 7 → i ≤ w → zw_B D cA ad sh (zw_A ad sh z) s.heap mi ml z H locs → lv_has ls 4 [(2, .int (nI i)), (0, .ref (ad 32)), (1, .int x)] →
      zc_W l D cA ad sh sh z [.ref (ad 32), .int x] 0 0 0 (some (.int (q_waits mi x f (nI i)))) mi ml z p e s m below meth c H locs 0 0 (F0 m 2 ls []) := by
    intro f
    induction f with
    | zero =>
      intro i   H locs ls hi h2 hB hl
      omega
    | succ f ih =>
      intro i   H locs ls hi h2 hB hl
      rw [q_waits]
      refine lv_iload_n hx hb d_Model_waitsFor_2 rfl (lv_at hl 0 rfl) ?_
      refine lv_aload_n hx hb d_Model_waitsFor_3 rfl (lv_at hl 1 rfl) ?_
      refine zw_getR X hB fl_Model_20 32 (hm 32 _ rfl) rfl d_Model_waitsFor_4 ?_
      refine lv_iload_n hx hb d_Model_waitsFor_7 rfl (lv_at hl 2 rfl) ?_
      refine zw_iald X hB 36 (hm 36 _ rfl) h1 d_Model_waitsFor_8 ?_
      refine lv_icmp_ge (tgt := 62) hx hb d_Model_waitsFor_9 (by decide) (fun c_9 => ?_) (fun c_9 => ?_)
      · rw [if_pos c_9]
        refine lv_iconst (v := (-1)) hx hb d_Model_waitsFor_62 (by decide) ?_
        exact zc_iret X hr hlocks hB (by rfl) (by rfl) (by rfl) d_Model_waitsFor_63
      · rw [if_neg c_9]
        have hlt : i < w := zn_lt (by omega) (by rw [← ew]; exact c_9)
        have hin := hat i (by omega)
        have ho1 := ho _ (vlt hin)
        refine lv_bipush (v := 6) hx hb d_Model_waitsFor_12 (by decide) ?_
        refine lv_iload_n hx hb d_Model_waitsFor_14 rfl (lv_at hl 2 rfl) ?_
        refine lv_imul hx hb d_Model_waitsFor_15 ?_
        refine lv_iload_n hx hb d_Model_waitsFor_16 rfl (lv_at hl 0 rfl) ?_
        refine lv_iadd hx hb d_Model_waitsFor_17 ?_
        refine lv_istore_n (lv' := [(3, .int ((6 * x) + (nI i))), (2, .int (nI i)), (0, .ref (ad 32)), (1, .int x)]) hx hb d_Model_waitsFor_18 rfl hl (by decide) rfl (fun ls hl => ?_)
        refine lv_aload_n hx hb d_Model_waitsFor_19 rfl (lv_at hl 2 rfl) ?_
        refine zw_getR X hB fl_Model_23 32 (hm 32 _ rfl) rfl d_Model_waitsFor_20 ?_
        refine lv_iload_n hx hb d_Model_waitsFor_23 rfl (lv_at hl 0 rfl) ?_
        refine zw_iald X hB 37 (hm 37 _ rfl) hin d_Model_waitsFor_24 ?_
        refine lv_aload_n hx hb d_Model_waitsFor_25 rfl (lv_at hl 2 rfl) ?_
        refine zw_getR X hB fl_Model_57 32 (hm 32 _ rfl) rfl d_Model_waitsFor_26 ?_
        refine lv_iload_n hx hb d_Model_waitsFor_29 rfl (lv_at hl 3 rfl) ?_
        refine zw_iald X hB 48 (hm 48 _ rfl) h1 d_Model_waitsFor_30 ?_
        refine lv_icmp_ne (tgt := 56) hx hb d_Model_waitsFor_31 (by decide) (fun c_31 => ?_) (fun c_31 => ?_)
        · rw [if_neg c_31]
          refine lv_iinc (v := nI (i + 1)) (lv' := [(2, .int (nI (i + 1))), (3, .int ((6 * x) + (nI i))), (0, .ref (ad 32)), (1, .int x)]) hx hb d_Model_waitsFor_56 hl (k := 1) rfl (nI_1 i) (by decide) rfl (fun ls hl => ?_)
          refine lv_goto (tgt := 2) hx hb d_Model_waitsFor_59 (by decide) ?_
          rw [nI_1 i]
          exact ih (i + 1)   H locs ls (by omega) (by omega) hB (lv_sub hl [0, 2, 3] rfl)
        · rw [if_pos c_31]
          refine lv_aload_n hx hb d_Model_waitsFor_34 rfl (lv_at hl 2 rfl) ?_
          refine zw_getR X hB fl_Model_57 32 (hm 32 _ rfl) rfl d_Model_waitsFor_35 ?_
          refine lv_aload_n hx hb d_Model_waitsFor_38 rfl (lv_at hl 2 rfl) ?_
          refine zw_getR X hB fl_Model_26 32 (hm 32 _ rfl) rfl d_Model_waitsFor_39 ?_
          refine lv_iload_n hx hb d_Model_waitsFor_42 rfl (lv_at hl 0 rfl) ?_
          refine zw_iald X hB 38 (hm 38 _ rfl) hin d_Model_waitsFor_43 ?_
          refine zw_iald X hB 48 (hm 48 _ rfl) ho1 d_Model_waitsFor_44 ?_
          refine lv_aload_n hx hb d_Model_waitsFor_45 rfl (lv_at hl 2 rfl) ?_
          refine zw_getR X hB fl_Model_29 32 (hm 32 _ rfl) rfl d_Model_waitsFor_46 ?_
          refine lv_iload_n hx hb d_Model_waitsFor_49 rfl (lv_at hl 0 rfl) ?_
          refine zw_iald X hB 39 (hm 39 _ rfl) hin d_Model_waitsFor_50 ?_
          refine lv_icmp_ge (tgt := 56) hx hb d_Model_waitsFor_51 (by decide) (fun c_51 => ?_) (fun c_51 => ?_)
          · rw [if_pos c_51]
            refine lv_iinc (v := nI (i + 1)) (lv' := [(2, .int (nI (i + 1))), (3, .int ((6 * x) + (nI i))), (0, .ref (ad 32)), (1, .int x)]) hx hb d_Model_waitsFor_56 hl (k := 1) rfl (nI_1 i) (by decide) rfl (fun ls hl => ?_)
            refine lv_goto (tgt := 2) hx hb d_Model_waitsFor_59 (by decide) ?_
            rw [nI_1 i]
            exact ih (i + 1)   H locs ls (by omega) (by omega) hB (lv_sub hl [0, 2, 3] rfl)
          · rw [if_neg c_51]
            refine lv_iload_n hx hb d_Model_waitsFor_54 rfl (lv_at hl 0 rfl) ?_
            exact zc_iret X hr hlocks hB (by rfl) (by rfl) (by rfl) d_Model_waitsFor_55
  refine lv_iconst (v := 0) hx hb d_Model_waitsFor_0 (by decide) ?_
  refine lv_istore_n (lv' := [(2, .int 0), (0, .ref (ad 32)), (1, .int x)]) hx hb d_Model_waitsFor_1 rfl hl (by decide) rfl (fun ls hl => ?_)
  exact loop 7 0  _ _ ls rfl (by omega) hB (lv_sub hl [0, 1, 2] rfl)

set_option maxHeartbeats 4000000 in
set_option maxRecDepth 100000 in
theorem c_Model_canTake {l : Launch} {D : va_G} {cA : Nat → ClassId} {ad : Nat → Nat} {sh : zw_Sh} (hm : ∀ (k : Nat) (q : zw_Sp), shM k = some q → sh k = some q) (z : Nat) (mi : zw_I) (ml : zw_L) (h1 : vp_in (mi 50 (0 : Int32).toNatClampNeg) 16) :
    zc_M l D cA Y_Model_canTake 0 0 0 ad sh sh z [.ref (ad 32)] mi ml (some (.int (q_canTake mi))) mi ml z := by
  refine zc_enter (own := R_Model) (by decide) rfl (Nat.le_of_ble_eq_true rfl) ?_
  intro p e s m below meth c X hr hlocks hnm hB ls hl
  have X : zw_C D cA R_Model prog_9_method_11_code 1 p m c s := X
  have hr : meth.sig.returnType = (some FieldType.boolean) := hr
  have hx := X.1
  have hb := X.2.1
  have hl : lv_has ls 1 [(0, .ref (ad 32))] := hl
  unfold q_canTake
  refine lv_aload_n hx hb d_Model_canTake_0 rfl (lv_at hl 0 rfl) ?_
  refine zw_getI X hB fl_Model_102 32 (hm 32 _ rfl) rfl d_Model_canTake_1 ?_
  refine lv_if_le (tgt := 34) hx hb d_Model_canTake_4 (by decide) (fun c_4 => ?_) (fun c_4 => ?_)
  · rw [if_pos c_4]
    refine lv_iconst (v := 0) hx hb d_Model_canTake_34 (by decide) ?_
    exact zc_zret X hr hlocks hB (by rfl) (by rfl) (by rfl) (by rfl) d_Model_canTake_35
  · rw [if_neg c_4]
    refine lv_aload_n hx hb d_Model_canTake_7 rfl (lv_at hl 0 rfl) ?_
    refine zw_getI X hB fl_Model_105 32 (hm 32 _ rfl) rfl d_Model_canTake_8 ?_
    refine lv_aload_n hx hb d_Model_canTake_11 rfl (lv_at hl 0 rfl) ?_
    refine zw_getR X hB fl_Model_13 32 (hm 32 _ rfl) rfl d_Model_canTake_12 ?_
    refine lv_aload_n hx hb d_Model_canTake_15 rfl (lv_at hl 0 rfl) ?_
    refine zw_getR X hB fl_Model_63 32 (hm 32 _ rfl) rfl d_Model_canTake_16 ?_
    refine lv_iconst (v := 0) hx hb d_Model_canTake_19 (by decide) ?_
    refine zw_iald X hB 50 (hm 50 _ rfl) (vp_in_nI (n := 0) (by decide) (by decide)) d_Model_canTake_20 ?_
    refine zw_iald X hB 34 (hm 34 _ rfl) h1 d_Model_canTake_21 ?_
    refine lv_iadd hx hb d_Model_canTake_22 ?_
    refine lv_aload_n hx hb d_Model_canTake_23 rfl (lv_at hl 0 rfl) ?_
    refine zw_getI X hB fl_Model_79 32 (hm 32 _ rfl) rfl d_Model_canTake_24 ?_
    refine lv_icmp_gt (tgt := 34) hx hb d_Model_canTake_27 (by decide) (fun c_27 => ?_) (fun c_27 => ?_)
    · rw [if_pos c_27]
      refine lv_iconst (v := 0) hx hb d_Model_canTake_34 (by decide) ?_
      exact zc_zret X hr hlocks hB (by rfl) (by rfl) (by rfl) (by rfl) d_Model_canTake_35
    · rw [if_neg c_27]
      refine lv_iconst (v := 1) hx hb d_Model_canTake_30 (by decide) ?_
      refine lv_goto (tgt := 35) hx hb d_Model_canTake_31 (by decide) ?_
      exact zc_zret X hr hlocks hB (by rfl) (by rfl) (by rfl) (by rfl) d_Model_canTake_35

set_option maxHeartbeats 4000000 in
set_option maxRecDepth 100000 in
theorem c_Model_take {l : Launch} {D : va_G} {cA : Nat → ClassId} {ad : Nat → Nat} {sh : zw_Sh} (hm : ∀ (k : Nat) (q : zw_Sp), shM k = some q → sh k = some q) (z : Nat) (mi : zw_I) (ml : zw_L) (wk : Int32) (hw : vp_in wk 16) (h1 : vp_in (mi 50 (0 : Int32).toNatClampNeg) 16) (q : Nat) (hq : q < 16) (eq : mi 32 23 = nI (q + 1)) :
    zc_M l D cA Y_Model_take 0 0 0 ad sh sh z [.ref (ad 32), .int wk] mi ml none (q_take wk mi) ml z := by
  refine zc_enter (own := R_Model) (by decide) rfl (Nat.le_of_ble_eq_true rfl) ?_
  intro p e s m below meth c X hr hlocks hnm hB ls hl
  have X : zw_C D cA R_Model prog_9_method_12_code 4 p m c s := X
  have hr : meth.sig.returnType = none := hr
  have hx := X.1
  have hb := X.2.1
  have hl : lv_has ls 4 [(0, .ref (ad 32)), (1, .int wk)] := hl
  have loop : ∀ (f i : Nat) (x : Int32) (mi : zw_I) (H : Heap) (locs : List Loc) (ls : Array Slot), i + f = 17 → i ≤ q → mi 32 23 = nI q → vp_in x 16 → zw_B D cA ad sh (zw_A ad sh z) s.heap mi ml z H locs → lv_has ls 4 [(3, .int (nI i)), (2, .int x), (0, .ref (ad 32)), (1, .int wk)] →
      zc_W l D cA ad sh sh z [.ref (ad 32), .int wk] 0 0 0 none (q_take1 wk x (q_shift f (nI i) mi)) ml z p e s m below meth c H locs 0 0 (F0 m 19 ls []) := by
    intro f
    induction f with
    | zero =>
      intro i x mi H locs ls hi h2 eq hx1 hB hl
      omega
    | succ f ih =>
      intro i x mi H locs ls hi h2 eq hx1 hB hl
      rw [q_shift]
      refine lv_iload_n hx hb d_Model_take_19 rfl (lv_at hl 0 rfl) ?_
      refine lv_aload_n hx hb d_Model_take_20 rfl (lv_at hl 2 rfl) ?_
      refine zw_getI X hB fl_Model_102 32 (hm 32 _ rfl) rfl d_Model_take_21 ?_
      refine lv_icmp_ge (tgt := 47) hx hb d_Model_take_24 (by decide) (fun c_24 => ?_) (fun c_24 => ?_)
      · rw [if_pos c_24]
        have hx1 := hx1
        refine lv_aload_n hx hb d_Model_take_47 rfl (lv_at hl 2 rfl) ?_
        refine zw_getR X hB fl_Model_60 32 (hm 32 _ rfl) rfl d_Model_take_48 ?_
        refine lv_iload_n hx hb d_Model_take_51 rfl (lv_at hl 3 rfl) ?_
        refine lv_iload_n hx hb d_Model_take_52 rfl (lv_at hl 1 rfl) ?_
        refine zw_iast X hB 49 (hm 49 _ rfl) hw d_Model_take_53 (fun H locs hB => ?_)
        obtain ⟨mi_1, emi_1⟩ : ∃ y, y = zw_up mi 49 wk.toNatClampNeg x := ⟨_, rfl⟩
        rw [← emi_1] at hB
        refine lv_aload_n hx hb d_Model_take_54 rfl (lv_at hl 2 rfl) ?_
        refine zw_getR X hB fl_Model_69 32 (hm 32 _ rfl) rfl d_Model_take_55 ?_
        refine lv_iload_n hx hb d_Model_take_58 rfl (lv_at hl 1 rfl) ?_
        refine lv_dup2_11 hx hb d_Model_take_59 rfl rfl ?_
        refine zw_iald X hB 52 (hm 52 _ rfl) hx1 d_Model_take_60 ?_
        refine lv_iconst (v := 1) hx hb d_Model_take_61 (by decide) ?_
        refine lv_iadd hx hb d_Model_take_62 ?_
        refine zw_iast X hB 52 (hm 52 _ rfl) hx1 d_Model_take_63 (fun H locs hB => ?_)
        obtain ⟨mi_2, emi_2⟩ : ∃ y, y = zw_up mi_1 52 x.toNatClampNeg ((mi_1 52 x.toNatClampNeg) + 1) := ⟨_, rfl⟩
        rw [← emi_2] at hB
        refine lv_aload_n hx hb d_Model_take_64 rfl (lv_at hl 2 rfl) ?_
        refine lv_dup hx hb d_Model_take_65 rfl ?_
        refine zw_getI X hB fl_Model_105 32 (hm 32 _ rfl) rfl d_Model_take_66 ?_
        refine lv_aload_n hx hb d_Model_take_69 rfl (lv_at hl 2 rfl) ?_
        refine zw_getR X hB fl_Model_13 32 (hm 32 _ rfl) rfl d_Model_take_70 ?_
        refine lv_iload_n hx hb d_Model_take_73 rfl (lv_at hl 1 rfl) ?_
        refine zw_iald X hB 34 (hm 34 _ rfl) hx1 d_Model_take_74 ?_
        refine lv_iadd hx hb d_Model_take_75 ?_
        refine zw_putI X hB fp_Model_105 (fun h => by cases h) 32 (hm 32 _ rfl) rfl d_Model_take_76 (fun H locs hB => ?_)
        obtain ⟨mi_3, emi_3⟩ : ∃ y, y = zw_up mi_2 32 24 ((mi_2 32 24) + (mi_2 34 x.toNatClampNeg)) := ⟨_, rfl⟩
        rw [← emi_3] at hB
        refine lv_aload_n hx hb d_Model_take_79 rfl (lv_at hl 2 rfl) ?_
        refine lv_aload_n hx hb d_Model_take_80 rfl (lv_at hl 2 rfl) ?_
        refine zw_getI X hB fl_Model_105 32 (hm 32 _ rfl) rfl d_Model_take_81 ?_
        refine lv_aload_n hx hb d_Model_take_84 rfl (lv_at hl 2 rfl) ?_
        refine zw_getI X hB fl_Model_108 32 (hm 32 _ rfl) rfl d_Model_take_85 ?_
        refine lv_icmp_le (tgt := 98) hx hb d_Model_take_88 (by decide) (fun c_88 => ?_) (fun c_88 => ?_)
        · have hc88 := c_88
          refine lv_aload_n hx hb d_Model_take_98 rfl (lv_at hl 2 rfl) ?_
          refine zw_getI X hB fl_Model_108 32 (hm 32 _ rfl) rfl d_Model_take_99 ?_
          refine zw_putI X hB fp_Model_108 (fun h => by cases h) 32 (hm 32 _ rfl) rfl d_Model_take_102 (fun H locs hB => ?_)
          obtain ⟨mi_4, emi_4⟩ : ∃ y, y = zw_up mi_3 32 34 (mi_3 32 34) := ⟨_, rfl⟩
          rw [← emi_4] at hB
          exact zc_vret X hr hlocks hB rfl (by subst emi_4; subst emi_3; subst emi_2; subst emi_1; unfold q_take1 q_take2 q_take3 q_take4; rw [if_pos c_88]) rfl d_Model_take_105
        · have hc88 := c_88
          refine lv_aload_n hx hb d_Model_take_91 rfl (lv_at hl 2 rfl) ?_
          refine zw_getI X hB fl_Model_105 32 (hm 32 _ rfl) rfl d_Model_take_92 ?_
          refine lv_goto (tgt := 102) hx hb d_Model_take_95 (by decide) ?_
          refine zw_putI X hB fp_Model_108 (fun h => by cases h) 32 (hm 32 _ rfl) rfl d_Model_take_102 (fun H locs hB => ?_)
          obtain ⟨mi_5, emi_5⟩ : ∃ y, y = zw_up mi_3 32 34 (mi_3 32 24) := ⟨_, rfl⟩
          rw [← emi_5] at hB
          exact zc_vret X hr hlocks hB rfl (by subst emi_5; subst emi_3; subst emi_2; subst emi_1; unfold q_take1 q_take2 q_take3 q_take4; rw [if_neg c_88]) rfl d_Model_take_105
      · rw [if_neg c_24]
        have hlt : i < q := zn_lt (by omega) (by rw [← eq]; exact c_24)
        have hin : vp_in (nI i) 16 := vp_in_nI (by omega) (by decide)
        have hin1 : vp_in (nI i + 1) 16 := by rw [nI_1 i]; exact vp_in_nI (by omega) (by decide)
        refine lv_aload_n hx hb d_Model_take_27 rfl (lv_at hl 2 rfl) ?_
        refine zw_getR X hB fl_Model_63 32 (hm 32 _ rfl) rfl d_Model_take_28 ?_
        refine lv_iload_n hx hb d_Model_take_31 rfl (lv_at hl 0 rfl) ?_
        refine lv_aload_n hx hb d_Model_take_32 rfl (lv_at hl 2 rfl) ?_
        refine zw_getR X hB fl_Model_63 32 (hm 32 _ rfl) rfl d_Model_take_33 ?_
        refine lv_iload_n hx hb d_Model_take_36 rfl (lv_at hl 0 rfl) ?_
        refine lv_iconst (v := 1) hx hb d_Model_take_37 (by decide) ?_
        refine lv_iadd hx hb d_Model_take_38 ?_
        refine zw_iald X hB 50 (hm 50 _ rfl) hin1 d_Model_take_39 ?_
        refine zw_iast X hB 50 (hm 50 _ rfl) hin d_Model_take_40 (fun H locs hB => ?_)
        obtain ⟨mi_6, emi_6⟩ : ∃ y, y = zw_up mi 50 (nI i).toNatClampNeg (mi 50 ((nI i) + 1).toNatClampNeg) := ⟨_, rfl⟩
        rw [← emi_6] at hB
        refine lv_iinc (v := nI (i + 1)) (lv' := [(3, .int (nI (i + 1))), (2, .int x), (0, .ref (ad 32)), (1, .int wk)]) hx hb d_Model_take_41 hl (k := 0) rfl (nI_1 i) (by decide) rfl (fun ls hl => ?_)
        refine lv_goto (tgt := 19) hx hb d_Model_take_44 (by decide) ?_
        subst emi_6
        rw [nI_1 i] at hB ⊢
        exact ih (i + 1) _ _ H locs ls (by omega) (by omega) (by simpa [zw_up] using eq) hx1 hB (lv_sub hl [0, 1, 2, 3] rfl)
  refine lv_aload_n hx hb d_Model_take_0 rfl (lv_at hl 0 rfl) ?_
  refine zw_getR X hB fl_Model_63 32 (hm 32 _ rfl) rfl d_Model_take_1 ?_
  refine lv_iconst (v := 0) hx hb d_Model_take_4 (by decide) ?_
  refine zw_iald X hB 50 (hm 50 _ rfl) (vp_in_nI (n := 0) (by decide) (by decide)) d_Model_take_5 ?_
  refine lv_istore_n (lv' := [(2, .int (mi 50 (0 : Int32).toNatClampNeg)), (0, .ref (ad 32)), (1, .int wk)]) hx hb d_Model_take_6 rfl hl (by decide) rfl (fun ls hl => ?_)
  refine lv_aload_n hx hb d_Model_take_7 rfl (lv_at hl 1 rfl) ?_
  refine lv_dup hx hb d_Model_take_8 rfl ?_
  refine zw_getI X hB fl_Model_102 32 (hm 32 _ rfl) rfl d_Model_take_9 ?_
  refine lv_iconst (v := 1) hx hb d_Model_take_12 (by decide) ?_
  refine lv_isub hx hb d_Model_take_13 ?_
  refine zw_putI X hB fp_Model_102 (fun h => by cases h) 32 (hm 32 _ rfl) rfl d_Model_take_14 (fun H locs hB => ?_)
  obtain ⟨mi_1, emi_1⟩ : ∃ y, y = zw_up mi 32 23 ((mi 32 23) - 1) := ⟨_, rfl⟩
  rw [← emi_1] at hB
  refine lv_iconst (v := 0) hx hb d_Model_take_17 (by decide) ?_
  refine lv_istore_n (lv' := [(3, .int 0), (2, .int (mi 50 (0 : Int32).toNatClampNeg)), (0, .ref (ad 32)), (1, .int wk)]) hx hb d_Model_take_18 rfl hl (by decide) rfl (fun ls hl => ?_)
  subst emi_1
  exact loop 17 0 _ _ _ _ ls rfl (by omega) (by rw [zw_up_self, eq]; exact nI_pred q) h1 hB (lv_sub hl [0, 1, 2, 3] rfl)

set_option maxHeartbeats 4000000 in
set_option maxRecDepth 100000 in
theorem c_Model_fails {l : Launch} {D : va_G} {cA : Nat → ClassId} {ad : Nat → Nat} {sh : zw_Sh} (hm : ∀ (k : Nat) (q : zw_Sp), shM k = some q → sh k = some q) (z : Nat) (mi : zw_I) (ml : zw_L) (w0 : Int32) (x : Int32) (h1 : vp_in x 16) (w : Nat) (hw : w ≤ 8) (ew : mi 32 15 = nI w) :
    zc_M l D cA Y_Model_fails 0 0 0 ad sh sh z [.ref (ad 32), .int w0, .int x] mi ml (some (.int ((q_fails w0 x mi 9 0).1))) ((q_fails w0 x mi 9 0).2) ml z := by
  refine zc_enter (own := R_Model) (by decide) rfl (Nat.le_of_ble_eq_true rfl) ?_
  intro p e s m below meth c X hr hlocks hnm hB ls hl
  have X : zw_C D cA R_Model prog_9_method_13_code 4 p m c s := X
  have hr : meth.sig.returnType = (some FieldType.boolean) := hr
  have hx := X.1
  have hb := X.2.1
  have hl : lv_has ls 4 [(0, .ref (ad 32)), (1, .int w0), (2, .int x)] := hl
  have loop : ∀ (f i : Nat)  (H : Heap) (locs : List Loc) (ls : Array Slot), i + f = 9 → i ≤ w → zw_B D cA ad sh (zw_A ad sh z) s.heap mi ml z H locs → lv_has ls 4 [(3, .int (nI i)), (0, .ref (ad 32)), (1, .int w0), (2, .int x)] →
      zc_W l D cA ad sh sh z [.ref (ad 32), .int w0, .int x] 0 0 0 (some (.int ((q_fails w0 x mi f (nI i)).1))) ((q_fails w0 x mi f (nI i)).2) ml z p e s m below meth c H locs 0 0 (F0 m 2 ls []) := by
    intro f
    induction f with
    | zero =>
      intro i   H locs ls hi h2 hB hl
      omega
    | succ f ih =>
      intro i   H locs ls hi h2 hB hl
      rw [q_fails]
      refine lv_iload_n hx hb d_Model_fails_2 rfl (lv_at hl 0 rfl) ?_
      refine lv_aload_n hx hb d_Model_fails_3 rfl (lv_at hl 1 rfl) ?_
      refine zw_getI X hB fl_Model_96 32 (hm 32 _ rfl) rfl d_Model_fails_4 ?_
      refine lv_icmp_ge (tgt := 72) hx hb d_Model_fails_7 (by decide) (fun c_7 => ?_) (fun c_7 => ?_)
      · rw [if_pos c_7]
        refine lv_iconst (v := 0) hx hb d_Model_fails_72 (by decide) ?_
        exact zc_zret X hr hlocks hB (by rfl) (by rfl) (by rfl) (by rfl) d_Model_fails_73
      · rw [if_neg c_7]
        have hlt : i < w := zn_lt (by omega) (by rw [← ew]; exact c_7)
        have hin : vp_in (nI i) 8 := vp_in_nI (by omega) (by decide)
        refine lv_aload_n hx hb d_Model_fails_10 rfl (lv_at hl 1 rfl) ?_
        refine zw_getR X hB fl_Model_44 32 (hm 32 _ rfl) rfl d_Model_fails_11 ?_
        refine lv_iload_n hx hb d_Model_fails_14 rfl (lv_at hl 0 rfl) ?_
        refine zw_iald X hB 44 (hm 44 _ rfl) hin d_Model_fails_15 ?_
        refine lv_if_le (tgt := 66) hx hb d_Model_fails_16 (by decide) (fun c_16 => ?_) (fun c_16 => ?_)
        · rw [if_pos c_16]
          refine lv_iinc (v := nI (i + 1)) (lv' := [(3, .int (nI (i + 1))), (0, .ref (ad 32)), (1, .int w0), (2, .int x)]) hx hb d_Model_fails_66 hl (k := 0) rfl (nI_1 i) (by decide) rfl (fun ls hl => ?_)
          refine lv_goto (tgt := 2) hx hb d_Model_fails_69 (by decide) ?_
          rw [nI_1 i]
          exact ih (i + 1)   H locs ls (by omega) (by omega) hB (lv_sub hl [0, 1, 2, 3] rfl)
        · rw [if_neg c_16]
          refine lv_aload_n hx hb d_Model_fails_19 rfl (lv_at hl 1 rfl) ?_
          refine zw_getR X hB fl_Model_32 32 (hm 32 _ rfl) rfl d_Model_fails_20 ?_
          refine lv_iload_n hx hb d_Model_fails_23 rfl (lv_at hl 0 rfl) ?_
          refine zw_iald X hB 40 (hm 40 _ rfl) hin d_Model_fails_24 ?_
          refine lv_iload_n hx hb d_Model_fails_25 rfl (lv_at hl 2 rfl) ?_
          refine lv_icmp_ne (tgt := 66) hx hb d_Model_fails_26 (by decide) (fun c_26 => ?_) (fun c_26 => ?_)
          · rw [if_neg c_26]
            refine lv_iinc (v := nI (i + 1)) (lv' := [(3, .int (nI (i + 1))), (0, .ref (ad 32)), (1, .int w0), (2, .int x)]) hx hb d_Model_fails_66 hl (k := 0) rfl (nI_1 i) (by decide) rfl (fun ls hl => ?_)
            refine lv_goto (tgt := 2) hx hb d_Model_fails_69 (by decide) ?_
            rw [nI_1 i]
            exact ih (i + 1)   H locs ls (by omega) (by omega) hB (lv_sub hl [0, 1, 2, 3] rfl)
          · rw [if_pos c_26]
            refine lv_aload_n hx hb d_Model_fails_29 rfl (lv_at hl 1 rfl) ?_
            refine zw_getR X hB fl_Model_35 32 (hm 32 _ rfl) rfl d_Model_fails_30 ?_
            refine lv_iload_n hx hb d_Model_fails_33 rfl (lv_at hl 0 rfl) ?_
            refine zw_iald X hB 41 (hm 41 _ rfl) hin d_Model_fails_34 ?_
            refine lv_iload_n hx hb d_Model_fails_35 rfl (lv_at hl 3 rfl) ?_
            refine lv_icmp_ne (tgt := 66) hx hb d_Model_fails_36 (by decide) (fun c_36 => ?_) (fun c_36 => ?_)
            · rw [if_neg c_36]
              refine lv_iinc (v := nI (i + 1)) (lv' := [(3, .int (nI (i + 1))), (0, .ref (ad 32)), (1, .int w0), (2, .int x)]) hx hb d_Model_fails_66 hl (k := 0) rfl (nI_1 i) (by decide) rfl (fun ls hl => ?_)
              refine lv_goto (tgt := 2) hx hb d_Model_fails_69 (by decide) ?_
              rw [nI_1 i]
              exact ih (i + 1)   H locs ls (by omega) (by omega) hB (lv_sub hl [0, 1, 2, 3] rfl)
            · rw [if_pos c_36]
              refine lv_aload_n hx hb d_Model_fails_39 rfl (lv_at hl 1 rfl) ?_
              refine zw_getR X hB fl_Model_38 32 (hm 32 _ rfl) rfl d_Model_fails_40 ?_
              refine lv_iload_n hx hb d_Model_fails_43 rfl (lv_at hl 0 rfl) ?_
              refine zw_iald X hB 42 (hm 42 _ rfl) hin d_Model_fails_44 ?_
              refine lv_aload_n hx hb d_Model_fails_45 rfl (lv_at hl 1 rfl) ?_
              refine zw_getR X hB fl_Model_57 32 (hm 32 _ rfl) rfl d_Model_fails_46 ?_
              refine lv_iload_n hx hb d_Model_fails_49 rfl (lv_at hl 3 rfl) ?_
              refine zw_iald X hB 48 (hm 48 _ rfl) h1 d_Model_fails_50 ?_
              refine lv_icmp_ne (tgt := 66) hx hb d_Model_fails_51 (by decide) (fun c_51 => ?_) (fun c_51 => ?_)
              · rw [if_neg c_51]
                refine lv_iinc (v := nI (i + 1)) (lv' := [(3, .int (nI (i + 1))), (0, .ref (ad 32)), (1, .int w0), (2, .int x)]) hx hb d_Model_fails_66 hl (k := 0) rfl (nI_1 i) (by decide) rfl (fun ls hl => ?_)
                refine lv_goto (tgt := 2) hx hb d_Model_fails_69 (by decide) ?_
                rw [nI_1 i]
                exact ih (i + 1)   H locs ls (by omega) (by omega) hB (lv_sub hl [0, 1, 2, 3] rfl)
              · rw [if_pos c_51]
                refine lv_aload_n hx hb d_Model_fails_54 rfl (lv_at hl 1 rfl) ?_
                refine zw_getR X hB fl_Model_44 32 (hm 32 _ rfl) rfl d_Model_fails_55 ?_
                refine lv_iload_n hx hb d_Model_fails_58 rfl (lv_at hl 0 rfl) ?_
                refine lv_dup2_11 hx hb d_Model_fails_59 rfl rfl ?_
                refine zw_iald X hB 44 (hm 44 _ rfl) hin d_Model_fails_60 ?_
                refine lv_iconst (v := 1) hx hb d_Model_fails_61 (by decide) ?_
                refine lv_isub hx hb d_Model_fails_62 ?_
                refine zw_iast X hB 44 (hm 44 _ rfl) hin d_Model_fails_63 (fun H locs hB => ?_)
                obtain ⟨mi_1, emi_1⟩ : ∃ y, y = zw_up mi 44 (nI i).toNatClampNeg ((mi 44 (nI i).toNatClampNeg) - 1) := ⟨_, rfl⟩
                rw [← emi_1] at hB
                refine lv_iconst (v := 1) hx hb d_Model_fails_64 (by decide) ?_
                exact zc_zret X hr hlocks hB (by rfl) (by subst emi_1; rfl) (by subst emi_1; rfl) (by subst emi_1; rfl) d_Model_fails_65
  refine lv_iconst (v := 0) hx hb d_Model_fails_0 (by decide) ?_
  refine lv_istore_n (lv' := [(3, .int 0), (0, .ref (ad 32)), (1, .int w0), (2, .int x)]) hx hb d_Model_fails_1 rfl hl (by decide) rfl (fun ls hl => ?_)
  exact loop 9 0  _ _ ls rfl (by omega) hB (lv_sub hl [0, 1, 2, 3] rfl)

set_option maxHeartbeats 4000000 in
set_option maxRecDepth 100000 in
theorem c_Model_isFinished {l : Launch} {D : va_G} {cA : Nat → ClassId} {ad : Nat → Nat} {sh : zw_Sh} (hm : ∀ (k : Nat) (q : zw_Sp), shM k = some q → sh k = some q) (z : Nat) (mi : zw_I) (ml : zw_L) (x : Int32) (h1 : vp_in x 16) :
    zc_M l D cA Y_Model_isFinished 0 0 0 ad sh sh z [.ref (ad 32), .int x] mi ml (some (.int (q_isFin mi x))) mi ml z := by
  refine zc_enter (own := R_Model) (by decide) rfl (Nat.le_of_ble_eq_true rfl) ?_
  intro p e s m below meth c X hr hlocks hnm hB ls hl
  have X : zw_C D cA R_Model prog_9_method_16_code 2 p m c s := X
  have hr : meth.sig.returnType = (some FieldType.boolean) := hr
  have hx := X.1
  have hb := X.2.1
  have hl : lv_has ls 2 [(0, .ref (ad 32)), (1, .int x)] := hl
  unfold q_isFin
  refine lv_aload_n hx hb d_Model_isFinished_0 rfl (lv_at hl 0 rfl) ?_
  refine zw_getR X hB fl_Model_57 32 (hm 32 _ rfl) rfl d_Model_isFinished_1 ?_
  refine lv_iload_n hx hb d_Model_isFinished_4 rfl (lv_at hl 1 rfl) ?_
  refine zw_iald X hB 48 (hm 48 _ rfl) h1 d_Model_isFinished_5 ?_
  refine lv_aload_n hx hb d_Model_isFinished_6 rfl (lv_at hl 0 rfl) ?_
  refine zw_getR X hB fl_Model_7 32 (hm 32 _ rfl) rfl d_Model_isFinished_7 ?_
  refine lv_iload_n hx hb d_Model_isFinished_10 rfl (lv_at hl 1 rfl) ?_
  refine zw_iald X hB 33 (hm 33 _ rfl) h1 d_Model_isFinished_11 ?_
  refine lv_icmp_ne (tgt := 19) hx hb d_Model_isFinished_12 (by decide) (fun c_12 => ?_) (fun c_12 => ?_)
  · rw [if_neg c_12]
    refine lv_iconst (v := 0) hx hb d_Model_isFinished_19 (by decide) ?_
    exact zc_zret X hr hlocks hB (by rfl) (by rfl) (by rfl) (by rfl) d_Model_isFinished_20
  · rw [if_pos c_12]
    refine lv_iconst (v := 1) hx hb d_Model_isFinished_15 (by decide) ?_
    refine lv_goto (tgt := 20) hx hb d_Model_isFinished_16 (by decide) ?_
    exact zc_zret X hr hlocks hB (by rfl) (by rfl) (by rfl) (by rfl) d_Model_isFinished_20
end
section
abbrev Y_Model_doStep : zc_Y := (⟨R_Model, "doStep", "(II)V"⟩, prog_9_method_14_code, 8, none)
abbrev Y_Model_tick : zc_Y := (⟨R_Model, "tick", "(I)V"⟩, prog_9_method_15_code, 4, none)
theorem d_Model_doStep_0 : decode prog_9_method_14_code 0 = .ok (.aload_n 0, 1) := by decide +kernel
theorem d_Model_doStep_1 : decode prog_9_method_14_code 1 = .ok (.getfield 57, 3) := by decide +kernel
theorem d_Model_doStep_4 : decode prog_9_method_14_code 4 = .ok (.iload_n 2, 1) := by decide +kernel
theorem d_Model_doStep_5 : decode prog_9_method_14_code 5 = .ok (.iaload, 1) := by decide +kernel
theorem d_Model_doStep_6 : decode prog_9_method_14_code 6 = .ok (.istore_n 3, 1) := by decide +kernel
theorem d_Model_doStep_7 : decode prog_9_method_14_code 7 = .ok (.aload_n 0, 1) := by decide +kernel
theorem d_Model_doStep_8 : decode prog_9_method_14_code 8 = .ok (.getfield 54, 3) := by decide +kernel
theorem d_Model_doStep_11 : decode prog_9_method_14_code 11 = .ok (.bipush 21, 2) := by decide +kernel
theorem d_Model_doStep_13 : decode prog_9_method_14_code 13 = .ok (.iload_n 2, 1) := by decide +kernel
theorem d_Model_doStep_14 : decode prog_9_method_14_code 14 = .ok (.imul, 1) := by decide +kernel
theorem d_Model_doStep_15 : decode prog_9_method_14_code 15 = .ok (.iload_n 3, 1) := by decide +kernel
theorem d_Model_doStep_16 : decode prog_9_method_14_code 16 = .ok (.iadd, 1) := by decide +kernel
theorem d_Model_doStep_17 : decode prog_9_method_14_code 17 = .ok (.laload, 1) := by decide +kernel
theorem d_Model_doStep_18 : decode prog_9_method_14_code 18 = .ok (.ldc2_w 111, 3) := by decide +kernel
theorem d_Model_doStep_21 : decode prog_9_method_14_code 21 = .ok (.lmul, 1) := by decide +kernel
theorem d_Model_doStep_22 : decode prog_9_method_14_code 22 = .ok (.iload_n 3, 1) := by decide +kernel
theorem d_Model_doStep_23 : decode prog_9_method_14_code 23 = .ok (.i2l, 1) := by decide +kernel
theorem d_Model_doStep_24 : decode prog_9_method_14_code 24 = .ok (.ladd, 1) := by decide +kernel
theorem d_Model_doStep_25 : decode prog_9_method_14_code 25 = .ok (.lconst 1, 1) := by decide +kernel
theorem d_Model_doStep_26 : decode prog_9_method_14_code 26 = .ok (.ladd, 1) := by decide +kernel
theorem d_Model_doStep_27 : decode prog_9_method_14_code 27 = .ok (.lstore 4, 2) := by decide +kernel
theorem d_Model_doStep_29 : decode prog_9_method_14_code 29 = .ok (.iconst 0, 1) := by decide +kernel
theorem d_Model_doStep_30 : decode prog_9_method_14_code 30 = .ok (.istore 6, 2) := by decide +kernel
theorem d_Model_doStep_32 : decode prog_9_method_14_code 32 = .ok (.iload 6, 2) := by decide +kernel
theorem d_Model_doStep_34 : decode prog_9_method_14_code 34 = .ok (.aload_n 0, 1) := by decide +kernel
theorem d_Model_doStep_35 : decode prog_9_method_14_code 35 = .ok (.getfield 20, 3) := by decide +kernel
theorem d_Model_doStep_38 : decode prog_9_method_14_code 38 = .ok (.iload_n 2, 1) := by decide +kernel
theorem d_Model_doStep_39 : decode prog_9_method_14_code 39 = .ok (.iaload, 1) := by decide +kernel
theorem d_Model_doStep_40 : decode prog_9_method_14_code 40 = .ok (.if_icmp .ge 61, 3) := by decide +kernel
theorem d_Model_doStep_43 : decode prog_9_method_14_code 43 = .ok (.bipush 6, 2) := by decide +kernel
theorem d_Model_doStep_45 : decode prog_9_method_14_code 45 = .ok (.iload_n 2, 1) := by decide +kernel
theorem d_Model_doStep_46 : decode prog_9_method_14_code 46 = .ok (.imul, 1) := by decide +kernel
theorem d_Model_doStep_47 : decode prog_9_method_14_code 47 = .ok (.iload 6, 2) := by decide +kernel
theorem d_Model_doStep_49 : decode prog_9_method_14_code 49 = .ok (.iadd, 1) := by decide +kernel
theorem d_Model_doStep_50 : decode prog_9_method_14_code 50 = .ok (.istore 7, 2) := by decide +kernel
theorem d_Model_doStep_52 : decode prog_9_method_14_code 52 = .ok (.lload 4, 2) := by decide +kernel
theorem d_Model_doStep_54 : decode prog_9_method_14_code 54 = .ok (.aload_n 0, 1) := by decide +kernel
theorem d_Model_doStep_55 : decode prog_9_method_14_code 55 = .ok (.getfield 23, 3) := by decide +kernel
theorem d_Model_doStep_58 : decode prog_9_method_14_code 58 = .ok (.iload 7, 2) := by decide +kernel
theorem d_Model_doStep_60 : decode prog_9_method_14_code 60 = .ok (.iaload, 1) := by decide +kernel
theorem d_Model_doStep_61 : decode prog_9_method_14_code 61 = .ok (.iload_n 3, 1) := by decide +kernel
theorem d_Model_doStep_62 : decode prog_9_method_14_code 62 = .ok (.if_icmp .ne 29, 3) := by decide +kernel
theorem d_Model_doStep_65 : decode prog_9_method_14_code 65 = .ok (.aload_n 0, 1) := by decide +kernel
theorem d_Model_doStep_66 : decode prog_9_method_14_code 66 = .ok (.getfield 54, 3) := by decide +kernel
theorem d_Model_doStep_69 : decode prog_9_method_14_code 69 = .ok (.bipush 21, 2) := by decide +kernel
theorem d_Model_doStep_71 : decode prog_9_method_14_code 71 = .ok (.aload_n 0, 1) := by decide +kernel
theorem d_Model_doStep_72 : decode prog_9_method_14_code 72 = .ok (.getfield 26, 3) := by decide +kernel
theorem d_Model_doStep_75 : decode prog_9_method_14_code 75 = .ok (.iload 7, 2) := by decide +kernel
theorem d_Model_doStep_77 : decode prog_9_method_14_code 77 = .ok (.iaload, 1) := by decide +kernel
theorem d_Model_doStep_78 : decode prog_9_method_14_code 78 = .ok (.imul, 1) := by decide +kernel
theorem d_Model_doStep_79 : decode prog_9_method_14_code 79 = .ok (.aload_n 0, 1) := by decide +kernel
theorem d_Model_doStep_80 : decode prog_9_method_14_code 80 = .ok (.getfield 29, 3) := by decide +kernel
theorem d_Model_doStep_83 : decode prog_9_method_14_code 83 = .ok (.iload 7, 2) := by decide +kernel
theorem d_Model_doStep_85 : decode prog_9_method_14_code 85 = .ok (.iaload, 1) := by decide +kernel
theorem d_Model_doStep_86 : decode prog_9_method_14_code 86 = .ok (.iadd, 1) := by decide +kernel
theorem d_Model_doStep_87 : decode prog_9_method_14_code 87 = .ok (.laload, 1) := by decide +kernel
theorem d_Model_doStep_88 : decode prog_9_method_14_code 88 = .ok (.goto 4, 3) := by decide +kernel
theorem d_Model_doStep_91 : decode prog_9_method_14_code 91 = .ok (.lconst 0, 1) := by decide +kernel
theorem d_Model_doStep_92 : decode prog_9_method_14_code 92 = .ok (.ladd, 1) := by decide +kernel
theorem d_Model_doStep_93 : decode prog_9_method_14_code 93 = .ok (.lstore 4, 2) := by decide +kernel
theorem d_Model_doStep_95 : decode prog_9_method_14_code 95 = .ok (.iinc 6 1, 3) := by decide +kernel
theorem d_Model_doStep_98 : decode prog_9_method_14_code 98 = .ok (.goto (-66), 3) := by decide +kernel
theorem d_Model_doStep_101 : decode prog_9_method_14_code 101 = .ok (.aload_n 0, 1) := by decide +kernel
theorem d_Model_doStep_102 : decode prog_9_method_14_code 102 = .ok (.getfield 54, 3) := by decide +kernel
theorem d_Model_doStep_105 : decode prog_9_method_14_code 105 = .ok (.bipush 21, 2) := by decide +kernel
theorem d_Model_doStep_107 : decode prog_9_method_14_code 107 = .ok (.iload_n 2, 1) := by decide +kernel
theorem d_Model_doStep_108 : decode prog_9_method_14_code 108 = .ok (.imul, 1) := by decide +kernel
theorem d_Model_doStep_109 : decode prog_9_method_14_code 109 = .ok (.iload_n 3, 1) := by decide +kernel
theorem d_Model_doStep_110 : decode prog_9_method_14_code 110 = .ok (.iadd, 1) := by decide +kernel
theorem d_Model_doStep_111 : decode prog_9_method_14_code 111 = .ok (.iconst 1, 1) := by decide +kernel
theorem d_Model_doStep_112 : decode prog_9_method_14_code 112 = .ok (.iadd, 1) := by decide +kernel
theorem d_Model_doStep_113 : decode prog_9_method_14_code 113 = .ok (.lload 4, 2) := by decide +kernel
theorem d_Model_doStep_115 : decode prog_9_method_14_code 115 = .ok (.lload 4, 2) := by decide +kernel
theorem d_Model_doStep_117 : decode prog_9_method_14_code 117 = .ok (.bipush 29, 2) := by decide +kernel
theorem d_Model_doStep_119 : decode prog_9_method_14_code 119 = .ok (.lushr, 1) := by decide +kernel
theorem d_Model_doStep_120 : decode prog_9_method_14_code 120 = .ok (.lxor, 1) := by decide +kernel
theorem d_Model_doStep_121 : decode prog_9_method_14_code 121 = .ok (.lastore, 1) := by decide +kernel
theorem d_Model_doStep_122 : decode prog_9_method_14_code 122 = .ok (.aload_n 0, 1) := by decide +kernel
theorem d_Model_doStep_123 : decode prog_9_method_14_code 123 = .ok (.getfield 57, 3) := by decide +kernel
theorem d_Model_doStep_126 : decode prog_9_method_14_code 126 = .ok (.iload_n 2, 1) := by decide +kernel
theorem d_Model_doStep_127 : decode prog_9_method_14_code 127 = .ok (.dup2, 1) := by decide +kernel
theorem d_Model_doStep_128 : decode prog_9_method_14_code 128 = .ok (.iaload, 1) := by decide +kernel
theorem d_Model_doStep_129 : decode prog_9_method_14_code 129 = .ok (.iconst 1, 1) := by decide +kernel
theorem d_Model_doStep_130 : decode prog_9_method_14_code 130 = .ok (.iadd, 1) := by decide +kernel
theorem d_Model_doStep_131 : decode prog_9_method_14_code 131 = .ok (.iastore, 1) := by decide +kernel
theorem d_Model_doStep_132 : decode prog_9_method_14_code 132 = .ok (.aload_n 0, 1) := by decide +kernel
theorem d_Model_doStep_133 : decode prog_9_method_14_code 133 = .ok (.dup, 1) := by decide +kernel
theorem d_Model_doStep_134 : decode prog_9_method_14_code 134 = .ok (.getfield 113, 3) := by decide +kernel
theorem d_Model_doStep_137 : decode prog_9_method_14_code 137 = .ok (.iconst 1, 1) := by decide +kernel
theorem d_Model_doStep_138 : decode prog_9_method_14_code 138 = .ok (.iadd, 1) := by decide +kernel
theorem d_Model_doStep_139 : decode prog_9_method_14_code 139 = .ok (.putfield 113, 3) := by decide +kernel
theorem d_Model_doStep_142 : decode prog_9_method_14_code 142 = .ok (.aload_n 0, 1) := by decide +kernel
theorem d_Model_doStep_143 : decode prog_9_method_14_code 143 = .ok (.getfield 57, 3) := by decide +kernel
theorem d_Model_doStep_146 : decode prog_9_method_14_code 146 = .ok (.iload_n 2, 1) := by decide +kernel
theorem d_Model_doStep_147 : decode prog_9_method_14_code 147 = .ok (.iaload, 1) := by decide +kernel
theorem d_Model_doStep_148 : decode prog_9_method_14_code 148 = .ok (.aload_n 0, 1) := by decide +kernel
theorem d_Model_doStep_149 : decode prog_9_method_14_code 149 = .ok (.getfield 7, 3) := by decide +kernel
theorem d_Model_doStep_152 : decode prog_9_method_14_code 152 = .ok (.iload_n 2, 1) := by decide +kernel
theorem d_Model_doStep_153 : decode prog_9_method_14_code 153 = .ok (.iaload, 1) := by decide +kernel
theorem d_Model_doStep_154 : decode prog_9_method_14_code 154 = .ok (.if_icmp .ne 45, 3) := by decide +kernel
theorem d_Model_doStep_157 : decode prog_9_method_14_code 157 = .ok (.aload_n 0, 1) := by decide +kernel
theorem d_Model_doStep_158 : decode prog_9_method_14_code 158 = .ok (.getfield 66, 3) := by decide +kernel
theorem d_Model_doStep_161 : decode prog_9_method_14_code 161 = .ok (.aload_n 0, 1) := by decide +kernel
theorem d_Model_doStep_162 : decode prog_9_method_14_code 162 = .ok (.getfield 116, 3) := by decide +kernel
theorem d_Model_doStep_165 : decode prog_9_method_14_code 165 = .ok (.iload_n 2, 1) := by decide +kernel
theorem d_Model_doStep_166 : decode prog_9_method_14_code 166 = .ok (.iastore, 1) := by decide +kernel
theorem d_Model_doStep_167 : decode prog_9_method_14_code 167 = .ok (.aload_n 0, 1) := by decide +kernel
theorem d_Model_doStep_168 : decode prog_9_method_14_code 168 = .ok (.dup, 1) := by decide +kernel
theorem d_Model_doStep_169 : decode prog_9_method_14_code 169 = .ok (.getfield 116, 3) := by decide +kernel
theorem d_Model_doStep_172 : decode prog_9_method_14_code 172 = .ok (.iconst 1, 1) := by decide +kernel
theorem d_Model_doStep_173 : decode prog_9_method_14_code 173 = .ok (.iadd, 1) := by decide +kernel
theorem d_Model_doStep_174 : decode prog_9_method_14_code 174 = .ok (.putfield 116, 3) := by decide +kernel
theorem d_Model_doStep_177 : decode prog_9_method_14_code 177 = .ok (.aload_n 0, 1) := by decide +kernel
theorem d_Model_doStep_178 : decode prog_9_method_14_code 178 = .ok (.dup, 1) := by decide +kernel
theorem d_Model_doStep_179 : decode prog_9_method_14_code 179 = .ok (.getfield 105, 3) := by decide +kernel
theorem d_Model_doStep_182 : decode prog_9_method_14_code 182 = .ok (.aload_n 0, 1) := by decide +kernel
theorem d_Model_doStep_183 : decode prog_9_method_14_code 183 = .ok (.getfield 13, 3) := by decide +kernel
theorem d_Model_doStep_186 : decode prog_9_method_14_code 186 = .ok (.iload_n 2, 1) := by decide +kernel
theorem d_Model_doStep_187 : decode prog_9_method_14_code 187 = .ok (.iaload, 1) := by decide +kernel
theorem d_Model_doStep_188 : decode prog_9_method_14_code 188 = .ok (.isub, 1) := by decide +kernel
theorem d_Model_doStep_189 : decode prog_9_method_14_code 189 = .ok (.putfield 105, 3) := by decide +kernel
theorem d_Model_doStep_192 : decode prog_9_method_14_code 192 = .ok (.aload_n 0, 1) := by decide +kernel
theorem d_Model_doStep_193 : decode prog_9_method_14_code 193 = .ok (.getfield 60, 3) := by decide +kernel
theorem d_Model_doStep_196 : decode prog_9_method_14_code 196 = .ok (.iload_n 1, 1) := by decide +kernel
theorem d_Model_doStep_197 : decode prog_9_method_14_code 197 = .ok (.iconst (-1), 1) := by decide +kernel
theorem d_Model_doStep_198 : decode prog_9_method_14_code 198 = .ok (.iastore, 1) := by decide +kernel
theorem d_Model_doStep_199 : decode prog_9_method_14_code 199 = .ok (.return_, 1) := by decide +kernel
theorem d_Model_tick_0 : decode prog_9_method_15_code 0 = .ok (.aload_n 0, 1) := by decide +kernel
theorem d_Model_tick_1 : decode prog_9_method_15_code 1 = .ok (.getfield 60, 3) := by decide +kernel
theorem d_Model_tick_4 : decode prog_9_method_15_code 4 = .ok (.iload_n 1, 1) := by decide +kernel
theorem d_Model_tick_5 : decode prog_9_method_15_code 5 = .ok (.iaload, 1) := by decide +kernel
theorem d_Model_tick_6 : decode prog_9_method_15_code 6 = .ok (.istore_n 2, 1) := by decide +kernel
theorem d_Model_tick_7 : decode prog_9_method_15_code 7 = .ok (.iload_n 2, 1) := by decide +kernel
theorem d_Model_tick_8 : decode prog_9_method_15_code 8 = .ok (.ifCond .ge 29, 3) := by decide +kernel
theorem d_Model_tick_11 : decode prog_9_method_15_code 11 = .ok (.aload_n 0, 1) := by decide +kernel
theorem d_Model_tick_12 : decode prog_9_method_15_code 12 = .ok (.invokevirtual 119, 3) := by decide +kernel
theorem d_Model_tick_15 : decode prog_9_method_15_code 15 = .ok (.ifCond .eq 11, 3) := by decide +kernel
theorem d_Model_tick_18 : decode prog_9_method_15_code 18 = .ok (.aload_n 0, 1) := by decide +kernel
theorem d_Model_tick_19 : decode prog_9_method_15_code 19 = .ok (.iload_n 1, 1) := by decide +kernel
theorem d_Model_tick_20 : decode prog_9_method_15_code 20 = .ok (.invokevirtual 123, 3) := by decide +kernel
theorem d_Model_tick_23 : decode prog_9_method_15_code 23 = .ok (.goto 13, 3) := by decide +kernel
theorem d_Model_tick_26 : decode prog_9_method_15_code 26 = .ok (.aload_n 0, 1) := by decide +kernel
theorem d_Model_tick_27 : decode prog_9_method_15_code 27 = .ok (.dup, 1) := by decide +kernel
theorem d_Model_tick_28 : decode prog_9_method_15_code 28 = .ok (.getfield 127, 3) := by decide +kernel
theorem d_Model_tick_31 : decode prog_9_method_15_code 31 = .ok (.iconst 1, 1) := by decide +kernel
theorem d_Model_tick_32 : decode prog_9_method_15_code 32 = .ok (.iadd, 1) := by decide +kernel
theorem d_Model_tick_33 : decode prog_9_method_15_code 33 = .ok (.putfield 127, 3) := by decide +kernel
theorem d_Model_tick_36 : decode prog_9_method_15_code 36 = .ok (.return_, 1) := by decide +kernel
theorem d_Model_tick_37 : decode prog_9_method_15_code 37 = .ok (.aload_n 0, 1) := by decide +kernel
theorem d_Model_tick_38 : decode prog_9_method_15_code 38 = .ok (.iload_n 2, 1) := by decide +kernel
theorem d_Model_tick_39 : decode prog_9_method_15_code 39 = .ok (.invokevirtual 130, 3) := by decide +kernel
theorem d_Model_tick_42 : decode prog_9_method_15_code 42 = .ok (.istore_n 3, 1) := by decide +kernel
theorem d_Model_tick_43 : decode prog_9_method_15_code 43 = .ok (.iload_n 3, 1) := by decide +kernel
theorem d_Model_tick_44 : decode prog_9_method_15_code 44 = .ok (.ifCond .lt 36, 3) := by decide +kernel
theorem d_Model_tick_47 : decode prog_9_method_15_code 47 = .ok (.aload_n 0, 1) := by decide +kernel
theorem d_Model_tick_48 : decode prog_9_method_15_code 48 = .ok (.getfield 72, 3) := by decide +kernel
theorem d_Model_tick_51 : decode prog_9_method_15_code 51 = .ok (.bipush 16, 2) := by decide +kernel
theorem d_Model_tick_53 : decode prog_9_method_15_code 53 = .ok (.iload_n 2, 1) := by decide +kernel
theorem d_Model_tick_54 : decode prog_9_method_15_code 54 = .ok (.imul, 1) := by decide +kernel
theorem d_Model_tick_55 : decode prog_9_method_15_code 55 = .ok (.aload_n 0, 1) := by decide +kernel
theorem d_Model_tick_56 : decode prog_9_method_15_code 56 = .ok (.getfield 26, 3) := by decide +kernel
theorem d_Model_tick_59 : decode prog_9_method_15_code 59 = .ok (.iload_n 3, 1) := by decide +kernel
theorem d_Model_tick_60 : decode prog_9_method_15_code 60 = .ok (.iaload, 1) := by decide +kernel
theorem d_Model_tick_61 : decode prog_9_method_15_code 61 = .ok (.iadd, 1) := by decide +kernel
theorem d_Model_tick_62 : decode prog_9_method_15_code 62 = .ok (.dup2, 1) := by decide +kernel
theorem d_Model_tick_63 : decode prog_9_method_15_code 63 = .ok (.iaload, 1) := by decide +kernel
theorem d_Model_tick_64 : decode prog_9_method_15_code 64 = .ok (.iconst 1, 1) := by decide +kernel
theorem d_Model_tick_65 : decode prog_9_method_15_code 65 = .ok (.iadd, 1) := by decide +kernel
theorem d_Model_tick_66 : decode prog_9_method_15_code 66 = .ok (.iastore, 1) := by decide +kernel
theorem d_Model_tick_67 : decode prog_9_method_15_code 67 = .ok (.aload_n 0, 1) := by decide +kernel
theorem d_Model_tick_68 : decode prog_9_method_15_code 68 = .ok (.dup, 1) := by decide +kernel
theorem d_Model_tick_69 : decode prog_9_method_15_code 69 = .ok (.getfield 134, 3) := by decide +kernel
theorem d_Model_tick_72 : decode prog_9_method_15_code 72 = .ok (.iconst 1, 1) := by decide +kernel
theorem d_Model_tick_73 : decode prog_9_method_15_code 73 = .ok (.iadd, 1) := by decide +kernel
theorem d_Model_tick_74 : decode prog_9_method_15_code 74 = .ok (.putfield 134, 3) := by decide +kernel
theorem d_Model_tick_77 : decode prog_9_method_15_code 77 = .ok (.goto 81, 3) := by decide +kernel
theorem d_Model_tick_80 : decode prog_9_method_15_code 80 = .ok (.aload_n 0, 1) := by decide +kernel
theorem d_Model_tick_81 : decode prog_9_method_15_code 81 = .ok (.iload_n 1, 1) := by decide +kernel
theorem d_Model_tick_82 : decode prog_9_method_15_code 82 = .ok (.iload_n 2, 1) := by decide +kernel
theorem d_Model_tick_83 : decode prog_9_method_15_code 83 = .ok (.invokevirtual 137, 3) := by decide +kernel
theorem d_Model_tick_86 : decode prog_9_method_15_code 86 = .ok (.ifCond .eq 66, 3) := by decide +kernel
theorem d_Model_tick_89 : decode prog_9_method_15_code 89 = .ok (.aload_n 0, 1) := by decide +kernel
theorem d_Model_tick_90 : decode prog_9_method_15_code 90 = .ok (.getfield 60, 3) := by decide +kernel
theorem d_Model_tick_93 : decode prog_9_method_15_code 93 = .ok (.iload_n 1, 1) := by decide +kernel
theorem d_Model_tick_94 : decode prog_9_method_15_code 94 = .ok (.bipush (-2), 2) := by decide +kernel
theorem d_Model_tick_96 : decode prog_9_method_15_code 96 = .ok (.iastore, 1) := by decide +kernel
theorem d_Model_tick_97 : decode prog_9_method_15_code 97 = .ok (.aload_n 0, 1) := by decide +kernel
theorem d_Model_tick_98 : decode prog_9_method_15_code 98 = .ok (.dup, 1) := by decide +kernel
theorem d_Model_tick_99 : decode prog_9_method_15_code 99 = .ok (.getfield 141, 3) := by decide +kernel
theorem d_Model_tick_102 : decode prog_9_method_15_code 102 = .ok (.iconst 1, 1) := by decide +kernel
theorem d_Model_tick_103 : decode prog_9_method_15_code 103 = .ok (.isub, 1) := by decide +kernel
theorem d_Model_tick_104 : decode prog_9_method_15_code 104 = .ok (.putfield 141, 3) := by decide +kernel
theorem d_Model_tick_107 : decode prog_9_method_15_code 107 = .ok (.aload_n 0, 1) := by decide +kernel
theorem d_Model_tick_108 : decode prog_9_method_15_code 108 = .ok (.getfield 57, 3) := by decide +kernel
theorem d_Model_tick_111 : decode prog_9_method_15_code 111 = .ok (.iload_n 2, 1) := by decide +kernel
theorem d_Model_tick_112 : decode prog_9_method_15_code 112 = .ok (.iconst 0, 1) := by decide +kernel
theorem d_Model_tick_113 : decode prog_9_method_15_code 113 = .ok (.iastore, 1) := by decide +kernel
theorem d_Model_tick_114 : decode prog_9_method_15_code 114 = .ok (.aload_n 0, 1) := by decide +kernel
theorem d_Model_tick_115 : decode prog_9_method_15_code 115 = .ok (.dup, 1) := by decide +kernel
theorem d_Model_tick_116 : decode prog_9_method_15_code 116 = .ok (.getfield 105, 3) := by decide +kernel
theorem d_Model_tick_119 : decode prog_9_method_15_code 119 = .ok (.aload_n 0, 1) := by decide +kernel
theorem d_Model_tick_120 : decode prog_9_method_15_code 120 = .ok (.getfield 13, 3) := by decide +kernel
theorem d_Model_tick_123 : decode prog_9_method_15_code 123 = .ok (.iload_n 2, 1) := by decide +kernel
theorem d_Model_tick_124 : decode prog_9_method_15_code 124 = .ok (.iaload, 1) := by decide +kernel
theorem d_Model_tick_125 : decode prog_9_method_15_code 125 = .ok (.isub, 1) := by decide +kernel
theorem d_Model_tick_126 : decode prog_9_method_15_code 126 = .ok (.putfield 105, 3) := by decide +kernel
theorem d_Model_tick_129 : decode prog_9_method_15_code 129 = .ok (.aload_n 0, 1) := by decide +kernel
theorem d_Model_tick_130 : decode prog_9_method_15_code 130 = .ok (.getfield 63, 3) := by decide +kernel
theorem d_Model_tick_133 : decode prog_9_method_15_code 133 = .ok (.aload_n 0, 1) := by decide +kernel
theorem d_Model_tick_134 : decode prog_9_method_15_code 134 = .ok (.getfield 102, 3) := by decide +kernel
theorem d_Model_tick_137 : decode prog_9_method_15_code 137 = .ok (.iload_n 2, 1) := by decide +kernel
theorem d_Model_tick_138 : decode prog_9_method_15_code 138 = .ok (.iastore, 1) := by decide +kernel
theorem d_Model_tick_139 : decode prog_9_method_15_code 139 = .ok (.aload_n 0, 1) := by decide +kernel
theorem d_Model_tick_140 : decode prog_9_method_15_code 140 = .ok (.dup, 1) := by decide +kernel
theorem d_Model_tick_141 : decode prog_9_method_15_code 141 = .ok (.getfield 102, 3) := by decide +kernel
theorem d_Model_tick_144 : decode prog_9_method_15_code 144 = .ok (.iconst 1, 1) := by decide +kernel
theorem d_Model_tick_145 : decode prog_9_method_15_code 145 = .ok (.iadd, 1) := by decide +kernel
theorem d_Model_tick_146 : decode prog_9_method_15_code 146 = .ok (.putfield 102, 3) := by decide +kernel
theorem d_Model_tick_149 : decode prog_9_method_15_code 149 = .ok (.goto 9, 3) := by decide +kernel
theorem d_Model_tick_152 : decode prog_9_method_15_code 152 = .ok (.aload_n 0, 1) := by decide +kernel
theorem d_Model_tick_153 : decode prog_9_method_15_code 153 = .ok (.iload_n 1, 1) := by decide +kernel
theorem d_Model_tick_154 : decode prog_9_method_15_code 154 = .ok (.iload_n 2, 1) := by decide +kernel
theorem d_Model_tick_155 : decode prog_9_method_15_code 155 = .ok (.invokevirtual 144, 3) := by decide +kernel
theorem d_Model_tick_158 : decode prog_9_method_15_code 158 = .ok (.return_, 1) := by decide +kernel
theorem fl_Model_54 : zw_FL R_Model 54 7 19 := ⟨R_Model, T_Model, 36, rfl, by decide, ly_Model, Or.inl (zw_in (List.mem_of_getElem? (i := 637) (by decide +kernel)) (by decide +kernel))⟩
theorem fl_Model_66 : zw_FL R_Model 66 7 26 := ⟨R_Model, T_Model, 36, rfl, by decide, ly_Model, Or.inl (zw_in (List.mem_of_getElem? (i := 644) (by decide +kernel)) (by decide +kernel))⟩
theorem fl_Model_72 : zw_FL R_Model 72 7 28 := ⟨R_Model, T_Model, 36, rfl, by decide, ly_Model, Or.inl (zw_in (List.mem_of_getElem? (i := 646) (by decide +kernel)) (by decide +kernel))⟩
theorem fl_Model_113 : zw_FL R_Model 113 7 33 := ⟨R_Model, T_Model, 36, rfl, by decide, ly_Model, Or.inl (zw_in (List.mem_of_getElem? (i := 651) (by decide +kernel)) (by decide +kernel))⟩
theorem fl_Model_116 : zw_FL R_Model 116 7 29 := ⟨R_Model, T_Model, 36, rfl, by decide, ly_Model, Or.inl (zw_in (List.mem_of_getElem? (i := 647) (by decide +kernel)) (by decide +kernel))⟩
theorem fl_Model_127 : zw_FL R_Model 127 7 31 := ⟨R_Model, T_Model, 36, rfl, by decide, ly_Model, Or.inl (zw_in (List.mem_of_getElem? (i := 649) (by decide +kernel)) (by decide +kernel))⟩
theorem fl_Model_134 : zw_FL R_Model 134 7 32 := ⟨R_Model, T_Model, 36, rfl, by decide, ly_Model, Or.inl (zw_in (List.mem_of_getElem? (i := 650) (by decide +kernel)) (by decide +kernel))⟩
theorem fl_Model_141 : zw_FL R_Model 141 7 25 := ⟨R_Model, T_Model, 36, rfl, by decide, ly_Model, Or.inl (zw_in (List.mem_of_getElem? (i := 643) (by decide +kernel)) (by decide +kernel))⟩
theorem fp_Model_113 : zw_FP R_Model 113 7 33 (.int) false := ⟨R_Model, T_Model, 36, ty_Model, rfl, by decide, ly_Model, ty_Model_ok, rfl, nm_Model, rfl, Or.inl ⟨(zw_in (List.mem_of_getElem? (i := 651) (by decide +kernel)) (by decide +kernel)), fun h => by cases h⟩⟩
theorem fp_Model_116 : zw_FP R_Model 116 7 29 (.int) false := ⟨R_Model, T_Model, 36, ty_Model, rfl, by decide, ly_Model, ty_Model_ok, rfl, nm_Model, rfl, Or.inl ⟨(zw_in (List.mem_of_getElem? (i := 647) (by decide +kernel)) (by decide +kernel)), fun h => by cases h⟩⟩
theorem fp_Model_127 : zw_FP R_Model 127 7 31 (.int) false := ⟨R_Model, T_Model, 36, ty_Model, rfl, by decide, ly_Model, ty_Model_ok, rfl, nm_Model, rfl, Or.inl ⟨(zw_in (List.mem_of_getElem? (i := 649) (by decide +kernel)) (by decide +kernel)), fun h => by cases h⟩⟩
theorem fp_Model_134 : zw_FP R_Model 134 7 32 (.int) false := ⟨R_Model, T_Model, 36, ty_Model, rfl, by decide, ly_Model, ty_Model_ok, rfl, nm_Model, rfl, Or.inl ⟨(zw_in (List.mem_of_getElem? (i := 650) (by decide +kernel)) (by decide +kernel)), fun h => by cases h⟩⟩
theorem fp_Model_141 : zw_FP R_Model 141 7 25 (.int) false := ⟨R_Model, T_Model, 36, ty_Model, rfl, by decide, ly_Model, ty_Model_ok, rfl, nm_Model, rfl, Or.inl ⟨(zw_in (List.mem_of_getElem? (i := 643) (by decide +kernel)) (by decide +kernel)), fun h => by cases h⟩⟩
theorem mv_Model_119 : zw_MV R_Model 119 Y_Model_canTake R_Model 0 := ⟨Or.inl (zw_in (List.mem_of_getElem? (i := 778) (by decide +kernel)) (by decide +kernel)), (zw_in (List.mem_of_getElem? (i := 780) (by decide +kernel)) (by decide +kernel)), (zw_in (List.mem_of_getElem? (i := 18) (by decide +kernel)) (by decide +kernel)), (zw_in (List.mem_of_getElem? (i := 781) (by decide +kernel)) (by decide +kernel)), (zw_in (List.mem_of_getElem? (i := 33) (by decide +kernel)) (by decide +kernel)), by decide +kernel, by decide +kernel⟩
theorem mv_Model_123 : zw_MV R_Model 123 Y_Model_take R_Model 1 := ⟨Or.inl (zw_in (List.mem_of_getElem? (i := 792) (by decide +kernel)) (by decide +kernel)), (zw_in (List.mem_of_getElem? (i := 794) (by decide +kernel)) (by decide +kernel)), (zw_in (List.mem_of_getElem? (i := 21) (by decide +kernel)) (by decide +kernel)), (zw_in (List.mem_of_getElem? (i := 795) (by decide +kernel)) (by decide +kernel)), (zw_in (List.mem_of_getElem? (i := 33) (by decide +kernel)) (by decide +kernel)), by decide +kernel, by decide +kernel⟩
theorem mv_Model_130 : zw_MV R_Model 130 Y_Model_waitsFor R_Model 1 := ⟨Or.inl (zw_in (List.mem_of_getElem? (i := 782) (by decide +kernel)) (by decide +kernel)), (zw_in (List.mem_of_getElem? (i := 784) (by decide +kernel)) (by decide +kernel)), (zw_in (List.mem_of_getElem? (i := 19) (by decide +kernel)) (by decide +kernel)), (zw_in (List.mem_of_getElem? (i := 785) (by decide +kernel)) (by decide +kernel)), (zw_in (List.mem_of_getElem? (i := 33) (by decide +kernel)) (by decide +kernel)), by decide +kernel, by decide +kernel⟩
theorem mv_Model_137 : zw_MV R_Model 137 Y_Model_fails R_Model 2 := ⟨Or.inl (zw_in (List.mem_of_getElem? (i := 796) (by decide +kernel)) (by decide +kernel)), (zw_in (List.mem_of_getElem? (i := 798) (by decide +kernel)) (by decide +kernel)), (zw_in (List.mem_of_getElem? (i := 22) (by decide +kernel)) (by decide +kernel)), (zw_in (List.mem_of_getElem? (i := 799) (by decide +kernel)) (by decide +kernel)), (zw_in (List.mem_of_getElem? (i := 33) (by decide +kernel)) (by decide +kernel)), by decide +kernel, by decide +kernel⟩
theorem mv_Model_144 : zw_MV R_Model 144 Y_Model_doStep R_Model 2 := ⟨Or.inl (zw_in (List.mem_of_getElem? (i := 800) (by decide +kernel)) (by decide +kernel)), (zw_in (List.mem_of_getElem? (i := 802) (by decide +kernel)) (by decide +kernel)), (zw_in (List.mem_of_getElem? (i := 23) (by decide +kernel)) (by decide +kernel)), (zw_in (List.mem_of_getElem? (i := 803) (by decide +kernel)) (by decide +kernel)), (zw_in (List.mem_of_getElem? (i := 33) (by decide +kernel)) (by decide +kernel)), by decide +kernel, by decide +kernel⟩
set_option maxHeartbeats 4000000 in
set_option maxRecDepth 100000 in
theorem c_Model_doStep {l : Launch} {D : va_G} {cA : Nat → ClassId} {ad : Nat → Nat} {sh : zw_Sh} (hm : ∀ (k : Nat) (q : zw_Sp), shM k = some q → sh k = some q) (z : Nat) (mi : zw_I) (ml : zw_L) (wk : Int32) (x : Int32) (hw : vp_in wk 16) (h1 : vp_in x 16) (hN : zm_N mi) (hT : zm_T mi x) :
    zc_M l D cA Y_Model_doStep 0 0 0 ad sh sh z [.ref (ad 32), .int wk, .int x] mi ml none (q_step wk x mi) (q_stepL mi ml x) z := by
  refine zc_enter (own := R_Model) (by decide) rfl (Nat.le_of_ble_eq_true rfl) ?_
  intro p e s m below meth c X hr hlocks hnm hB ls hl
  have X : zw_C D cA R_Model prog_9_method_14_code 8 p m c s := X
  have hr : meth.sig.returnType = none := hr
  have hx := X.1
  have hb := X.2.1
  have hl : lv_has ls 8 [(0, .ref (ad 32)), (1, .int wk), (2, .int x)] := hl
  obtain ⟨w6, hw6, ew⟩ := hN.1 _ (vlt h1)
  have loop : ∀ (f i : Nat) (a : Int64)  (H : Heap) (locs : List Loc) (ls : Array Slot), i + f = 7 → i ≤ w6 → zw_B D cA ad sh (zw_A ad sh z) s.heap mi ml z H locs → lv_has ls 8 [(6, .int (nI i)), (4, .long a), (0, .ref (ad 32)), (1, .int wk), (2, .int x), (3, .int (mi 48 x.toNatClampNeg))] →
      zc_W l D cA ad sh sh z [.ref (ad 32), .int wk, .int x] 0 0 0 none (q_step wk x mi) (zw_up ml 47 (21 * x + mi 48 x.toNatClampNeg + 1).toNatClampNeg (p_mix (q_sum mi ml x (mi 48 x.toNatClampNeg) f (nI i) a))) z p e s m below meth c H locs 0 0 (F0 m 32 ls []) := by
    intro f
    induction f with
    | zero =>
      intro i a  H locs ls hi h2 hB hl
      omega
    | succ f ih =>
      intro i a  H locs ls hi h2 hB hl
      rw [q_sum]
      refine lv_iload hx hb d_Model_doStep_32 (lv_at hl 0 rfl) ?_
      refine lv_aload_n hx hb d_Model_doStep_34 rfl (lv_at hl 2 rfl) ?_
      refine zw_getR X hB fl_Model_20 32 (hm 32 _ rfl) rfl d_Model_doStep_35 ?_
      refine lv_iload_n hx hb d_Model_doStep_38 rfl (lv_at hl 4 rfl) ?_
      refine zw_iald X hB 36 (hm 36 _ rfl) h1 d_Model_doStep_39 ?_
      refine lv_icmp_ge (tgt := 101) hx hb d_Model_doStep_40 (by decide) (fun c_40 => ?_) (fun c_40 => ?_)
      · rw [if_pos c_40]
        unfold q_step q_stepB
        refine lv_aload_n hx hb d_Model_doStep_101 rfl (lv_at hl 2 rfl) ?_
        refine zw_getR X hB fl_Model_54 32 (hm 32 _ rfl) rfl d_Model_doStep_102 ?_
        refine lv_bipush (v := 21) hx hb d_Model_doStep_105 (by decide) ?_
        refine lv_iload_n hx hb d_Model_doStep_107 rfl (lv_at hl 4 rfl) ?_
        refine lv_imul hx hb d_Model_doStep_108 ?_
        refine lv_iload_n hx hb d_Model_doStep_109 rfl (lv_at hl 5 rfl) ?_
        refine lv_iadd hx hb d_Model_doStep_110 ?_
        refine lv_iconst (v := 1) hx hb d_Model_doStep_111 (by decide) ?_
        refine lv_iadd hx hb d_Model_doStep_112 ?_
        refine lv_lload hx hb d_Model_doStep_113 (lv_at hl 1 rfl) ?_
        refine lv_lload hx hb d_Model_doStep_115 (lv_at hl 1 rfl) ?_
        refine lv_bipush (v := 29) hx hb d_Model_doStep_117 (by decide) ?_
        refine lv_lushr (v := (a.toUInt64 >>> ((29 : Int32).toInt64.toUInt64 &&& Int64.toUInt64 63)).toInt64) hx hb d_Model_doStep_119 rfl ?_
        refine lv_lxor hx hb d_Model_doStep_120 ?_
        refine zw_last X hB 47 (hm 47 _ rfl) (zm_21' h1 hT.2.1 hT.1) d_Model_doStep_121 (fun H locs hB => ?_)
        refine lv_aload_n hx hb d_Model_doStep_122 rfl (lv_at hl 2 rfl) ?_
        refine zw_getR X hB fl_Model_57 32 (hm 32 _ rfl) rfl d_Model_doStep_123 ?_
        refine lv_iload_n hx hb d_Model_doStep_126 rfl (lv_at hl 4 rfl) ?_
        refine lv_dup2_11 hx hb d_Model_doStep_127 rfl rfl ?_
        refine zw_iald X hB 48 (hm 48 _ rfl) h1 d_Model_doStep_128 ?_
        refine lv_iconst (v := 1) hx hb d_Model_doStep_129 (by decide) ?_
        refine lv_iadd hx hb d_Model_doStep_130 ?_
        refine zw_iast X hB 48 (hm 48 _ rfl) h1 d_Model_doStep_131 (fun H locs hB => ?_)
        refine lv_aload_n hx hb d_Model_doStep_132 rfl (lv_at hl 2 rfl) ?_
        refine lv_dup hx hb d_Model_doStep_133 rfl ?_
        refine zw_getI X hB fl_Model_113 32 (hm 32 _ rfl) rfl d_Model_doStep_134 ?_
        refine lv_iconst (v := 1) hx hb d_Model_doStep_137 (by decide) ?_
        refine lv_iadd hx hb d_Model_doStep_138 ?_
        refine zw_putI X hB fp_Model_113 (fun h => by cases h) 32 (hm 32 _ rfl) rfl d_Model_doStep_139 (fun H locs hB => ?_)
        have hB : zw_B D cA ad sh (zw_A ad sh z) s.heap (q_step1 x mi) (zw_up ml 47 (((21 * x) + (mi 48 x.toNatClampNeg)) + 1).toNatClampNeg (a ^^^ ((a.toUInt64 >>> ((29 : Int32).toInt64.toUInt64 &&& Int64.toUInt64 63)).toInt64))) z H locs := hB
        refine lv_aload_n hx hb d_Model_doStep_142 rfl (lv_at hl 2 rfl) ?_
        refine zw_getR X hB fl_Model_57 32 (hm 32 _ rfl) rfl d_Model_doStep_143 ?_
        refine lv_iload_n hx hb d_Model_doStep_146 rfl (lv_at hl 4 rfl) ?_
        refine zw_iald X hB 48 (hm 48 _ rfl) h1 d_Model_doStep_147 ?_
        refine lv_aload_n hx hb d_Model_doStep_148 rfl (lv_at hl 2 rfl) ?_
        refine zw_getR X hB fl_Model_7 32 (hm 32 _ rfl) rfl d_Model_doStep_149 ?_
        refine lv_iload_n hx hb d_Model_doStep_152 rfl (lv_at hl 4 rfl) ?_
        refine zw_iald X hB 33 (hm 33 _ rfl) h1 d_Model_doStep_153 ?_
        refine lv_icmp_ne (tgt := 199) hx hb d_Model_doStep_154 (by decide) (fun c_154 => ?_) (fun c_154 => ?_)
        · rw [if_neg c_154]
          exact zc_vret X hr hlocks hB (by rfl) (by rfl) (by rfl) d_Model_doStep_199
        · rw [if_pos c_154]
          refine lv_aload_n hx hb d_Model_doStep_157 rfl (lv_at hl 2 rfl) ?_
          refine zw_getR X hB fl_Model_66 32 (hm 32 _ rfl) rfl d_Model_doStep_158 ?_
          refine lv_aload_n hx hb d_Model_doStep_161 rfl (lv_at hl 2 rfl) ?_
          refine zw_getI X hB fl_Model_116 32 (hm 32 _ rfl) rfl d_Model_doStep_162 ?_
          refine lv_iload_n hx hb d_Model_doStep_165 rfl (lv_at hl 4 rfl) ?_
          refine zw_iast X hB 51 (hm 51 _ rfl) (by have h9 := hT.2.2.1; simpa [q_step1, zw_up] using h9) d_Model_doStep_166 (fun H locs hB => ?_)
          obtain ⟨mi_1, emi_1⟩ : ∃ y, y = zw_up (q_step1 x mi) 51 ((q_step1 x mi) 32 29).toNatClampNeg x := ⟨_, rfl⟩
          rw [← emi_1] at hB
          refine lv_aload_n hx hb d_Model_doStep_167 rfl (lv_at hl 2 rfl) ?_
          refine lv_dup hx hb d_Model_doStep_168 rfl ?_
          refine zw_getI X hB fl_Model_116 32 (hm 32 _ rfl) rfl d_Model_doStep_169 ?_
          refine lv_iconst (v := 1) hx hb d_Model_doStep_172 (by decide) ?_
          refine lv_iadd hx hb d_Model_doStep_173 ?_
          refine zw_putI X hB fp_Model_116 (fun h => by cases h) 32 (hm 32 _ rfl) rfl d_Model_doStep_174 (fun H locs hB => ?_)
          obtain ⟨mi_2, emi_2⟩ : ∃ y, y = zw_up mi_1 32 29 ((mi_1 32 29) + 1) := ⟨_, rfl⟩
          rw [← emi_2] at hB
          refine lv_aload_n hx hb d_Model_doStep_177 rfl (lv_at hl 2 rfl) ?_
          refine lv_dup hx hb d_Model_doStep_178 rfl ?_
          refine zw_getI X hB fl_Model_105 32 (hm 32 _ rfl) rfl d_Model_doStep_179 ?_
          refine lv_aload_n hx hb d_Model_doStep_182 rfl (lv_at hl 2 rfl) ?_
          refine zw_getR X hB fl_Model_13 32 (hm 32 _ rfl) rfl d_Model_doStep_183 ?_
          refine lv_iload_n hx hb d_Model_doStep_186 rfl (lv_at hl 4 rfl) ?_
          refine zw_iald X hB 34 (hm 34 _ rfl) h1 d_Model_doStep_187 ?_
          refine lv_isub hx hb d_Model_doStep_188 ?_
          refine zw_putI X hB fp_Model_105 (fun h => by cases h) 32 (hm 32 _ rfl) rfl d_Model_doStep_189 (fun H locs hB => ?_)
          obtain ⟨mi_3, emi_3⟩ : ∃ y, y = zw_up mi_2 32 24 ((mi_2 32 24) - (mi_2 34 x.toNatClampNeg)) := ⟨_, rfl⟩
          rw [← emi_3] at hB
          refine lv_aload_n hx hb d_Model_doStep_192 rfl (lv_at hl 2 rfl) ?_
          refine zw_getR X hB fl_Model_60 32 (hm 32 _ rfl) rfl d_Model_doStep_193 ?_
          refine lv_iload_n hx hb d_Model_doStep_196 rfl (lv_at hl 3 rfl) ?_
          refine lv_iconst (v := (-1)) hx hb d_Model_doStep_197 (by decide) ?_
          refine zw_iast X hB 49 (hm 49 _ rfl) hw d_Model_doStep_198 (fun H locs hB => ?_)
          obtain ⟨mi_4, emi_4⟩ : ∃ y, y = zw_up mi_3 49 wk.toNatClampNeg (-1) := ⟨_, rfl⟩
          rw [← emi_4] at hB
          exact zc_vret X hr hlocks hB (by subst emi_4; subst emi_3; subst emi_2; subst emi_1; rfl) (by subst emi_4; subst emi_3; subst emi_2; subst emi_1; rfl) (by subst emi_4; subst emi_3; subst emi_2; subst emi_1; rfl) d_Model_doStep_199
      · rw [if_neg c_40]
        have hlt : i < w6 := zn_lt (by omega) (by rw [← ew]; exact c_40)
        have hin := zm_at h1 i (by omega)
        have ho1 := hN.2.1 _ (vlt hin)
        refine lv_bipush (v := 6) hx hb d_Model_doStep_43 (by decide) ?_
        refine lv_iload_n hx hb d_Model_doStep_45 rfl (lv_at hl 4 rfl) ?_
        refine lv_imul hx hb d_Model_doStep_46 ?_
        refine lv_iload hx hb d_Model_doStep_47 (lv_at hl 0 rfl) ?_
        refine lv_iadd hx hb d_Model_doStep_49 ?_
        refine lv_istore (lv' := [(7, .int ((6 * x) + (nI i))), (6, .int (nI i)), (4, .long a), (0, .ref (ad 32)), (1, .int wk), (2, .int x), (3, .int (mi 48 x.toNatClampNeg))]) hx hb d_Model_doStep_50 hl (by decide) rfl (fun ls hl => ?_)
        refine lv_lload hx hb d_Model_doStep_52 (lv_at hl 2 rfl) ?_
        refine lv_aload_n hx hb d_Model_doStep_54 rfl (lv_at hl 3 rfl) ?_
        refine zw_getR X hB fl_Model_23 32 (hm 32 _ rfl) rfl d_Model_doStep_55 ?_
        refine lv_iload hx hb d_Model_doStep_58 (lv_at hl 0 rfl) ?_
        refine zw_iald X hB 37 (hm 37 _ rfl) hin d_Model_doStep_60 ?_
        refine lv_iload_n hx hb d_Model_doStep_61 rfl (lv_at hl 6 rfl) ?_
        refine lv_icmp_ne (tgt := 91) hx hb d_Model_doStep_62 (by decide) (fun c_62 => ?_) (fun c_62 => ?_)
        · rw [if_neg c_62]
          refine lv_lconst (v := 0) hx hb d_Model_doStep_91 (by decide) ?_
          refine lv_ladd hx hb d_Model_doStep_92 ?_
          refine lv_lstore (lv' := [(4, .long (a + 0)), (7, .int ((6 * x) + (nI i))), (6, .int (nI i)), (0, .ref (ad 32)), (1, .int wk), (2, .int x), (3, .int (mi 48 x.toNatClampNeg))]) hx hb d_Model_doStep_93 hl (by decide) rfl (fun ls hl => ?_)
          refine lv_iinc (v := nI (i + 1)) (lv' := [(6, .int (nI (i + 1))), (4, .long (a + 0)), (7, .int ((6 * x) + (nI i))), (0, .ref (ad 32)), (1, .int wk), (2, .int x), (3, .int (mi 48 x.toNatClampNeg))]) hx hb d_Model_doStep_95 hl (k := 2) rfl (nI_1 i) (by decide) rfl (fun ls hl => ?_)
          refine lv_goto (tgt := 32) hx hb d_Model_doStep_98 (by decide) ?_
          rw [nI_1 i]
          exact ih (i + 1) _  H locs ls (by omega) (by omega) hB (lv_sub hl [0, 1, 3, 4, 5, 6] rfl)
        · rw [if_pos c_62]
          refine lv_aload_n hx hb d_Model_doStep_65 rfl (lv_at hl 3 rfl) ?_
          refine zw_getR X hB fl_Model_54 32 (hm 32 _ rfl) rfl d_Model_doStep_66 ?_
          refine lv_bipush (v := 21) hx hb d_Model_doStep_69 (by decide) ?_
          refine lv_aload_n hx hb d_Model_doStep_71 rfl (lv_at hl 3 rfl) ?_
          refine zw_getR X hB fl_Model_26 32 (hm 32 _ rfl) rfl d_Model_doStep_72 ?_
          refine lv_iload hx hb d_Model_doStep_75 (lv_at hl 0 rfl) ?_
          refine zw_iald X hB 38 (hm 38 _ rfl) hin d_Model_doStep_77 ?_
          refine lv_imul hx hb d_Model_doStep_78 ?_
          refine lv_aload_n hx hb d_Model_doStep_79 rfl (lv_at hl 3 rfl) ?_
          refine zw_getR X hB fl_Model_29 32 (hm 32 _ rfl) rfl d_Model_doStep_80 ?_
          refine lv_iload hx hb d_Model_doStep_83 (lv_at hl 0 rfl) ?_
          refine zw_iald X hB 39 (hm 39 _ rfl) hin d_Model_doStep_85 ?_
          refine lv_iadd hx hb d_Model_doStep_86 ?_
          refine zw_lald X hB 47 (hm 47 _ rfl) (zm_21 ho1.1 ho1.2) d_Model_doStep_87 ?_
          refine lv_goto (tgt := 92) hx hb d_Model_doStep_88 (by decide) ?_
          refine lv_ladd hx hb d_Model_doStep_92 ?_
          refine lv_lstore (lv' := [(4, .long (a + (ml 47 ((21 * (mi 38 ((6 * x) + (nI i)).toNatClampNeg)) + (mi 39 ((6 * x) + (nI i)).toNatClampNeg)).toNatClampNeg))), (7, .int ((6 * x) + (nI i))), (6, .int (nI i)), (0, .ref (ad 32)), (1, .int wk), (2, .int x), (3, .int (mi 48 x.toNatClampNeg))]) hx hb d_Model_doStep_93 hl (by decide) rfl (fun ls hl => ?_)
          refine lv_iinc (v := nI (i + 1)) (lv' := [(6, .int (nI (i + 1))), (4, .long (a + (ml 47 ((21 * (mi 38 ((6 * x) + (nI i)).toNatClampNeg)) + (mi 39 ((6 * x) + (nI i)).toNatClampNeg)).toNatClampNeg))), (7, .int ((6 * x) + (nI i))), (0, .ref (ad 32)), (1, .int wk), (2, .int x), (3, .int (mi 48 x.toNatClampNeg))]) hx hb d_Model_doStep_95 hl (k := 2) rfl (nI_1 i) (by decide) rfl (fun ls hl => ?_)
          refine lv_goto (tgt := 32) hx hb d_Model_doStep_98 (by decide) ?_
          rw [nI_1 i]
          exact ih (i + 1) _  H locs ls (by omega) (by omega) hB (lv_sub hl [0, 1, 3, 4, 5, 6] rfl)
  refine lv_aload_n hx hb d_Model_doStep_0 rfl (lv_at hl 0 rfl) ?_
  refine zw_getR X hB fl_Model_57 32 (hm 32 _ rfl) rfl d_Model_doStep_1 ?_
  refine lv_iload_n hx hb d_Model_doStep_4 rfl (lv_at hl 2 rfl) ?_
  refine zw_iald X hB 48 (hm 48 _ rfl) h1 d_Model_doStep_5 ?_
  refine lv_istore_n (lv' := [(3, .int (mi 48 x.toNatClampNeg)), (0, .ref (ad 32)), (1, .int wk), (2, .int x)]) hx hb d_Model_doStep_6 rfl hl (by decide) rfl (fun ls hl => ?_)
  refine lv_aload_n hx hb d_Model_doStep_7 rfl (lv_at hl 1 rfl) ?_
  refine zw_getR X hB fl_Model_54 32 (hm 32 _ rfl) rfl d_Model_doStep_8 ?_
  refine lv_bipush (v := 21) hx hb d_Model_doStep_11 (by decide) ?_
  refine lv_iload_n hx hb d_Model_doStep_13 rfl (lv_at hl 3 rfl) ?_
  refine lv_imul hx hb d_Model_doStep_14 ?_
  refine lv_iload_n hx hb d_Model_doStep_15 rfl (lv_at hl 0 rfl) ?_
  refine lv_iadd hx hb d_Model_doStep_16 ?_
  refine zw_lald X hB 47 (hm 47 _ rfl) (zm_21 h1 hT.1) d_Model_doStep_17 ?_
  refine lv_ldc2 (v := 6364136223846793005) hx hb X.2.2.2.1 (X.2.2.2.2.ts _ kc_Model_111) d_Model_doStep_18 ?_
  refine lv_lmul hx hb d_Model_doStep_21 ?_
  refine lv_iload_n hx hb d_Model_doStep_22 rfl (lv_at hl 0 rfl) ?_
  refine lv_i2l (v := (mi 48 x.toNatClampNeg).toInt64) hx hb d_Model_doStep_23 rfl ?_
  refine lv_ladd hx hb d_Model_doStep_24 ?_
  refine lv_lconst (v := 1) hx hb d_Model_doStep_25 (by decide) ?_
  refine lv_ladd hx hb d_Model_doStep_26 ?_
  refine lv_lstore (lv' := [(4, .long ((((ml 47 ((21 * x) + (mi 48 x.toNatClampNeg)).toNatClampNeg) * 6364136223846793005) + ((mi 48 x.toNatClampNeg).toInt64)) + 1)), (3, .int (mi 48 x.toNatClampNeg)), (0, .ref (ad 32)), (1, .int wk), (2, .int x)]) hx hb d_Model_doStep_27 hl (by decide) rfl (fun ls hl => ?_)
  refine lv_iconst (v := 0) hx hb d_Model_doStep_29 (by decide) ?_
  refine lv_istore (lv' := [(6, .int 0), (4, .long ((((ml 47 ((21 * x) + (mi 48 x.toNatClampNeg)).toNatClampNeg) * 6364136223846793005) + ((mi 48 x.toNatClampNeg).toInt64)) + 1)), (3, .int (mi 48 x.toNatClampNeg)), (0, .ref (ad 32)), (1, .int wk), (2, .int x)]) hx hb d_Model_doStep_30 hl (by decide) rfl (fun ls hl => ?_)
  exact loop 7 0 _  _ _ ls rfl (by omega) hB (lv_sub hl [0, 1, 3, 4, 5, 2] rfl)

set_option maxHeartbeats 4000000 in
set_option maxRecDepth 100000 in
theorem c_Model_tick {l : Launch} {D : va_G} {cA : Nat → ClassId} {ad : Nat → Nat} {sh : zw_Sh} (hm : ∀ (k : Nat) (q : zw_Sp), shM k = some q → sh k = some q) (z : Nat) (mi : zw_I) (ml : zw_L) (wk : Int32) (hw : vp_in wk 16) (hN : zm_N mi) (hq0 : vp_in (mi 50 (0 : Int32).toNatClampNeg) 16) (hq : ¬ q_canTake mi = 0 → ∃ q : Nat, q < 16 ∧ mi 32 23 = nI (q + 1)) (hT : 0 ≤ mi 49 wk.toNatClampNeg → vp_in (mi 49 wk.toNatClampNeg) 16 ∧ (¬ q_waits mi (mi 49 wk.toNatClampNeg) 7 0 < 0 → vp_in (q_waits mi (mi 49 wk.toNatClampNeg) 7 0) 96) ∧ zm_T mi (mi 49 wk.toNatClampNeg)) :
    zc_M l D cA Y_Model_tick 1 0 0 ad sh sh z [.ref (ad 32), .int wk] mi ml none ((q_tick wk mi ml).1) ((q_tick wk mi ml).2) z := by
  refine zc_enter (own := R_Model) (by decide) rfl (Nat.le_of_ble_eq_true rfl) ?_
  intro p e s m below meth c X hr hlocks hnm hB ls hl
  have X : zw_C D cA R_Model prog_9_method_15_code 4 p m c s := X
  have hr : meth.sig.returnType = none := hr
  have hx := X.1
  have hb := X.2.1
  have hl : lv_has ls 4 [(0, .ref (ad 32)), (1, .int wk)] := hl
  unfold q_tick q_tick2
  refine lv_aload_n hx hb d_Model_tick_0 rfl (lv_at hl 0 rfl) ?_
  refine zw_getR X hB fl_Model_60 32 (hm 32 _ rfl) rfl d_Model_tick_1 ?_
  refine lv_iload_n hx hb d_Model_tick_4 rfl (lv_at hl 1 rfl) ?_
  refine zw_iald X hB 49 (hm 49 _ rfl) hw d_Model_tick_5 ?_
  refine lv_istore_n (lv' := [(2, .int (mi 49 wk.toNatClampNeg)), (0, .ref (ad 32)), (1, .int wk)]) hx hb d_Model_tick_6 rfl hl (by decide) rfl (fun ls hl => ?_)
  refine lv_iload_n hx hb d_Model_tick_7 rfl (lv_at hl 0 rfl) ?_
  refine lv_if_ge (tgt := 37) hx hb d_Model_tick_8 (by decide) (fun c_8 => ?_) (fun c_8 => ?_)
  · rw [if_pos c_8]
    unfold q_tick3
    obtain ⟨hy, hwt, hTT⟩ := hT c_8
    obtain ⟨w6, hw6, ew6⟩ := hN.1 _ (vlt hy)
    refine lv_aload_n hx hb d_Model_tick_37 rfl (lv_at hl 1 rfl) ?_
    refine lv_iload_n hx hb d_Model_tick_38 rfl (lv_at hl 0 rfl) ?_
    refine zw_callVr X hB mv_Model_130 32 (hm 32 _ rfl) rfl (c_Model_waitsFor hm z mi ml (mi 49 wk.toNatClampNeg) hy w6 hw6 ew6 (fun k hk => zm_at hy k hk) (fun k hk => (hN.2.1 k hk).1)) rfl hl.1 ⟨Nat.le_of_ble_eq_true rfl, Nat.le_of_ble_eq_true rfl⟩ rfl (Nat.le_of_ble_eq_true rfl) ⟨Nat.le_of_ble_eq_true rfl, Nat.le_of_ble_eq_true rfl⟩ d_Model_tick_39 (fun H locs hB => ?_)
    refine lv_istore_n (lv' := [(3, .int (q_waits mi (mi 49 wk.toNatClampNeg) 7 0)), (2, .int (mi 49 wk.toNatClampNeg)), (0, .ref (ad 32)), (1, .int wk)]) hx hb d_Model_tick_42 rfl hl (by decide) rfl (fun ls hl => ?_)
    refine lv_iload_n hx hb d_Model_tick_43 rfl (lv_at hl 0 rfl) ?_
    refine lv_if_lt (tgt := 80) hx hb d_Model_tick_44 (by decide) (fun c_44 => ?_) (fun c_44 => ?_)
    · rw [if_pos c_44]
      unfold q_tick4
      obtain ⟨w8, hw8, ew8⟩ := hN.2.2
      refine lv_aload_n hx hb d_Model_tick_80 rfl (lv_at hl 2 rfl) ?_
      refine lv_iload_n hx hb d_Model_tick_81 rfl (lv_at hl 3 rfl) ?_
      refine lv_iload_n hx hb d_Model_tick_82 rfl (lv_at hl 1 rfl) ?_
      refine zw_callVr X hB mv_Model_137 32 (hm 32 _ rfl) rfl (c_Model_fails hm z mi ml wk (mi 49 wk.toNatClampNeg) hy w8 hw8 ew8) rfl hl.1 ⟨Nat.le_of_ble_eq_true rfl, Nat.le_of_ble_eq_true rfl⟩ rfl (Nat.le_of_ble_eq_true rfl) ⟨Nat.le_of_ble_eq_true rfl, Nat.le_of_ble_eq_true rfl⟩ d_Model_tick_83 (fun H locs hB => ?_)
      obtain ⟨mi_1, emi_1⟩ : ∃ y, y = (q_fails wk (mi 49 wk.toNatClampNeg) mi 9 0).2 := ⟨_, rfl⟩
      rw [← emi_1] at hB
      refine lv_if_eq (tgt := 152) hx hb d_Model_tick_86 (by decide) (fun c_86 => ?_) (fun c_86 => ?_)
      · rw [if_pos c_86]
        have hN2 : zm_N mi_1 := (by rw [emi_1]; exact zm_N_same (fun a b h => q_fails_off h _ _) hN)
        have hT2 : zm_T mi_1 (mi 49 wk.toNatClampNeg) := (by rw [emi_1]; exact zm_T_same (fun a b h => q_fails_off h _ _) hTT)
        refine lv_aload_n hx hb d_Model_tick_152 rfl (lv_at hl 2 rfl) ?_
        refine lv_iload_n hx hb d_Model_tick_153 rfl (lv_at hl 3 rfl) ?_
        refine lv_iload_n hx hb d_Model_tick_154 rfl (lv_at hl 1 rfl) ?_
        refine zw_callVv X hB mv_Model_144 32 (hm 32 _ rfl) rfl (c_Model_doStep hm z mi_1 ml wk (mi 49 wk.toNatClampNeg) hw hy hN2 hT2) rfl hl.1 ⟨Nat.le_of_ble_eq_true rfl, Nat.le_of_ble_eq_true rfl⟩ rfl (Nat.le_of_ble_eq_true rfl) ⟨Nat.le_of_ble_eq_true rfl, Nat.le_of_ble_eq_true rfl⟩ d_Model_tick_155 (fun H locs hB => ?_)
        obtain ⟨mi_2, emi_2⟩ : ∃ y, y = q_step wk (mi 49 wk.toNatClampNeg) mi_1 := ⟨_, rfl⟩
        rw [← emi_2] at hB
        obtain ⟨ml_3, eml_3⟩ : ∃ y, y = q_stepL mi_1 ml (mi 49 wk.toNatClampNeg) := ⟨_, rfl⟩
        rw [← eml_3] at hB
        exact zc_vret X hr hlocks hB (by subst eml_3; subst emi_2; subst emi_1; rfl) (by subst eml_3; subst emi_2; subst emi_1; rfl) (by subst eml_3; subst emi_2; subst emi_1; rfl) d_Model_tick_158
      · rw [if_neg c_86]
        have hT2 : zm_T mi_1 (mi 49 wk.toNatClampNeg) := (by rw [emi_1]; exact zm_T_same (fun a b h => q_fails_off h _ _) hTT)
        refine lv_aload_n hx hb d_Model_tick_89 rfl (lv_at hl 2 rfl) ?_
        refine zw_getR X hB fl_Model_60 32 (hm 32 _ rfl) rfl d_Model_tick_90 ?_
        refine lv_iload_n hx hb d_Model_tick_93 rfl (lv_at hl 3 rfl) ?_
        refine lv_bipush (v := (-2)) hx hb d_Model_tick_94 (by decide) ?_
        refine zw_iast X hB 49 (hm 49 _ rfl) hw d_Model_tick_96 (fun H locs hB => ?_)
        obtain ⟨mi_4, emi_4⟩ : ∃ y, y = zw_up mi_1 49 wk.toNatClampNeg (-2) := ⟨_, rfl⟩
        rw [← emi_4] at hB
        refine lv_aload_n hx hb d_Model_tick_97 rfl (lv_at hl 2 rfl) ?_
        refine lv_dup hx hb d_Model_tick_98 rfl ?_
        refine zw_getI X hB fl_Model_141 32 (hm 32 _ rfl) rfl d_Model_tick_99 ?_
        refine lv_iconst (v := 1) hx hb d_Model_tick_102 (by decide) ?_
        refine lv_isub hx hb d_Model_tick_103 ?_
        refine zw_putI X hB fp_Model_141 (fun h => by cases h) 32 (hm 32 _ rfl) rfl d_Model_tick_104 (fun H locs hB => ?_)
        obtain ⟨mi_5, emi_5⟩ : ∃ y, y = zw_up mi_4 32 25 ((mi_4 32 25) - 1) := ⟨_, rfl⟩
        rw [← emi_5] at hB
        refine lv_aload_n hx hb d_Model_tick_107 rfl (lv_at hl 2 rfl) ?_
        refine zw_getR X hB fl_Model_57 32 (hm 32 _ rfl) rfl d_Model_tick_108 ?_
        refine lv_iload_n hx hb d_Model_tick_111 rfl (lv_at hl 1 rfl) ?_
        refine lv_iconst (v := 0) hx hb d_Model_tick_112 (by decide) ?_
        refine zw_iast X hB 48 (hm 48 _ rfl) hy d_Model_tick_113 (fun H locs hB => ?_)
        obtain ⟨mi_6, emi_6⟩ : ∃ y, y = zw_up mi_5 48 (mi 49 wk.toNatClampNeg).toNatClampNeg 0 := ⟨_, rfl⟩
        rw [← emi_6] at hB
        refine lv_aload_n hx hb d_Model_tick_114 rfl (lv_at hl 2 rfl) ?_
        refine lv_dup hx hb d_Model_tick_115 rfl ?_
        refine zw_getI X hB fl_Model_105 32 (hm 32 _ rfl) rfl d_Model_tick_116 ?_
        refine lv_aload_n hx hb d_Model_tick_119 rfl (lv_at hl 2 rfl) ?_
        refine zw_getR X hB fl_Model_13 32 (hm 32 _ rfl) rfl d_Model_tick_120 ?_
        refine lv_iload_n hx hb d_Model_tick_123 rfl (lv_at hl 1 rfl) ?_
        refine zw_iald X hB 34 (hm 34 _ rfl) hy d_Model_tick_124 ?_
        refine lv_isub hx hb d_Model_tick_125 ?_
        refine zw_putI X hB fp_Model_105 (fun h => by cases h) 32 (hm 32 _ rfl) rfl d_Model_tick_126 (fun H locs hB => ?_)
        obtain ⟨mi_7, emi_7⟩ : ∃ y, y = zw_up mi_6 32 24 ((mi_6 32 24) - (mi_6 34 (mi 49 wk.toNatClampNeg).toNatClampNeg)) := ⟨_, rfl⟩
        rw [← emi_7] at hB
        refine lv_aload_n hx hb d_Model_tick_129 rfl (lv_at hl 2 rfl) ?_
        refine zw_getR X hB fl_Model_63 32 (hm 32 _ rfl) rfl d_Model_tick_130 ?_
        refine lv_aload_n hx hb d_Model_tick_133 rfl (lv_at hl 2 rfl) ?_
        refine zw_getI X hB fl_Model_102 32 (hm 32 _ rfl) rfl d_Model_tick_134 ?_
        refine lv_iload_n hx hb d_Model_tick_137 rfl (lv_at hl 1 rfl) ?_
        refine zw_iast X hB 50 (hm 50 _ rfl) (by subst_vars; have h9 := hT2.2.2.2; simpa [zw_up] using h9) d_Model_tick_138 (fun H locs hB => ?_)
        obtain ⟨mi_8, emi_8⟩ : ∃ y, y = zw_up mi_7 50 (mi_7 32 23).toNatClampNeg (mi 49 wk.toNatClampNeg) := ⟨_, rfl⟩
        rw [← emi_8] at hB
        refine lv_aload_n hx hb d_Model_tick_139 rfl (lv_at hl 2 rfl) ?_
        refine lv_dup hx hb d_Model_tick_140 rfl ?_
        refine zw_getI X hB fl_Model_102 32 (hm 32 _ rfl) rfl d_Model_tick_141 ?_
        refine lv_iconst (v := 1) hx hb d_Model_tick_144 (by decide) ?_
        refine lv_iadd hx hb d_Model_tick_145 ?_
        refine zw_putI X hB fp_Model_102 (fun h => by cases h) 32 (hm 32 _ rfl) rfl d_Model_tick_146 (fun H locs hB => ?_)
        obtain ⟨mi_9, emi_9⟩ : ∃ y, y = zw_up mi_8 32 23 ((mi_8 32 23) + 1) := ⟨_, rfl⟩
        rw [← emi_9] at hB
        refine lv_goto (tgt := 158) hx hb d_Model_tick_149 (by decide) ?_
        exact zc_vret X hr hlocks hB (by subst emi_9; subst emi_8; subst emi_7; subst emi_6; subst emi_5; subst emi_4; subst emi_1; rfl) (by subst emi_9; subst emi_8; subst emi_7; subst emi_6; subst emi_5; subst emi_4; subst emi_1; rfl) (by subst emi_9; subst emi_8; subst emi_7; subst emi_6; subst emi_5; subst emi_4; subst emi_1; rfl) d_Model_tick_158
    · rw [if_neg c_44]
      have hin := hwt c_44
      have ho1 := (hN.2.1 _ (vlt hin)).1
      refine lv_aload_n hx hb d_Model_tick_47 rfl (lv_at hl 2 rfl) ?_
      refine zw_getR X hB fl_Model_72 32 (hm 32 _ rfl) rfl d_Model_tick_48 ?_
      refine lv_bipush (v := 16) hx hb d_Model_tick_51 (by decide) ?_
      refine lv_iload_n hx hb d_Model_tick_53 rfl (lv_at hl 1 rfl) ?_
      refine lv_imul hx hb d_Model_tick_54 ?_
      refine lv_aload_n hx hb d_Model_tick_55 rfl (lv_at hl 2 rfl) ?_
      refine zw_getR X hB fl_Model_26 32 (hm 32 _ rfl) rfl d_Model_tick_56 ?_
      refine lv_iload_n hx hb d_Model_tick_59 rfl (lv_at hl 0 rfl) ?_
      refine zw_iald X hB 38 (hm 38 _ rfl) hin d_Model_tick_60 ?_
      refine lv_iadd hx hb d_Model_tick_61 ?_
      refine lv_dup2_11 hx hb d_Model_tick_62 rfl rfl ?_
      refine zw_iald X hB 53 (hm 53 _ rfl) (zm_16 hy ho1) d_Model_tick_63 ?_
      refine lv_iconst (v := 1) hx hb d_Model_tick_64 (by decide) ?_
      refine lv_iadd hx hb d_Model_tick_65 ?_
      refine zw_iast X hB 53 (hm 53 _ rfl) (zm_16 hy ho1) d_Model_tick_66 (fun H locs hB => ?_)
      obtain ⟨mi_10, emi_10⟩ : ∃ y, y = zw_up mi 53 ((16 * (mi 49 wk.toNatClampNeg)) + (mi 38 (q_waits mi (mi 49 wk.toNatClampNeg) 7 0).toNatClampNeg)).toNatClampNeg ((mi 53 ((16 * (mi 49 wk.toNatClampNeg)) + (mi 38 (q_waits mi (mi 49 wk.toNatClampNeg) 7 0).toNatClampNeg)).toNatClampNeg) + 1) := ⟨_, rfl⟩
      rw [← emi_10] at hB
      refine lv_aload_n hx hb d_Model_tick_67 rfl (lv_at hl 2 rfl) ?_
      refine lv_dup hx hb d_Model_tick_68 rfl ?_
      refine zw_getI X hB fl_Model_134 32 (hm 32 _ rfl) rfl d_Model_tick_69 ?_
      refine lv_iconst (v := 1) hx hb d_Model_tick_72 (by decide) ?_
      refine lv_iadd hx hb d_Model_tick_73 ?_
      refine zw_putI X hB fp_Model_134 (fun h => by cases h) 32 (hm 32 _ rfl) rfl d_Model_tick_74 (fun H locs hB => ?_)
      obtain ⟨mi_11, emi_11⟩ : ∃ y, y = zw_up mi_10 32 32 ((mi_10 32 32) + 1) := ⟨_, rfl⟩
      rw [← emi_11] at hB
      refine lv_goto (tgt := 158) hx hb d_Model_tick_77 (by decide) ?_
      exact zc_vret X hr hlocks hB (by subst emi_11; subst emi_10; rfl) (by subst emi_11; subst emi_10; rfl) (by subst emi_11; subst emi_10; rfl) d_Model_tick_158
  · rw [if_neg c_8]
    refine lv_aload_n hx hb d_Model_tick_11 rfl (lv_at hl 1 rfl) ?_
    refine zw_callVr X hB mv_Model_119 32 (hm 32 _ rfl) rfl (c_Model_canTake hm z mi ml hq0) rfl hl.1 ⟨Nat.le_of_ble_eq_true rfl, Nat.le_of_ble_eq_true rfl⟩ rfl (Nat.le_of_ble_eq_true rfl) ⟨Nat.le_of_ble_eq_true rfl, Nat.le_of_ble_eq_true rfl⟩ d_Model_tick_12 (fun H locs hB => ?_)
    refine lv_if_eq (tgt := 26) hx hb d_Model_tick_15 (by decide) (fun c_15 => ?_) (fun c_15 => ?_)
    · rw [if_pos c_15]
      refine lv_aload_n hx hb d_Model_tick_26 rfl (lv_at hl 1 rfl) ?_
      refine lv_dup hx hb d_Model_tick_27 rfl ?_
      refine zw_getI X hB fl_Model_127 32 (hm 32 _ rfl) rfl d_Model_tick_28 ?_
      refine lv_iconst (v := 1) hx hb d_Model_tick_31 (by decide) ?_
      refine lv_iadd hx hb d_Model_tick_32 ?_
      refine zw_putI X hB fp_Model_127 (fun h => by cases h) 32 (hm 32 _ rfl) rfl d_Model_tick_33 (fun H locs hB => ?_)
      obtain ⟨mi_12, emi_12⟩ : ∃ y, y = zw_up mi 32 31 ((mi 32 31) + 1) := ⟨_, rfl⟩
      rw [← emi_12] at hB
      exact zc_vret X hr hlocks hB (by subst emi_12; rfl) (by subst emi_12; rfl) (by subst emi_12; rfl) d_Model_tick_36
    · rw [if_neg c_15]
      obtain ⟨q, hq1, hq2⟩ := hq c_15
      refine lv_aload_n hx hb d_Model_tick_18 rfl (lv_at hl 1 rfl) ?_
      refine lv_iload_n hx hb d_Model_tick_19 rfl (lv_at hl 2 rfl) ?_
      refine zw_callVv X hB mv_Model_123 32 (hm 32 _ rfl) rfl (c_Model_take hm z mi ml wk hw hq0 q hq1 hq2) rfl hl.1 ⟨Nat.le_of_ble_eq_true rfl, Nat.le_of_ble_eq_true rfl⟩ rfl (Nat.le_of_ble_eq_true rfl) ⟨Nat.le_of_ble_eq_true rfl, Nat.le_of_ble_eq_true rfl⟩ d_Model_tick_20 (fun H locs hB => ?_)
      obtain ⟨mi_13, emi_13⟩ : ∃ y, y = q_take wk mi := ⟨_, rfl⟩
      rw [← emi_13] at hB
      refine lv_goto (tgt := 36) hx hb d_Model_tick_23 (by decide) ?_
      exact zc_vret X hr hlocks hB (by subst emi_13; rfl) (by subst emi_13; rfl) (by subst emi_13; rfl) d_Model_tick_36
end
section
/-- what 'ending' needs of the reference's state, with w workers -/
def zm_E (w : Nat) (mi : zw_I) : Prop := zm_N mi ∧ vp_in (mi 50 (0 : Int32).toNatClampNeg) 16 ∧ (mi 32 16 = -1 ∨ vp_in (mi 32 16) 16) ∧ ∀ k : Nat, k < w → mi 49 k = -2 ∨ mi 49 k = -1 ∨ vp_in (mi 49 k) 16
/-- the search for the worker at a place ends within the workers -/
def zq_F (mi : zw_I) : Nat → Int32 → Nat → Prop
  | 0, _, _ => False
  | f + 1, pl, i => i < 16 ∧ (mi 49 i = -2 → zq_F mi f (pl - 0) (i + 1)) ∧ (¬ mi 49 i = -2 → ¬ pl ≤ 0 → zq_F mi f (pl - 1) (i + 1))
/-- what a tick needs -/
def zq_T (mi : zw_I) (wk : Int32) : Prop := vp_in wk 16 ∧ zm_N mi ∧ vp_in (mi 50 (0 : Int32).toNatClampNeg) 16 ∧ (¬ q_canTake mi = 0 → ∃ q : Nat, q < 16 ∧ mi 32 23 = nI (q + 1)) ∧ (0 ≤ mi 49 wk.toNatClampNeg → vp_in (mi 49 wk.toNatClampNeg) 16 ∧ (¬ q_waits mi (mi 49 wk.toNatClampNeg) 7 0 < 0 → vp_in (q_waits mi (mi 49 wk.toNatClampNeg) 7 0) 96) ∧ zm_T mi (mi 49 wk.toNatClampNeg))
def q_who (mi : zw_I) (x : Int64) : Int32 := q_find mi 17 (q_place mi x) 0
/-- an invariant of a run of the reference: w workers, n shares -/
def zq_K (n w : Nat) (G : zw_I → Prop) : Prop := (∀ mi : zw_I, G mi → zm_E w mi ∧ mi 32 1 = nI n ∧ ∀ k : Nat, k < n → vp_in (mi 33 k) 21) ∧ ∀ (mi : zw_I) (ml : zw_L) (x : Int64), G mi → q_end mi (nI w) = 2 → ¬ (mi 32 25).toInt64 = 0 ∧ zq_F mi 17 (q_place mi x) 0 ∧ zq_T (q_t1 mi) (q_who mi x) ∧ G (q_tick (q_who mi x) (q_t1 mi) ml).1 ∧ (q_tick (q_who mi x) (q_t1 mi) ml).1 32 30 = mi 32 30 + 1
theorem q_end_ticks {mi : zw_I} {wk : Int32} (h : q_end mi wk = 2) : ¬ mi 32 30 = 20000 := by
  intro e
  unfold q_end q_end2 at h
  simp only [e, if_true] at h
  repeat (split at h <;> try (revert h; decide))
end
section
abbrev Y_Model_isStuck : zc_Y := (⟨R_Model, "isStuck", "(I)Z"⟩, prog_9_method_17_code, 4, (some FieldType.boolean))
abbrev Y_Model_ending : zc_Y := (⟨R_Model, "ending", "(I)I"⟩, prog_9_method_18_code, 2, (some FieldType.int))
abbrev Y_Model_begin : zc_Y := (⟨R_Model, "begin", "(I)V"⟩, prog_9_method_19_code, 3, none)
abbrev Y_Model_at : zc_Y := (⟨R_Model, "at", "(I)J"⟩, prog_9_method_21_code, 2, (some FieldType.long))
abbrev Y_Model_order : zc_Y := (⟨R_Model, "order", "(I)I"⟩, prog_9_method_22_code, 2, (some FieldType.int))
abbrev Y_Model_begun : zc_Y := (⟨R_Model, "begun", "(I)I"⟩, prog_9_method_23_code, 2, (some FieldType.int))
abbrev Y_Model_waited : zc_Y := (⟨R_Model, "waited", "(II)I"⟩, prog_9_method_24_code, 3, (some FieldType.int))
abbrev Y_Model_told : zc_Y := (⟨R_Model, "told", "(I)I"⟩, prog_9_method_25_code, 4, (some FieldType.int))
abbrev Y_Model_clear : zc_Y := (⟨R_Model, "clear", "()V"⟩, prog_9_method_26_code, 2, none)
theorem d_Model_isStuck_0 : decode prog_9_method_17_code 0 = .ok (.iconst 1, 1) := by decide +kernel
theorem d_Model_isStuck_1 : decode prog_9_method_17_code 1 = .ok (.istore_n 2, 1) := by decide +kernel
theorem d_Model_isStuck_2 : decode prog_9_method_17_code 2 = .ok (.iconst 0, 1) := by decide +kernel
theorem d_Model_isStuck_3 : decode prog_9_method_17_code 3 = .ok (.istore_n 3, 1) := by decide +kernel
theorem d_Model_isStuck_4 : decode prog_9_method_17_code 4 = .ok (.iload_n 3, 1) := by decide +kernel
theorem d_Model_isStuck_5 : decode prog_9_method_17_code 5 = .ok (.iload_n 1, 1) := by decide +kernel
theorem d_Model_isStuck_6 : decode prog_9_method_17_code 6 = .ok (.if_icmp .ge 63, 3) := by decide +kernel
theorem d_Model_isStuck_9 : decode prog_9_method_17_code 9 = .ok (.iload_n 2, 1) := by decide +kernel
theorem d_Model_isStuck_10 : decode prog_9_method_17_code 10 = .ok (.ifCond .eq 59, 3) := by decide +kernel
theorem d_Model_isStuck_13 : decode prog_9_method_17_code 13 = .ok (.aload_n 0, 1) := by decide +kernel
theorem d_Model_isStuck_14 : decode prog_9_method_17_code 14 = .ok (.getfield 60, 3) := by decide +kernel
theorem d_Model_isStuck_17 : decode prog_9_method_17_code 17 = .ok (.iload_n 3, 1) := by decide +kernel
theorem d_Model_isStuck_18 : decode prog_9_method_17_code 18 = .ok (.iaload, 1) := by decide +kernel
theorem d_Model_isStuck_19 : decode prog_9_method_17_code 19 = .ok (.bipush (-2), 2) := by decide +kernel
theorem d_Model_isStuck_21 : decode prog_9_method_17_code 21 = .ok (.if_icmp .eq 36, 3) := by decide +kernel
theorem d_Model_isStuck_24 : decode prog_9_method_17_code 24 = .ok (.aload_n 0, 1) := by decide +kernel
theorem d_Model_isStuck_25 : decode prog_9_method_17_code 25 = .ok (.getfield 60, 3) := by decide +kernel
theorem d_Model_isStuck_28 : decode prog_9_method_17_code 28 = .ok (.iload_n 3, 1) := by decide +kernel
theorem d_Model_isStuck_29 : decode prog_9_method_17_code 29 = .ok (.iaload, 1) := by decide +kernel
theorem d_Model_isStuck_30 : decode prog_9_method_17_code 30 = .ok (.iconst (-1), 1) := by decide +kernel
theorem d_Model_isStuck_31 : decode prog_9_method_17_code 31 = .ok (.if_icmp .ne 13, 3) := by decide +kernel
theorem d_Model_isStuck_34 : decode prog_9_method_17_code 34 = .ok (.aload_n 0, 1) := by decide +kernel
theorem d_Model_isStuck_35 : decode prog_9_method_17_code 35 = .ok (.invokevirtual 119, 3) := by decide +kernel
theorem d_Model_isStuck_38 : decode prog_9_method_17_code 38 = .ok (.ifCond .ne 23, 3) := by decide +kernel
theorem d_Model_isStuck_41 : decode prog_9_method_17_code 41 = .ok (.goto 16, 3) := by decide +kernel
theorem d_Model_isStuck_44 : decode prog_9_method_17_code 44 = .ok (.aload_n 0, 1) := by decide +kernel
theorem d_Model_isStuck_45 : decode prog_9_method_17_code 45 = .ok (.aload_n 0, 1) := by decide +kernel
theorem d_Model_isStuck_46 : decode prog_9_method_17_code 46 = .ok (.getfield 60, 3) := by decide +kernel
theorem d_Model_isStuck_49 : decode prog_9_method_17_code 49 = .ok (.iload_n 3, 1) := by decide +kernel
theorem d_Model_isStuck_50 : decode prog_9_method_17_code 50 = .ok (.iaload, 1) := by decide +kernel
theorem d_Model_isStuck_51 : decode prog_9_method_17_code 51 = .ok (.invokevirtual 130, 3) := by decide +kernel
theorem d_Model_isStuck_54 : decode prog_9_method_17_code 54 = .ok (.ifCond .lt 7, 3) := by decide +kernel
theorem d_Model_isStuck_57 : decode prog_9_method_17_code 57 = .ok (.iconst 1, 1) := by decide +kernel
theorem d_Model_isStuck_58 : decode prog_9_method_17_code 58 = .ok (.goto 4, 3) := by decide +kernel
theorem d_Model_isStuck_61 : decode prog_9_method_17_code 61 = .ok (.iconst 0, 1) := by decide +kernel
theorem d_Model_isStuck_62 : decode prog_9_method_17_code 62 = .ok (.istore_n 2, 1) := by decide +kernel
theorem d_Model_isStuck_63 : decode prog_9_method_17_code 63 = .ok (.iinc 3 1, 3) := by decide +kernel
theorem d_Model_isStuck_66 : decode prog_9_method_17_code 66 = .ok (.goto (-62), 3) := by decide +kernel
theorem d_Model_isStuck_69 : decode prog_9_method_17_code 69 = .ok (.iload_n 2, 1) := by decide +kernel
theorem d_Model_isStuck_70 : decode prog_9_method_17_code 70 = .ok (.ireturn, 1) := by decide +kernel
theorem d_Model_ending_0 : decode prog_9_method_18_code 0 = .ok (.aload_n 0, 1) := by decide +kernel
theorem d_Model_ending_1 : decode prog_9_method_18_code 1 = .ok (.getfield 116, 3) := by decide +kernel
theorem d_Model_ending_4 : decode prog_9_method_18_code 4 = .ok (.aload_n 0, 1) := by decide +kernel
theorem d_Model_ending_5 : decode prog_9_method_18_code 5 = .ok (.getfield 75, 3) := by decide +kernel
theorem d_Model_ending_8 : decode prog_9_method_18_code 8 = .ok (.if_icmp .ne 7, 3) := by decide +kernel
theorem d_Model_ending_11 : decode prog_9_method_18_code 11 = .ok (.iconst 0, 1) := by decide +kernel
theorem d_Model_ending_12 : decode prog_9_method_18_code 12 = .ok (.goto 66, 3) := by decide +kernel
theorem d_Model_ending_15 : decode prog_9_method_18_code 15 = .ok (.aload_n 0, 1) := by decide +kernel
theorem d_Model_ending_16 : decode prog_9_method_18_code 16 = .ok (.getfield 99, 3) := by decide +kernel
theorem d_Model_ending_19 : decode prog_9_method_18_code 19 = .ok (.iconst (-1), 1) := by decide +kernel
theorem d_Model_ending_20 : decode prog_9_method_18_code 20 = .ok (.if_icmp .eq 18, 3) := by decide +kernel
theorem d_Model_ending_23 : decode prog_9_method_18_code 23 = .ok (.aload_n 0, 1) := by decide +kernel
theorem d_Model_ending_24 : decode prog_9_method_18_code 24 = .ok (.aload_n 0, 1) := by decide +kernel
theorem d_Model_ending_25 : decode prog_9_method_18_code 25 = .ok (.getfield 99, 3) := by decide +kernel
theorem d_Model_ending_28 : decode prog_9_method_18_code 28 = .ok (.invokevirtual 148, 3) := by decide +kernel
theorem d_Model_ending_31 : decode prog_9_method_18_code 31 = .ok (.ifCond .eq 7, 3) := by decide +kernel
theorem d_Model_ending_34 : decode prog_9_method_18_code 34 = .ok (.iconst 1, 1) := by decide +kernel
theorem d_Model_ending_35 : decode prog_9_method_18_code 35 = .ok (.goto 43, 3) := by decide +kernel
theorem d_Model_ending_38 : decode prog_9_method_18_code 38 = .ok (.aload_n 0, 1) := by decide +kernel
theorem d_Model_ending_39 : decode prog_9_method_18_code 39 = .ok (.getfield 141, 3) := by decide +kernel
theorem d_Model_ending_42 : decode prog_9_method_18_code 42 = .ok (.ifCond .ne 7, 3) := by decide +kernel
theorem d_Model_ending_45 : decode prog_9_method_18_code 45 = .ok (.iconst (-1), 1) := by decide +kernel
theorem d_Model_ending_46 : decode prog_9_method_18_code 46 = .ok (.goto 32, 3) := by decide +kernel
theorem d_Model_ending_49 : decode prog_9_method_18_code 49 = .ok (.aload_n 0, 1) := by decide +kernel
theorem d_Model_ending_50 : decode prog_9_method_18_code 50 = .ok (.iload_n 1, 1) := by decide +kernel
theorem d_Model_ending_51 : decode prog_9_method_18_code 51 = .ok (.invokevirtual 151, 3) := by decide +kernel
theorem d_Model_ending_54 : decode prog_9_method_18_code 54 = .ok (.ifCond .eq 8, 3) := by decide +kernel
theorem d_Model_ending_57 : decode prog_9_method_18_code 57 = .ok (.bipush (-2), 2) := by decide +kernel
theorem d_Model_ending_59 : decode prog_9_method_18_code 59 = .ok (.goto 19, 3) := by decide +kernel
theorem d_Model_ending_62 : decode prog_9_method_18_code 62 = .ok (.aload_n 0, 1) := by decide +kernel
theorem d_Model_ending_63 : decode prog_9_method_18_code 63 = .ok (.getfield 154, 3) := by decide +kernel
theorem d_Model_ending_66 : decode prog_9_method_18_code 66 = .ok (.sipush 20000, 3) := by decide +kernel
theorem d_Model_ending_69 : decode prog_9_method_18_code 69 = .ok (.if_icmp .ne 8, 3) := by decide +kernel
theorem d_Model_ending_72 : decode prog_9_method_18_code 72 = .ok (.bipush (-3), 2) := by decide +kernel
theorem d_Model_ending_74 : decode prog_9_method_18_code 74 = .ok (.goto 4, 3) := by decide +kernel
theorem d_Model_ending_77 : decode prog_9_method_18_code 77 = .ok (.iconst 2, 1) := by decide +kernel
theorem d_Model_ending_78 : decode prog_9_method_18_code 78 = .ok (.ireturn, 1) := by decide +kernel
theorem d_Model_begin_0 : decode prog_9_method_19_code 0 = .ok (.iconst 0, 1) := by decide +kernel
theorem d_Model_begin_1 : decode prog_9_method_19_code 1 = .ok (.istore_n 2, 1) := by decide +kernel
theorem d_Model_begin_2 : decode prog_9_method_19_code 2 = .ok (.iload_n 2, 1) := by decide +kernel
theorem d_Model_begin_3 : decode prog_9_method_19_code 3 = .ok (.aload_n 0, 1) := by decide +kernel
theorem d_Model_begin_4 : decode prog_9_method_19_code 4 = .ok (.getfield 75, 3) := by decide +kernel
theorem d_Model_begin_7 : decode prog_9_method_19_code 7 = .ok (.if_icmp .ge 45, 3) := by decide +kernel
theorem d_Model_begin_10 : decode prog_9_method_19_code 10 = .ok (.aload_n 0, 1) := by decide +kernel
theorem d_Model_begin_11 : decode prog_9_method_19_code 11 = .ok (.getfield 57, 3) := by decide +kernel
theorem d_Model_begin_14 : decode prog_9_method_19_code 14 = .ok (.iload_n 2, 1) := by decide +kernel
theorem d_Model_begin_15 : decode prog_9_method_19_code 15 = .ok (.iconst 0, 1) := by decide +kernel
theorem d_Model_begin_16 : decode prog_9_method_19_code 16 = .ok (.iastore, 1) := by decide +kernel
theorem d_Model_begin_17 : decode prog_9_method_19_code 17 = .ok (.aload_n 0, 1) := by decide +kernel
theorem d_Model_begin_18 : decode prog_9_method_19_code 18 = .ok (.getfield 69, 3) := by decide +kernel
theorem d_Model_begin_21 : decode prog_9_method_19_code 21 = .ok (.iload_n 2, 1) := by decide +kernel
theorem d_Model_begin_22 : decode prog_9_method_19_code 22 = .ok (.iconst 0, 1) := by decide +kernel
theorem d_Model_begin_23 : decode prog_9_method_19_code 23 = .ok (.iastore, 1) := by decide +kernel
theorem d_Model_begin_24 : decode prog_9_method_19_code 24 = .ok (.aload_n 0, 1) := by decide +kernel
theorem d_Model_begin_25 : decode prog_9_method_19_code 25 = .ok (.getfield 63, 3) := by decide +kernel
theorem d_Model_begin_28 : decode prog_9_method_19_code 28 = .ok (.iload_n 2, 1) := by decide +kernel
theorem d_Model_begin_29 : decode prog_9_method_19_code 29 = .ok (.iload_n 2, 1) := by decide +kernel
theorem d_Model_begin_30 : decode prog_9_method_19_code 30 = .ok (.iastore, 1) := by decide +kernel
theorem d_Model_begin_31 : decode prog_9_method_19_code 31 = .ok (.aload_n 0, 1) := by decide +kernel
theorem d_Model_begin_32 : decode prog_9_method_19_code 32 = .ok (.getfield 54, 3) := by decide +kernel
theorem d_Model_begin_35 : decode prog_9_method_19_code 35 = .ok (.bipush 21, 2) := by decide +kernel
theorem d_Model_begin_37 : decode prog_9_method_19_code 37 = .ok (.iload_n 2, 1) := by decide +kernel
theorem d_Model_begin_38 : decode prog_9_method_19_code 38 = .ok (.imul, 1) := by decide +kernel
theorem d_Model_begin_39 : decode prog_9_method_19_code 39 = .ok (.aload_n 0, 1) := by decide +kernel
theorem d_Model_begin_40 : decode prog_9_method_19_code 40 = .ok (.getfield 16, 3) := by decide +kernel
theorem d_Model_begin_43 : decode prog_9_method_19_code 43 = .ok (.iload_n 2, 1) := by decide +kernel
theorem d_Model_begin_44 : decode prog_9_method_19_code 44 = .ok (.laload, 1) := by decide +kernel
theorem d_Model_begin_45 : decode prog_9_method_19_code 45 = .ok (.lastore, 1) := by decide +kernel
theorem d_Model_begin_46 : decode prog_9_method_19_code 46 = .ok (.iinc 2 1, 3) := by decide +kernel
theorem d_Model_begin_49 : decode prog_9_method_19_code 49 = .ok (.goto (-47), 3) := by decide +kernel
theorem d_Model_begin_52 : decode prog_9_method_19_code 52 = .ok (.iconst 0, 1) := by decide +kernel
theorem d_Model_begin_53 : decode prog_9_method_19_code 53 = .ok (.istore_n 2, 1) := by decide +kernel
theorem d_Model_begin_54 : decode prog_9_method_19_code 54 = .ok (.iload_n 2, 1) := by decide +kernel
theorem d_Model_begin_55 : decode prog_9_method_19_code 55 = .ok (.sipush 256, 3) := by decide +kernel
theorem d_Model_begin_58 : decode prog_9_method_19_code 58 = .ok (.if_icmp .ge 16, 3) := by decide +kernel
theorem d_Model_begin_61 : decode prog_9_method_19_code 61 = .ok (.aload_n 0, 1) := by decide +kernel
theorem d_Model_begin_62 : decode prog_9_method_19_code 62 = .ok (.getfield 72, 3) := by decide +kernel
theorem d_Model_begin_65 : decode prog_9_method_19_code 65 = .ok (.iload_n 2, 1) := by decide +kernel
theorem d_Model_begin_66 : decode prog_9_method_19_code 66 = .ok (.iconst 0, 1) := by decide +kernel
theorem d_Model_begin_67 : decode prog_9_method_19_code 67 = .ok (.iastore, 1) := by decide +kernel
theorem d_Model_begin_68 : decode prog_9_method_19_code 68 = .ok (.iinc 2 1, 3) := by decide +kernel
theorem d_Model_begin_71 : decode prog_9_method_19_code 71 = .ok (.goto (-17), 3) := by decide +kernel
theorem d_Model_begin_74 : decode prog_9_method_19_code 74 = .ok (.iconst 0, 1) := by decide +kernel
theorem d_Model_begin_75 : decode prog_9_method_19_code 75 = .ok (.istore_n 2, 1) := by decide +kernel
theorem d_Model_begin_76 : decode prog_9_method_19_code 76 = .ok (.iload_n 2, 1) := by decide +kernel
theorem d_Model_begin_77 : decode prog_9_method_19_code 77 = .ok (.iload_n 1, 1) := by decide +kernel
theorem d_Model_begin_78 : decode prog_9_method_19_code 78 = .ok (.if_icmp .ge 16, 3) := by decide +kernel
theorem d_Model_begin_81 : decode prog_9_method_19_code 81 = .ok (.aload_n 0, 1) := by decide +kernel
theorem d_Model_begin_82 : decode prog_9_method_19_code 82 = .ok (.getfield 60, 3) := by decide +kernel
theorem d_Model_begin_85 : decode prog_9_method_19_code 85 = .ok (.iload_n 2, 1) := by decide +kernel
theorem d_Model_begin_86 : decode prog_9_method_19_code 86 = .ok (.iconst (-1), 1) := by decide +kernel
theorem d_Model_begin_87 : decode prog_9_method_19_code 87 = .ok (.iastore, 1) := by decide +kernel
theorem d_Model_begin_88 : decode prog_9_method_19_code 88 = .ok (.iinc 2 1, 3) := by decide +kernel
theorem d_Model_begin_91 : decode prog_9_method_19_code 91 = .ok (.goto (-15), 3) := by decide +kernel
theorem d_Model_begin_94 : decode prog_9_method_19_code 94 = .ok (.iconst 0, 1) := by decide +kernel
theorem d_Model_begin_95 : decode prog_9_method_19_code 95 = .ok (.istore_n 2, 1) := by decide +kernel
theorem d_Model_begin_96 : decode prog_9_method_19_code 96 = .ok (.iload_n 2, 1) := by decide +kernel
theorem d_Model_begin_97 : decode prog_9_method_19_code 97 = .ok (.aload_n 0, 1) := by decide +kernel
theorem d_Model_begin_98 : decode prog_9_method_19_code 98 = .ok (.getfield 96, 3) := by decide +kernel
theorem d_Model_begin_101 : decode prog_9_method_19_code 101 = .ok (.if_icmp .ge 21, 3) := by decide +kernel
theorem d_Model_begin_104 : decode prog_9_method_19_code 104 = .ok (.aload_n 0, 1) := by decide +kernel
theorem d_Model_begin_105 : decode prog_9_method_19_code 105 = .ok (.getfield 44, 3) := by decide +kernel
theorem d_Model_begin_108 : decode prog_9_method_19_code 108 = .ok (.iload_n 2, 1) := by decide +kernel
theorem d_Model_begin_109 : decode prog_9_method_19_code 109 = .ok (.aload_n 0, 1) := by decide +kernel
theorem d_Model_begin_110 : decode prog_9_method_19_code 110 = .ok (.getfield 41, 3) := by decide +kernel
theorem d_Model_begin_113 : decode prog_9_method_19_code 113 = .ok (.iload_n 2, 1) := by decide +kernel
theorem d_Model_begin_114 : decode prog_9_method_19_code 114 = .ok (.iaload, 1) := by decide +kernel
theorem d_Model_begin_115 : decode prog_9_method_19_code 115 = .ok (.iastore, 1) := by decide +kernel
theorem d_Model_begin_116 : decode prog_9_method_19_code 116 = .ok (.iinc 2 1, 3) := by decide +kernel
theorem d_Model_begin_119 : decode prog_9_method_19_code 119 = .ok (.goto (-23), 3) := by decide +kernel
theorem d_Model_begin_122 : decode prog_9_method_19_code 122 = .ok (.aload_n 0, 1) := by decide +kernel
theorem d_Model_begin_123 : decode prog_9_method_19_code 123 = .ok (.aload_n 0, 1) := by decide +kernel
theorem d_Model_begin_124 : decode prog_9_method_19_code 124 = .ok (.getfield 75, 3) := by decide +kernel
theorem d_Model_begin_127 : decode prog_9_method_19_code 127 = .ok (.putfield 102, 3) := by decide +kernel
theorem d_Model_begin_130 : decode prog_9_method_19_code 130 = .ok (.aload_n 0, 1) := by decide +kernel
theorem d_Model_begin_131 : decode prog_9_method_19_code 131 = .ok (.iconst 0, 1) := by decide +kernel
theorem d_Model_begin_132 : decode prog_9_method_19_code 132 = .ok (.putfield 105, 3) := by decide +kernel
theorem d_Model_begin_135 : decode prog_9_method_19_code 135 = .ok (.aload_n 0, 1) := by decide +kernel
theorem d_Model_begin_136 : decode prog_9_method_19_code 136 = .ok (.iload_n 1, 1) := by decide +kernel
theorem d_Model_begin_137 : decode prog_9_method_19_code 137 = .ok (.putfield 141, 3) := by decide +kernel
theorem d_Model_begin_140 : decode prog_9_method_19_code 140 = .ok (.aload_n 0, 1) := by decide +kernel
theorem d_Model_begin_141 : decode prog_9_method_19_code 141 = .ok (.iconst 0, 1) := by decide +kernel
theorem d_Model_begin_142 : decode prog_9_method_19_code 142 = .ok (.putfield 116, 3) := by decide +kernel
theorem d_Model_begin_145 : decode prog_9_method_19_code 145 = .ok (.aload_n 0, 1) := by decide +kernel
theorem d_Model_begin_146 : decode prog_9_method_19_code 146 = .ok (.iconst 0, 1) := by decide +kernel
theorem d_Model_begin_147 : decode prog_9_method_19_code 147 = .ok (.putfield 154, 3) := by decide +kernel
theorem d_Model_begin_150 : decode prog_9_method_19_code 150 = .ok (.aload_n 0, 1) := by decide +kernel
theorem d_Model_begin_151 : decode prog_9_method_19_code 151 = .ok (.iconst 0, 1) := by decide +kernel
theorem d_Model_begin_152 : decode prog_9_method_19_code 152 = .ok (.putfield 127, 3) := by decide +kernel
theorem d_Model_begin_155 : decode prog_9_method_19_code 155 = .ok (.aload_n 0, 1) := by decide +kernel
theorem d_Model_begin_156 : decode prog_9_method_19_code 156 = .ok (.iconst 0, 1) := by decide +kernel
theorem d_Model_begin_157 : decode prog_9_method_19_code 157 = .ok (.putfield 134, 3) := by decide +kernel
theorem d_Model_begin_160 : decode prog_9_method_19_code 160 = .ok (.aload_n 0, 1) := by decide +kernel
theorem d_Model_begin_161 : decode prog_9_method_19_code 161 = .ok (.iconst 0, 1) := by decide +kernel
theorem d_Model_begin_162 : decode prog_9_method_19_code 162 = .ok (.putfield 113, 3) := by decide +kernel
theorem d_Model_begin_165 : decode prog_9_method_19_code 165 = .ok (.aload_n 0, 1) := by decide +kernel
theorem d_Model_begin_166 : decode prog_9_method_19_code 166 = .ok (.iconst 0, 1) := by decide +kernel
theorem d_Model_begin_167 : decode prog_9_method_19_code 167 = .ok (.putfield 108, 3) := by decide +kernel
theorem d_Model_begin_170 : decode prog_9_method_19_code 170 = .ok (.return_, 1) := by decide +kernel
theorem d_Model_at_0 : decode prog_9_method_21_code 0 = .ok (.aload_n 0, 1) := by decide +kernel
theorem d_Model_at_1 : decode prog_9_method_21_code 1 = .ok (.aload_n 0, 1) := by decide +kernel
theorem d_Model_at_2 : decode prog_9_method_21_code 2 = .ok (.iload_n 1, 1) := by decide +kernel
theorem d_Model_at_3 : decode prog_9_method_21_code 3 = .ok (.invokevirtual 88, 3) := by decide +kernel
theorem d_Model_at_6 : decode prog_9_method_21_code 6 = .ok (.ifCond .ne 7, 3) := by decide +kernel
theorem d_Model_at_9 : decode prog_9_method_21_code 9 = .ok (.iconst 1, 1) := by decide +kernel
theorem d_Model_at_10 : decode prog_9_method_21_code 10 = .ok (.goto 17, 3) := by decide +kernel
theorem d_Model_at_13 : decode prog_9_method_21_code 13 = .ok (.aload_n 0, 1) := by decide +kernel
theorem d_Model_at_14 : decode prog_9_method_21_code 14 = .ok (.getfield 47, 3) := by decide +kernel
theorem d_Model_at_17 : decode prog_9_method_21_code 17 = .ok (.iload_n 1, 1) := by decide +kernel
theorem d_Model_at_18 : decode prog_9_method_21_code 18 = .ok (.baload, 1) := by decide +kernel
theorem d_Model_at_19 : decode prog_9_method_21_code 19 = .ok (.ifCond .ne 7, 3) := by decide +kernel
theorem d_Model_at_22 : decode prog_9_method_21_code 22 = .ok (.iconst 2, 1) := by decide +kernel
theorem d_Model_at_23 : decode prog_9_method_21_code 23 = .ok (.goto 4, 3) := by decide +kernel
theorem d_Model_at_26 : decode prog_9_method_21_code 26 = .ok (.iconst 0, 1) := by decide +kernel
theorem d_Model_at_27 : decode prog_9_method_21_code 27 = .ok (.putfield 85, 3) := by decide +kernel
theorem d_Model_at_30 : decode prog_9_method_21_code 30 = .ok (.aload_n 0, 1) := by decide +kernel
theorem d_Model_at_31 : decode prog_9_method_21_code 31 = .ok (.getfield 85, 3) := by decide +kernel
theorem d_Model_at_34 : decode prog_9_method_21_code 34 = .ok (.ifCond .le 7, 3) := by decide +kernel
theorem d_Model_at_37 : decode prog_9_method_21_code 37 = .ok (.lconst 0, 1) := by decide +kernel
theorem d_Model_at_38 : decode prog_9_method_21_code 38 = .ok (.goto 9, 3) := by decide +kernel
theorem d_Model_at_41 : decode prog_9_method_21_code 41 = .ok (.aload_n 0, 1) := by decide +kernel
theorem d_Model_at_42 : decode prog_9_method_21_code 42 = .ok (.getfield 51, 3) := by decide +kernel
theorem d_Model_at_45 : decode prog_9_method_21_code 45 = .ok (.iload_n 1, 1) := by decide +kernel
theorem d_Model_at_46 : decode prog_9_method_21_code 46 = .ok (.laload, 1) := by decide +kernel
theorem d_Model_at_47 : decode prog_9_method_21_code 47 = .ok (.lreturn, 1) := by decide +kernel
theorem d_Model_order_0 : decode prog_9_method_22_code 0 = .ok (.aload_n 0, 1) := by decide +kernel
theorem d_Model_order_1 : decode prog_9_method_22_code 1 = .ok (.iload_n 1, 1) := by decide +kernel
theorem d_Model_order_2 : decode prog_9_method_22_code 2 = .ok (.iconst 0, 1) := by decide +kernel
theorem d_Model_order_3 : decode prog_9_method_22_code 3 = .ok (.aload_n 0, 1) := by decide +kernel
theorem d_Model_order_4 : decode prog_9_method_22_code 4 = .ok (.getfield 116, 3) := by decide +kernel
theorem d_Model_order_7 : decode prog_9_method_22_code 7 = .ok (.iconst 1, 1) := by decide +kernel
theorem d_Model_order_8 : decode prog_9_method_22_code 8 = .ok (.isub, 1) := by decide +kernel
theorem d_Model_order_9 : decode prog_9_method_22_code 9 = .ok (.invokestatic 92, 3) := by decide +kernel
theorem d_Model_order_12 : decode prog_9_method_22_code 12 = .ok (.ifCond .eq 7, 3) := by decide +kernel
theorem d_Model_order_15 : decode prog_9_method_22_code 15 = .ok (.iconst 0, 1) := by decide +kernel
theorem d_Model_order_16 : decode prog_9_method_22_code 16 = .ok (.goto 4, 3) := by decide +kernel
theorem d_Model_order_19 : decode prog_9_method_22_code 19 = .ok (.iconst 1, 1) := by decide +kernel
theorem d_Model_order_20 : decode prog_9_method_22_code 20 = .ok (.putfield 85, 3) := by decide +kernel
theorem d_Model_order_23 : decode prog_9_method_22_code 23 = .ok (.aload_n 0, 1) := by decide +kernel
theorem d_Model_order_24 : decode prog_9_method_22_code 24 = .ok (.getfield 85, 3) := by decide +kernel
theorem d_Model_order_27 : decode prog_9_method_22_code 27 = .ok (.ifCond .le 7, 3) := by decide +kernel
theorem d_Model_order_30 : decode prog_9_method_22_code 30 = .ok (.iconst 0, 1) := by decide +kernel
theorem d_Model_order_31 : decode prog_9_method_22_code 31 = .ok (.goto 9, 3) := by decide +kernel
theorem d_Model_order_34 : decode prog_9_method_22_code 34 = .ok (.aload_n 0, 1) := by decide +kernel
theorem d_Model_order_35 : decode prog_9_method_22_code 35 = .ok (.getfield 66, 3) := by decide +kernel
theorem d_Model_order_38 : decode prog_9_method_22_code 38 = .ok (.iload_n 1, 1) := by decide +kernel
theorem d_Model_order_39 : decode prog_9_method_22_code 39 = .ok (.iaload, 1) := by decide +kernel
theorem d_Model_order_40 : decode prog_9_method_22_code 40 = .ok (.ireturn, 1) := by decide +kernel
theorem d_Model_begun_0 : decode prog_9_method_23_code 0 = .ok (.aload_n 0, 1) := by decide +kernel
theorem d_Model_begun_1 : decode prog_9_method_23_code 1 = .ok (.aload_n 0, 1) := by decide +kernel
theorem d_Model_begun_2 : decode prog_9_method_23_code 2 = .ok (.iload_n 1, 1) := by decide +kernel
theorem d_Model_begun_3 : decode prog_9_method_23_code 3 = .ok (.invokevirtual 88, 3) := by decide +kernel
theorem d_Model_begun_6 : decode prog_9_method_23_code 6 = .ok (.ifCond .eq 7, 3) := by decide +kernel
theorem d_Model_begun_9 : decode prog_9_method_23_code 9 = .ok (.iconst 0, 1) := by decide +kernel
theorem d_Model_begun_10 : decode prog_9_method_23_code 10 = .ok (.goto 4, 3) := by decide +kernel
theorem d_Model_begun_13 : decode prog_9_method_23_code 13 = .ok (.iconst 1, 1) := by decide +kernel
theorem d_Model_begun_14 : decode prog_9_method_23_code 14 = .ok (.putfield 85, 3) := by decide +kernel
theorem d_Model_begun_17 : decode prog_9_method_23_code 17 = .ok (.aload_n 0, 1) := by decide +kernel
theorem d_Model_begun_18 : decode prog_9_method_23_code 18 = .ok (.getfield 85, 3) := by decide +kernel
theorem d_Model_begun_21 : decode prog_9_method_23_code 21 = .ok (.ifCond .le 7, 3) := by decide +kernel
theorem d_Model_begun_24 : decode prog_9_method_23_code 24 = .ok (.iconst 0, 1) := by decide +kernel
theorem d_Model_begun_25 : decode prog_9_method_23_code 25 = .ok (.goto 9, 3) := by decide +kernel
theorem d_Model_begun_28 : decode prog_9_method_23_code 28 = .ok (.aload_n 0, 1) := by decide +kernel
theorem d_Model_begun_29 : decode prog_9_method_23_code 29 = .ok (.getfield 69, 3) := by decide +kernel
theorem d_Model_begun_32 : decode prog_9_method_23_code 32 = .ok (.iload_n 1, 1) := by decide +kernel
theorem d_Model_begun_33 : decode prog_9_method_23_code 33 = .ok (.iaload, 1) := by decide +kernel
theorem d_Model_begun_34 : decode prog_9_method_23_code 34 = .ok (.ireturn, 1) := by decide +kernel
theorem d_Model_waited_0 : decode prog_9_method_24_code 0 = .ok (.aload_n 0, 1) := by decide +kernel
theorem d_Model_waited_1 : decode prog_9_method_24_code 1 = .ok (.aload_n 0, 1) := by decide +kernel
theorem d_Model_waited_2 : decode prog_9_method_24_code 2 = .ok (.iload_n 1, 1) := by decide +kernel
theorem d_Model_waited_3 : decode prog_9_method_24_code 3 = .ok (.invokevirtual 88, 3) := by decide +kernel
theorem d_Model_waited_6 : decode prog_9_method_24_code 6 = .ok (.ifCond .eq 15, 3) := by decide +kernel
theorem d_Model_waited_9 : decode prog_9_method_24_code 9 = .ok (.aload_n 0, 1) := by decide +kernel
theorem d_Model_waited_10 : decode prog_9_method_24_code 10 = .ok (.iload_n 2, 1) := by decide +kernel
theorem d_Model_waited_11 : decode prog_9_method_24_code 11 = .ok (.invokevirtual 88, 3) := by decide +kernel
theorem d_Model_waited_14 : decode prog_9_method_24_code 14 = .ok (.ifCond .eq 7, 3) := by decide +kernel
theorem d_Model_waited_17 : decode prog_9_method_24_code 17 = .ok (.iconst 0, 1) := by decide +kernel
theorem d_Model_waited_18 : decode prog_9_method_24_code 18 = .ok (.goto 4, 3) := by decide +kernel
theorem d_Model_waited_21 : decode prog_9_method_24_code 21 = .ok (.iconst 1, 1) := by decide +kernel
theorem d_Model_waited_22 : decode prog_9_method_24_code 22 = .ok (.putfield 85, 3) := by decide +kernel
theorem d_Model_waited_25 : decode prog_9_method_24_code 25 = .ok (.aload_n 0, 1) := by decide +kernel
theorem d_Model_waited_26 : decode prog_9_method_24_code 26 = .ok (.getfield 85, 3) := by decide +kernel
theorem d_Model_waited_29 : decode prog_9_method_24_code 29 = .ok (.ifCond .le 7, 3) := by decide +kernel
theorem d_Model_waited_32 : decode prog_9_method_24_code 32 = .ok (.iconst 0, 1) := by decide +kernel
theorem d_Model_waited_33 : decode prog_9_method_24_code 33 = .ok (.goto 14, 3) := by decide +kernel
theorem d_Model_waited_36 : decode prog_9_method_24_code 36 = .ok (.aload_n 0, 1) := by decide +kernel
theorem d_Model_waited_37 : decode prog_9_method_24_code 37 = .ok (.getfield 72, 3) := by decide +kernel
theorem d_Model_waited_40 : decode prog_9_method_24_code 40 = .ok (.bipush 16, 2) := by decide +kernel
theorem d_Model_waited_42 : decode prog_9_method_24_code 42 = .ok (.iload_n 1, 1) := by decide +kernel
theorem d_Model_waited_43 : decode prog_9_method_24_code 43 = .ok (.imul, 1) := by decide +kernel
theorem d_Model_waited_44 : decode prog_9_method_24_code 44 = .ok (.iload_n 2, 1) := by decide +kernel
theorem d_Model_waited_45 : decode prog_9_method_24_code 45 = .ok (.iadd, 1) := by decide +kernel
theorem d_Model_waited_46 : decode prog_9_method_24_code 46 = .ok (.iaload, 1) := by decide +kernel
theorem d_Model_waited_47 : decode prog_9_method_24_code 47 = .ok (.ireturn, 1) := by decide +kernel
theorem d_Model_told_0 : decode prog_9_method_25_code 0 = .ok (.aload_n 0, 1) := by decide +kernel
theorem d_Model_told_1 : decode prog_9_method_25_code 1 = .ok (.iconst 0, 1) := by decide +kernel
theorem d_Model_told_2 : decode prog_9_method_25_code 2 = .ok (.putfield 85, 3) := by decide +kernel
theorem d_Model_told_5 : decode prog_9_method_25_code 5 = .ok (.iconst 0, 1) := by decide +kernel
theorem d_Model_told_6 : decode prog_9_method_25_code 6 = .ok (.istore_n 2, 1) := by decide +kernel
theorem d_Model_told_7 : decode prog_9_method_25_code 7 = .ok (.iconst 0, 1) := by decide +kernel
theorem d_Model_told_8 : decode prog_9_method_25_code 8 = .ok (.istore_n 3, 1) := by decide +kernel
theorem d_Model_told_9 : decode prog_9_method_25_code 9 = .ok (.iload_n 3, 1) := by decide +kernel
theorem d_Model_told_10 : decode prog_9_method_25_code 10 = .ok (.aload_n 0, 1) := by decide +kernel
theorem d_Model_told_11 : decode prog_9_method_25_code 11 = .ok (.getfield 75, 3) := by decide +kernel
theorem d_Model_told_14 : decode prog_9_method_25_code 14 = .ok (.if_icmp .ge 26, 3) := by decide +kernel
theorem d_Model_told_17 : decode prog_9_method_25_code 17 = .ok (.iload_n 2, 1) := by decide +kernel
theorem d_Model_told_18 : decode prog_9_method_25_code 18 = .ok (.aload_n 0, 1) := by decide +kernel
theorem d_Model_told_19 : decode prog_9_method_25_code 19 = .ok (.getfield 47, 3) := by decide +kernel
theorem d_Model_told_22 : decode prog_9_method_25_code 22 = .ok (.iload_n 3, 1) := by decide +kernel
theorem d_Model_told_23 : decode prog_9_method_25_code 23 = .ok (.baload, 1) := by decide +kernel
theorem d_Model_told_24 : decode prog_9_method_25_code 24 = .ok (.ifCond .eq 7, 3) := by decide +kernel
theorem d_Model_told_27 : decode prog_9_method_25_code 27 = .ok (.iconst 1, 1) := by decide +kernel
theorem d_Model_told_28 : decode prog_9_method_25_code 28 = .ok (.goto 4, 3) := by decide +kernel
theorem d_Model_told_31 : decode prog_9_method_25_code 31 = .ok (.iconst 0, 1) := by decide +kernel
theorem d_Model_told_32 : decode prog_9_method_25_code 32 = .ok (.iadd, 1) := by decide +kernel
theorem d_Model_told_33 : decode prog_9_method_25_code 33 = .ok (.istore_n 2, 1) := by decide +kernel
theorem d_Model_told_34 : decode prog_9_method_25_code 34 = .ok (.iinc 3 1, 3) := by decide +kernel
theorem d_Model_told_37 : decode prog_9_method_25_code 37 = .ok (.goto (-28), 3) := by decide +kernel
theorem d_Model_told_40 : decode prog_9_method_25_code 40 = .ok (.iload_n 1, 1) := by decide +kernel
theorem d_Model_told_41 : decode prog_9_method_25_code 41 = .ok (.tableswitch 120 0 11 #[63, 68, 73, 78, 83, 88, 93, 98, 103, 108, 113, 118], 63) := by decide +kernel
theorem d_Model_told_104 : decode prog_9_method_25_code 104 = .ok (.aload_n 0, 1) := by decide +kernel
theorem d_Model_told_105 : decode prog_9_method_25_code 105 = .ok (.getfield 75, 3) := by decide +kernel
theorem d_Model_told_108 : decode prog_9_method_25_code 108 = .ok (.ireturn, 1) := by decide +kernel
theorem d_Model_told_109 : decode prog_9_method_25_code 109 = .ok (.aload_n 0, 1) := by decide +kernel
theorem d_Model_told_110 : decode prog_9_method_25_code 110 = .ok (.getfield 79, 3) := by decide +kernel
theorem d_Model_told_113 : decode prog_9_method_25_code 113 = .ok (.ireturn, 1) := by decide +kernel
theorem d_Model_told_114 : decode prog_9_method_25_code 114 = .ok (.aload_n 0, 1) := by decide +kernel
theorem d_Model_told_115 : decode prog_9_method_25_code 115 = .ok (.getfield 96, 3) := by decide +kernel
theorem d_Model_told_118 : decode prog_9_method_25_code 118 = .ok (.ireturn, 1) := by decide +kernel
theorem d_Model_told_119 : decode prog_9_method_25_code 119 = .ok (.aload_n 0, 1) := by decide +kernel
theorem d_Model_told_120 : decode prog_9_method_25_code 120 = .ok (.getfield 99, 3) := by decide +kernel
theorem d_Model_told_123 : decode prog_9_method_25_code 123 = .ok (.ireturn, 1) := by decide +kernel
theorem d_Model_told_124 : decode prog_9_method_25_code 124 = .ok (.aload_n 0, 1) := by decide +kernel
theorem d_Model_told_125 : decode prog_9_method_25_code 125 = .ok (.getfield 154, 3) := by decide +kernel
theorem d_Model_told_128 : decode prog_9_method_25_code 128 = .ok (.ireturn, 1) := by decide +kernel
theorem d_Model_told_129 : decode prog_9_method_25_code 129 = .ok (.aload_n 0, 1) := by decide +kernel
theorem d_Model_told_130 : decode prog_9_method_25_code 130 = .ok (.getfield 127, 3) := by decide +kernel
theorem d_Model_told_133 : decode prog_9_method_25_code 133 = .ok (.ireturn, 1) := by decide +kernel
theorem d_Model_told_134 : decode prog_9_method_25_code 134 = .ok (.aload_n 0, 1) := by decide +kernel
theorem d_Model_told_135 : decode prog_9_method_25_code 135 = .ok (.getfield 134, 3) := by decide +kernel
theorem d_Model_told_138 : decode prog_9_method_25_code 138 = .ok (.ireturn, 1) := by decide +kernel
theorem d_Model_told_139 : decode prog_9_method_25_code 139 = .ok (.aload_n 0, 1) := by decide +kernel
theorem d_Model_told_140 : decode prog_9_method_25_code 140 = .ok (.getfield 113, 3) := by decide +kernel
theorem d_Model_told_143 : decode prog_9_method_25_code 143 = .ok (.ireturn, 1) := by decide +kernel
theorem d_Model_told_144 : decode prog_9_method_25_code 144 = .ok (.aload_n 0, 1) := by decide +kernel
theorem d_Model_told_145 : decode prog_9_method_25_code 145 = .ok (.getfield 108, 3) := by decide +kernel
theorem d_Model_told_148 : decode prog_9_method_25_code 148 = .ok (.ireturn, 1) := by decide +kernel
theorem d_Model_told_149 : decode prog_9_method_25_code 149 = .ok (.aload_n 0, 1) := by decide +kernel
theorem d_Model_told_150 : decode prog_9_method_25_code 150 = .ok (.getfield 168, 3) := by decide +kernel
theorem d_Model_told_153 : decode prog_9_method_25_code 153 = .ok (.ireturn, 1) := by decide +kernel
theorem d_Model_told_154 : decode prog_9_method_25_code 154 = .ok (.aload_n 0, 1) := by decide +kernel
theorem d_Model_told_155 : decode prog_9_method_25_code 155 = .ok (.getfield 116, 3) := by decide +kernel
theorem d_Model_told_158 : decode prog_9_method_25_code 158 = .ok (.ireturn, 1) := by decide +kernel
theorem d_Model_told_159 : decode prog_9_method_25_code 159 = .ok (.iload_n 2, 1) := by decide +kernel
theorem d_Model_told_160 : decode prog_9_method_25_code 160 = .ok (.ireturn, 1) := by decide +kernel
theorem d_Model_told_161 : decode prog_9_method_25_code 161 = .ok (.iconst (-1), 1) := by decide +kernel
theorem d_Model_told_162 : decode prog_9_method_25_code 162 = .ok (.ireturn, 1) := by decide +kernel
theorem d_Model_clear_0 : decode prog_9_method_26_code 0 = .ok (.aload_n 0, 1) := by decide +kernel
theorem d_Model_clear_1 : decode prog_9_method_26_code 1 = .ok (.iconst 0, 1) := by decide +kernel
theorem d_Model_clear_2 : decode prog_9_method_26_code 2 = .ok (.putfield 85, 3) := by decide +kernel
theorem d_Model_clear_5 : decode prog_9_method_26_code 5 = .ok (.aload_n 0, 1) := by decide +kernel
theorem d_Model_clear_6 : decode prog_9_method_26_code 6 = .ok (.iconst 0, 1) := by decide +kernel
theorem d_Model_clear_7 : decode prog_9_method_26_code 7 = .ok (.putfield 96, 3) := by decide +kernel
theorem d_Model_clear_10 : decode prog_9_method_26_code 10 = .ok (.aload_n 0, 1) := by decide +kernel
theorem d_Model_clear_11 : decode prog_9_method_26_code 11 = .ok (.iconst (-1), 1) := by decide +kernel
theorem d_Model_clear_12 : decode prog_9_method_26_code 12 = .ok (.putfield 99, 3) := by decide +kernel
theorem d_Model_clear_15 : decode prog_9_method_26_code 15 = .ok (.iconst 0, 1) := by decide +kernel
theorem d_Model_clear_16 : decode prog_9_method_26_code 16 = .ok (.istore_n 1, 1) := by decide +kernel
theorem d_Model_clear_17 : decode prog_9_method_26_code 17 = .ok (.iload_n 1, 1) := by decide +kernel
theorem d_Model_clear_18 : decode prog_9_method_26_code 18 = .ok (.bipush 16, 2) := by decide +kernel
theorem d_Model_clear_20 : decode prog_9_method_26_code 20 = .ok (.if_icmp .ge 59, 3) := by decide +kernel
theorem d_Model_clear_23 : decode prog_9_method_26_code 23 = .ok (.aload_n 0, 1) := by decide +kernel
theorem d_Model_clear_24 : decode prog_9_method_26_code 24 = .ok (.getfield 7, 3) := by decide +kernel
theorem d_Model_clear_27 : decode prog_9_method_26_code 27 = .ok (.iload_n 1, 1) := by decide +kernel
theorem d_Model_clear_28 : decode prog_9_method_26_code 28 = .ok (.iconst 1, 1) := by decide +kernel
theorem d_Model_clear_29 : decode prog_9_method_26_code 29 = .ok (.iastore, 1) := by decide +kernel
theorem d_Model_clear_30 : decode prog_9_method_26_code 30 = .ok (.aload_n 0, 1) := by decide +kernel
theorem d_Model_clear_31 : decode prog_9_method_26_code 31 = .ok (.getfield 13, 3) := by decide +kernel
theorem d_Model_clear_34 : decode prog_9_method_26_code 34 = .ok (.iload_n 1, 1) := by decide +kernel
theorem d_Model_clear_35 : decode prog_9_method_26_code 35 = .ok (.iconst 1, 1) := by decide +kernel
theorem d_Model_clear_36 : decode prog_9_method_26_code 36 = .ok (.iastore, 1) := by decide +kernel
theorem d_Model_clear_37 : decode prog_9_method_26_code 37 = .ok (.aload_n 0, 1) := by decide +kernel
theorem d_Model_clear_38 : decode prog_9_method_26_code 38 = .ok (.getfield 16, 3) := by decide +kernel
theorem d_Model_clear_41 : decode prog_9_method_26_code 41 = .ok (.iload_n 1, 1) := by decide +kernel
theorem d_Model_clear_42 : decode prog_9_method_26_code 42 = .ok (.iload_n 1, 1) := by decide +kernel
theorem d_Model_clear_43 : decode prog_9_method_26_code 43 = .ok (.i2l, 1) := by decide +kernel
theorem d_Model_clear_44 : decode prog_9_method_26_code 44 = .ok (.lastore, 1) := by decide +kernel
theorem d_Model_clear_45 : decode prog_9_method_26_code 45 = .ok (.aload_n 0, 1) := by decide +kernel
theorem d_Model_clear_46 : decode prog_9_method_26_code 46 = .ok (.getfield 20, 3) := by decide +kernel
theorem d_Model_clear_49 : decode prog_9_method_26_code 49 = .ok (.iload_n 1, 1) := by decide +kernel
theorem d_Model_clear_50 : decode prog_9_method_26_code 50 = .ok (.iconst 0, 1) := by decide +kernel
theorem d_Model_clear_51 : decode prog_9_method_26_code 51 = .ok (.iastore, 1) := by decide +kernel
theorem d_Model_clear_52 : decode prog_9_method_26_code 52 = .ok (.aload_n 0, 1) := by decide +kernel
theorem d_Model_clear_53 : decode prog_9_method_26_code 53 = .ok (.getfield 47, 3) := by decide +kernel
theorem d_Model_clear_56 : decode prog_9_method_26_code 56 = .ok (.iload_n 1, 1) := by decide +kernel
theorem d_Model_clear_57 : decode prog_9_method_26_code 57 = .ok (.iconst 0, 1) := by decide +kernel
theorem d_Model_clear_58 : decode prog_9_method_26_code 58 = .ok (.bastore, 1) := by decide +kernel
theorem d_Model_clear_59 : decode prog_9_method_26_code 59 = .ok (.aload_n 0, 1) := by decide +kernel
theorem d_Model_clear_60 : decode prog_9_method_26_code 60 = .ok (.getfield 57, 3) := by decide +kernel
theorem d_Model_clear_63 : decode prog_9_method_26_code 63 = .ok (.iload_n 1, 1) := by decide +kernel
theorem d_Model_clear_64 : decode prog_9_method_26_code 64 = .ok (.iconst 0, 1) := by decide +kernel
theorem d_Model_clear_65 : decode prog_9_method_26_code 65 = .ok (.iastore, 1) := by decide +kernel
theorem d_Model_clear_66 : decode prog_9_method_26_code 66 = .ok (.aload_n 0, 1) := by decide +kernel
theorem d_Model_clear_67 : decode prog_9_method_26_code 67 = .ok (.getfield 69, 3) := by decide +kernel
theorem d_Model_clear_70 : decode prog_9_method_26_code 70 = .ok (.iload_n 1, 1) := by decide +kernel
theorem d_Model_clear_71 : decode prog_9_method_26_code 71 = .ok (.iconst 0, 1) := by decide +kernel
theorem d_Model_clear_72 : decode prog_9_method_26_code 72 = .ok (.iastore, 1) := by decide +kernel
theorem d_Model_clear_73 : decode prog_9_method_26_code 73 = .ok (.iinc 1 1, 3) := by decide +kernel
theorem d_Model_clear_76 : decode prog_9_method_26_code 76 = .ok (.goto (-59), 3) := by decide +kernel
theorem d_Model_clear_79 : decode prog_9_method_26_code 79 = .ok (.iconst 0, 1) := by decide +kernel
theorem d_Model_clear_80 : decode prog_9_method_26_code 80 = .ok (.istore_n 1, 1) := by decide +kernel
theorem d_Model_clear_81 : decode prog_9_method_26_code 81 = .ok (.iload_n 1, 1) := by decide +kernel
theorem d_Model_clear_82 : decode prog_9_method_26_code 82 = .ok (.sipush 256, 3) := by decide +kernel
theorem d_Model_clear_85 : decode prog_9_method_26_code 85 = .ok (.if_icmp .ge 16, 3) := by decide +kernel
theorem d_Model_clear_88 : decode prog_9_method_26_code 88 = .ok (.aload_n 0, 1) := by decide +kernel
theorem d_Model_clear_89 : decode prog_9_method_26_code 89 = .ok (.getfield 72, 3) := by decide +kernel
theorem d_Model_clear_92 : decode prog_9_method_26_code 92 = .ok (.iload_n 1, 1) := by decide +kernel
theorem d_Model_clear_93 : decode prog_9_method_26_code 93 = .ok (.iconst 0, 1) := by decide +kernel
theorem d_Model_clear_94 : decode prog_9_method_26_code 94 = .ok (.iastore, 1) := by decide +kernel
theorem d_Model_clear_95 : decode prog_9_method_26_code 95 = .ok (.iinc 1 1, 3) := by decide +kernel
theorem d_Model_clear_98 : decode prog_9_method_26_code 98 = .ok (.goto (-17), 3) := by decide +kernel
theorem d_Model_clear_101 : decode prog_9_method_26_code 101 = .ok (.aload_n 0, 1) := by decide +kernel
theorem d_Model_clear_102 : decode prog_9_method_26_code 102 = .ok (.iconst 0, 1) := by decide +kernel
theorem d_Model_clear_103 : decode prog_9_method_26_code 103 = .ok (.putfield 116, 3) := by decide +kernel
theorem d_Model_clear_106 : decode prog_9_method_26_code 106 = .ok (.aload_n 0, 1) := by decide +kernel
theorem d_Model_clear_107 : decode prog_9_method_26_code 107 = .ok (.iconst 0, 1) := by decide +kernel
theorem d_Model_clear_108 : decode prog_9_method_26_code 108 = .ok (.putfield 154, 3) := by decide +kernel
theorem d_Model_clear_111 : decode prog_9_method_26_code 111 = .ok (.aload_n 0, 1) := by decide +kernel
theorem d_Model_clear_112 : decode prog_9_method_26_code 112 = .ok (.iconst 0, 1) := by decide +kernel
theorem d_Model_clear_113 : decode prog_9_method_26_code 113 = .ok (.putfield 127, 3) := by decide +kernel
theorem d_Model_clear_116 : decode prog_9_method_26_code 116 = .ok (.aload_n 0, 1) := by decide +kernel
theorem d_Model_clear_117 : decode prog_9_method_26_code 117 = .ok (.iconst 0, 1) := by decide +kernel
theorem d_Model_clear_118 : decode prog_9_method_26_code 118 = .ok (.putfield 134, 3) := by decide +kernel
theorem d_Model_clear_121 : decode prog_9_method_26_code 121 = .ok (.aload_n 0, 1) := by decide +kernel
theorem d_Model_clear_122 : decode prog_9_method_26_code 122 = .ok (.iconst 0, 1) := by decide +kernel
theorem d_Model_clear_123 : decode prog_9_method_26_code 123 = .ok (.putfield 113, 3) := by decide +kernel
theorem d_Model_clear_126 : decode prog_9_method_26_code 126 = .ok (.aload_n 0, 1) := by decide +kernel
theorem d_Model_clear_127 : decode prog_9_method_26_code 127 = .ok (.iconst 0, 1) := by decide +kernel
theorem d_Model_clear_128 : decode prog_9_method_26_code 128 = .ok (.putfield 108, 3) := by decide +kernel
theorem d_Model_clear_131 : decode prog_9_method_26_code 131 = .ok (.aload_n 0, 1) := by decide +kernel
theorem d_Model_clear_132 : decode prog_9_method_26_code 132 = .ok (.iconst 0, 1) := by decide +kernel
theorem d_Model_clear_133 : decode prog_9_method_26_code 133 = .ok (.putfield 168, 3) := by decide +kernel
theorem d_Model_clear_136 : decode prog_9_method_26_code 136 = .ok (.return_, 1) := by decide +kernel
theorem fl_Model_47 : zw_FL R_Model 47 7 17 := ⟨R_Model, T_Model, 36, rfl, by decide, ly_Model, Or.inl (zw_in (List.mem_of_getElem? (i := 635) (by decide +kernel)) (by decide +kernel))⟩
theorem fl_Model_51 : zw_FL R_Model 51 7 18 := ⟨R_Model, T_Model, 36, rfl, by decide, ly_Model, Or.inl (zw_in (List.mem_of_getElem? (i := 636) (by decide +kernel)) (by decide +kernel))⟩
theorem fl_Model_154 : zw_FL R_Model 154 7 30 := ⟨R_Model, T_Model, 36, rfl, by decide, ly_Model, Or.inl (zw_in (List.mem_of_getElem? (i := 648) (by decide +kernel)) (by decide +kernel))⟩
theorem fl_Model_168 : zw_FL R_Model 168 7 35 := ⟨R_Model, T_Model, 36, rfl, by decide, ly_Model, Or.inl (zw_in (List.mem_of_getElem? (i := 653) (by decide +kernel)) (by decide +kernel))⟩
theorem fp_Model_154 : zw_FP R_Model 154 7 30 (.int) false := ⟨R_Model, T_Model, 36, ty_Model, rfl, by decide, ly_Model, ty_Model_ok, rfl, nm_Model, rfl, Or.inl ⟨(zw_in (List.mem_of_getElem? (i := 648) (by decide +kernel)) (by decide +kernel)), fun h => by cases h⟩⟩
theorem fp_Model_168 : zw_FP R_Model 168 7 35 (.int) false := ⟨R_Model, T_Model, 36, ty_Model, rfl, by decide, ly_Model, ty_Model_ok, rfl, nm_Model, rfl, Or.inl ⟨(zw_in (List.mem_of_getElem? (i := 653) (by decide +kernel)) (by decide +kernel)), fun h => by cases h⟩⟩
theorem mv_Model_148 : zw_MV R_Model 148 Y_Model_isFinished R_Model 1 := ⟨Or.inl (zw_in (List.mem_of_getElem? (i := 770) (by decide +kernel)) (by decide +kernel)), (zw_in (List.mem_of_getElem? (i := 772) (by decide +kernel)) (by decide +kernel)), (zw_in (List.mem_of_getElem? (i := 16) (by decide +kernel)) (by decide +kernel)), (zw_in (List.mem_of_getElem? (i := 773) (by decide +kernel)) (by decide +kernel)), (zw_in (List.mem_of_getElem? (i := 33) (by decide +kernel)) (by decide +kernel)), by decide +kernel, by decide +kernel⟩
theorem mv_Model_151 : zw_MV R_Model 151 Y_Model_isStuck R_Model 1 := ⟨Or.inl (zw_in (List.mem_of_getElem? (i := 774) (by decide +kernel)) (by decide +kernel)), (zw_in (List.mem_of_getElem? (i := 776) (by decide +kernel)) (by decide +kernel)), (zw_in (List.mem_of_getElem? (i := 17) (by decide +kernel)) (by decide +kernel)), (zw_in (List.mem_of_getElem? (i := 777) (by decide +kernel)) (by decide +kernel)), (zw_in (List.mem_of_getElem? (i := 33) (by decide +kernel)) (by decide +kernel)), by decide +kernel, by decide +kernel⟩
set_option maxHeartbeats 4000000 in
set_option maxRecDepth 100000 in
theorem c_Model_isStuck {l : Launch} {D : va_G} {cA : Nat → ClassId} {ad : Nat → Nat} {sh : zw_Sh} (hm : ∀ (k : Nat) (q : zw_Sp), shM k = some q → sh k = some q) (z : Nat) (mi : zw_I) (ml : zw_L) (wk : Int32) (w : Nat) (hw : w ≤ 16) (ew : wk = nI w) (hE : zm_E w mi) :
    zc_M l D cA Y_Model_isStuck 1 0 0 ad sh sh z [.ref (ad 32), .int wk] mi ml (some (.int (q_stuck mi wk 17 1 0))) mi ml z := by
  refine zc_enter (own := R_Model) (by decide) rfl (Nat.le_of_ble_eq_true rfl) ?_
  intro p e s m below meth c X hr hlocks hnm hB ls hl
  have X : zw_C D cA R_Model prog_9_method_17_code 4 p m c s := X
  have hr : meth.sig.returnType = (some FieldType.boolean) := hr
  have hx := X.1
  have hb := X.2.1
  have hl : lv_has ls 4 [(0, .ref (ad 32)), (1, .int wk)] := hl
  have loop : ∀ (f i : Nat) (a : Int32)  (H : Heap) (locs : List Loc) (ls : Array Slot), i + f = 17 → i ≤ w → (a = 0 ∨ a = 1) → zw_B D cA ad sh (zw_A ad sh z) s.heap mi ml z H locs → lv_has ls 4 [(3, .int (nI i)), (2, .int a), (0, .ref (ad 32)), (1, .int wk)] →
      zc_W l D cA ad sh sh z [.ref (ad 32), .int wk] 1 0 0 (some (.int (q_stuck mi wk f a (nI i)))) mi ml z p e s m below meth c H locs 0 0 (F0 m 4 ls []) := by
    intro f
    induction f with
    | zero =>
      intro i a  H locs ls hi h2 ha hB hl
      omega
    | succ f ih =>
      intro i a  H locs ls hi h2 ha hB hl
      rw [q_stuck]
      refine lv_iload_n hx hb d_Model_isStuck_4 rfl (lv_at hl 0 rfl) ?_
      refine lv_iload_n hx hb d_Model_isStuck_5 rfl (lv_at hl 3 rfl) ?_
      refine lv_icmp_ge (tgt := 69) hx hb d_Model_isStuck_6 (by decide) (fun c_6 => ?_) (fun c_6 => ?_)
      · rw [if_pos c_6]
        refine lv_iload_n hx hb d_Model_isStuck_69 rfl (lv_at hl 1 rfl) ?_
        exact zc_zret X hr hlocks hB (nz_of ha) (by rfl) (by rfl) (by rfl) d_Model_isStuck_70
      · rw [if_neg c_6]
        have hlt : i < w := zn_lt (by omega) (by rw [← ew]; exact c_6)
        have hin : vp_in (nI i) 16 := vp_in_nI (by omega) (by decide)
        have hwk := hE.2.2.2 (nI i).toNatClampNeg (by rw [nI_clamp (by omega)]; exact hlt)
        refine lv_iload_n hx hb d_Model_isStuck_9 rfl (lv_at hl 1 rfl) ?_
        refine lv_if_eq (tgt := 69) hx hb d_Model_isStuck_10 (by decide) (fun c_10 => ?_) (fun c_10 => ?_)
        · rw [if_pos c_10]
          refine lv_iload_n hx hb d_Model_isStuck_69 rfl (lv_at hl 1 rfl) ?_
          exact zc_zret X hr hlocks hB (nz_of ha) (by rfl) (by rfl) (by rfl) d_Model_isStuck_70
        · rw [if_neg c_10]
          refine lv_aload_n hx hb d_Model_isStuck_13 rfl (lv_at hl 2 rfl) ?_
          refine zw_getR X hB fl_Model_60 32 (hm 32 _ rfl) rfl d_Model_isStuck_14 ?_
          refine lv_iload_n hx hb d_Model_isStuck_17 rfl (lv_at hl 0 rfl) ?_
          refine zw_iald X hB 49 (hm 49 _ rfl) hin d_Model_isStuck_18 ?_
          refine lv_bipush (v := (-2)) hx hb d_Model_isStuck_19 (by decide) ?_
          refine lv_icmp_eq (tgt := 57) hx hb d_Model_isStuck_21 (by decide) (fun c_21 => ?_) (fun c_21 => ?_)
          · rw [if_pos c_21]
            refine lv_iconst (v := 1) hx hb d_Model_isStuck_57 (by decide) ?_
            refine lv_goto (tgt := 62) hx hb d_Model_isStuck_58 (by decide) ?_
            refine lv_istore_n (lv' := [(2, .int 1), (3, .int (nI i)), (0, .ref (ad 32)), (1, .int wk)]) hx hb d_Model_isStuck_62 rfl hl (by decide) rfl (fun ls hl => ?_)
            refine lv_iinc (v := nI (i + 1)) (lv' := [(3, .int (nI (i + 1))), (2, .int 1), (0, .ref (ad 32)), (1, .int wk)]) hx hb d_Model_isStuck_63 hl (k := 1) rfl (nI_1 i) (by decide) rfl (fun ls hl => ?_)
            refine lv_goto (tgt := 4) hx hb d_Model_isStuck_66 (by decide) ?_
            rw [nI_1 i]
            exact ih (i + 1) _  H locs ls (by omega) (by omega) (Or.inr rfl) hB (lv_sub hl [0, 1, 2, 3] rfl)
          · rw [if_neg c_21]
            refine lv_aload_n hx hb d_Model_isStuck_24 rfl (lv_at hl 2 rfl) ?_
            refine zw_getR X hB fl_Model_60 32 (hm 32 _ rfl) rfl d_Model_isStuck_25 ?_
            refine lv_iload_n hx hb d_Model_isStuck_28 rfl (lv_at hl 0 rfl) ?_
            refine zw_iald X hB 49 (hm 49 _ rfl) hin d_Model_isStuck_29 ?_
            refine lv_iconst (v := (-1)) hx hb d_Model_isStuck_30 (by decide) ?_
            refine lv_icmp_ne (tgt := 44) hx hb d_Model_isStuck_31 (by decide) (fun c_31 => ?_) (fun c_31 => ?_)
            · rw [if_neg c_31]
              have hy : vp_in (mi 49 (nI i).toNatClampNeg) 16 := hwk.elim (fun e => absurd e c_21) (fun h => h.elim (fun e => absurd e c_31) id)
              obtain ⟨w6, hw6, ew6⟩ := hE.1.1 _ (vlt hy)
              refine lv_aload_n hx hb d_Model_isStuck_44 rfl (lv_at hl 2 rfl) ?_
              refine lv_aload_n hx hb d_Model_isStuck_45 rfl (lv_at hl 2 rfl) ?_
              refine zw_getR X hB fl_Model_60 32 (hm 32 _ rfl) rfl d_Model_isStuck_46 ?_
              refine lv_iload_n hx hb d_Model_isStuck_49 rfl (lv_at hl 0 rfl) ?_
              refine zw_iald X hB 49 (hm 49 _ rfl) hin d_Model_isStuck_50 ?_
              refine zw_callVr X hB mv_Model_130 32 (hm 32 _ rfl) rfl (c_Model_waitsFor hm z mi ml (mi 49 (nI i).toNatClampNeg) hy w6 hw6 ew6 (fun k hk => zm_at hy k hk) (fun k hk => (hE.1.2.1 k hk).1)) rfl hl.1 ⟨Nat.le_of_ble_eq_true rfl, Nat.le_of_ble_eq_true rfl⟩ rfl (Nat.le_of_ble_eq_true rfl) ⟨Nat.le_of_ble_eq_true rfl, Nat.le_of_ble_eq_true rfl⟩ d_Model_isStuck_51 (fun H locs hB => ?_)
              refine lv_if_lt (tgt := 61) hx hb d_Model_isStuck_54 (by decide) (fun c_54 => ?_) (fun c_54 => ?_)
              · rw [if_pos c_54]
                refine lv_iconst (v := 0) hx hb d_Model_isStuck_61 (by decide) ?_
                refine lv_istore_n (lv' := [(2, .int 0), (3, .int (nI i)), (0, .ref (ad 32)), (1, .int wk)]) hx hb d_Model_isStuck_62 rfl hl (by decide) rfl (fun ls hl => ?_)
                refine lv_iinc (v := nI (i + 1)) (lv' := [(3, .int (nI (i + 1))), (2, .int 0), (0, .ref (ad 32)), (1, .int wk)]) hx hb d_Model_isStuck_63 hl (k := 1) rfl (nI_1 i) (by decide) rfl (fun ls hl => ?_)
                refine lv_goto (tgt := 4) hx hb d_Model_isStuck_66 (by decide) ?_
                rw [nI_1 i]
                exact ih (i + 1) _  H locs ls (by omega) (by omega) (Or.inl rfl) hB (lv_sub hl [0, 1, 2, 3] rfl)
              · rw [if_neg c_54]
                refine lv_iconst (v := 1) hx hb d_Model_isStuck_57 (by decide) ?_
                refine lv_goto (tgt := 62) hx hb d_Model_isStuck_58 (by decide) ?_
                refine lv_istore_n (lv' := [(2, .int 1), (3, .int (nI i)), (0, .ref (ad 32)), (1, .int wk)]) hx hb d_Model_isStuck_62 rfl hl (by decide) rfl (fun ls hl => ?_)
                refine lv_iinc (v := nI (i + 1)) (lv' := [(3, .int (nI (i + 1))), (2, .int 1), (0, .ref (ad 32)), (1, .int wk)]) hx hb d_Model_isStuck_63 hl (k := 1) rfl (nI_1 i) (by decide) rfl (fun ls hl => ?_)
                refine lv_goto (tgt := 4) hx hb d_Model_isStuck_66 (by decide) ?_
                rw [nI_1 i]
                exact ih (i + 1) _  H locs ls (by omega) (by omega) (Or.inr rfl) hB (lv_sub hl [0, 1, 2, 3] rfl)
            · rw [if_pos c_31]
              refine lv_aload_n hx hb d_Model_isStuck_34 rfl (lv_at hl 2 rfl) ?_
              refine zw_callVr X hB mv_Model_119 32 (hm 32 _ rfl) rfl (c_Model_canTake hm z mi ml hE.2.1) rfl hl.1 ⟨Nat.le_of_ble_eq_true rfl, Nat.le_of_ble_eq_true rfl⟩ rfl (Nat.le_of_ble_eq_true rfl) ⟨Nat.le_of_ble_eq_true rfl, Nat.le_of_ble_eq_true rfl⟩ d_Model_isStuck_35 (fun H locs hB => ?_)
              refine lv_if_ne (tgt := 61) hx hb d_Model_isStuck_38 (by decide) (fun c_38 => ?_) (fun c_38 => ?_)
              · rw [if_neg c_38]
                refine lv_iconst (v := 0) hx hb d_Model_isStuck_61 (by decide) ?_
                refine lv_istore_n (lv' := [(2, .int 0), (3, .int (nI i)), (0, .ref (ad 32)), (1, .int wk)]) hx hb d_Model_isStuck_62 rfl hl (by decide) rfl (fun ls hl => ?_)
                refine lv_iinc (v := nI (i + 1)) (lv' := [(3, .int (nI (i + 1))), (2, .int 0), (0, .ref (ad 32)), (1, .int wk)]) hx hb d_Model_isStuck_63 hl (k := 1) rfl (nI_1 i) (by decide) rfl (fun ls hl => ?_)
                refine lv_goto (tgt := 4) hx hb d_Model_isStuck_66 (by decide) ?_
                rw [nI_1 i]
                exact ih (i + 1) _  H locs ls (by omega) (by omega) (Or.inl rfl) hB (lv_sub hl [0, 1, 2, 3] rfl)
              · rw [if_pos c_38]
                refine lv_goto (tgt := 57) hx hb d_Model_isStuck_41 (by decide) ?_
                refine lv_iconst (v := 1) hx hb d_Model_isStuck_57 (by decide) ?_
                refine lv_goto (tgt := 62) hx hb d_Model_isStuck_58 (by decide) ?_
                refine lv_istore_n (lv' := [(2, .int 1), (3, .int (nI i)), (0, .ref (ad 32)), (1, .int wk)]) hx hb d_Model_isStuck_62 rfl hl (by decide) rfl (fun ls hl => ?_)
                refine lv_iinc (v := nI (i + 1)) (lv' := [(3, .int (nI (i + 1))), (2, .int 1), (0, .ref (ad 32)), (1, .int wk)]) hx hb d_Model_isStuck_63 hl (k := 1) rfl (nI_1 i) (by decide) rfl (fun ls hl => ?_)
                refine lv_goto (tgt := 4) hx hb d_Model_isStuck_66 (by decide) ?_
                rw [nI_1 i]
                exact ih (i + 1) _  H locs ls (by omega) (by omega) (Or.inr rfl) hB (lv_sub hl [0, 1, 2, 3] rfl)
  refine lv_iconst (v := 1) hx hb d_Model_isStuck_0 (by decide) ?_
  refine lv_istore_n (lv' := [(2, .int 1), (0, .ref (ad 32)), (1, .int wk)]) hx hb d_Model_isStuck_1 rfl hl (by decide) rfl (fun ls hl => ?_)
  refine lv_iconst (v := 0) hx hb d_Model_isStuck_2 (by decide) ?_
  refine lv_istore_n (lv' := [(3, .int 0), (2, .int 1), (0, .ref (ad 32)), (1, .int wk)]) hx hb d_Model_isStuck_3 rfl hl (by decide) rfl (fun ls hl => ?_)
  exact loop 17 0 1  _ _ ls rfl (by omega) (Or.inr rfl) hB (lv_sub hl [0, 1, 2, 3] rfl)

set_option maxHeartbeats 4000000 in
set_option maxRecDepth 100000 in
theorem c_Model_ending {l : Launch} {D : va_G} {cA : Nat → ClassId} {ad : Nat → Nat} {sh : zw_Sh} (hm : ∀ (k : Nat) (q : zw_Sp), shM k = some q → sh k = some q) (z : Nat) (mi : zw_I) (ml : zw_L) (wk : Int32) (w : Nat) (hw : w ≤ 16) (ew : wk = nI w) (hE : zm_E w mi) :
    zc_M l D cA Y_Model_ending 2 0 0 ad sh sh z [.ref (ad 32), .int wk] mi ml (some (.int (q_end mi wk))) mi ml z := by
  refine zc_enter (own := R_Model) (by decide) rfl (Nat.le_of_ble_eq_true rfl) ?_
  intro p e s m below meth c X hr hlocks hnm hB ls hl
  have X : zw_C D cA R_Model prog_9_method_18_code 2 p m c s := X
  have hr : meth.sig.returnType = (some FieldType.int) := hr
  have hx := X.1
  have hb := X.2.1
  have hl : lv_has ls 2 [(0, .ref (ad 32)), (1, .int wk)] := hl
  unfold q_end
  refine lv_aload_n hx hb d_Model_ending_0 rfl (lv_at hl 0 rfl) ?_
  refine zw_getI X hB fl_Model_116 32 (hm 32 _ rfl) rfl d_Model_ending_1 ?_
  refine lv_aload_n hx hb d_Model_ending_4 rfl (lv_at hl 0 rfl) ?_
  refine zw_getI X hB fl_Model_75 32 (hm 32 _ rfl) rfl d_Model_ending_5 ?_
  refine lv_icmp_ne (tgt := 15) hx hb d_Model_ending_8 (by decide) (fun c_8 => ?_) (fun c_8 => ?_)
  · rw [if_neg c_8]
    refine lv_aload_n hx hb d_Model_ending_15 rfl (lv_at hl 0 rfl) ?_
    refine zw_getI X hB fl_Model_99 32 (hm 32 _ rfl) rfl d_Model_ending_16 ?_
    refine lv_iconst (v := (-1)) hx hb d_Model_ending_19 (by decide) ?_
    refine lv_icmp_eq (tgt := 38) hx hb d_Model_ending_20 (by decide) (fun c_20 => ?_) (fun c_20 => ?_)
    · rw [if_pos c_20]
      unfold q_end2
      refine lv_aload_n hx hb d_Model_ending_38 rfl (lv_at hl 0 rfl) ?_
      refine zw_getI X hB fl_Model_141 32 (hm 32 _ rfl) rfl d_Model_ending_39 ?_
      refine lv_if_ne (tgt := 49) hx hb d_Model_ending_42 (by decide) (fun c_42 => ?_) (fun c_42 => ?_)
      · rw [if_neg c_42]
        refine lv_aload_n hx hb d_Model_ending_49 rfl (lv_at hl 0 rfl) ?_
        refine lv_iload_n hx hb d_Model_ending_50 rfl (lv_at hl 1 rfl) ?_
        refine zw_callVr X hB mv_Model_151 32 (hm 32 _ rfl) rfl (c_Model_isStuck hm z mi ml wk w hw ew hE) rfl hl.1 ⟨Nat.le_of_ble_eq_true rfl, Nat.le_of_ble_eq_true rfl⟩ rfl (Nat.le_of_ble_eq_true rfl) ⟨Nat.le_of_ble_eq_true rfl, Nat.le_of_ble_eq_true rfl⟩ d_Model_ending_51 (fun H locs hB => ?_)
        refine lv_if_eq (tgt := 62) hx hb d_Model_ending_54 (by decide) (fun c_54 => ?_) (fun c_54 => ?_)
        · rw [if_pos c_54]
          refine lv_aload_n hx hb d_Model_ending_62 rfl (lv_at hl 0 rfl) ?_
          refine zw_getI X hB fl_Model_154 32 (hm 32 _ rfl) rfl d_Model_ending_63 ?_
          refine lv_sipush (v := 20000) hx hb d_Model_ending_66 (by decide) ?_
          refine lv_icmp_ne (tgt := 77) hx hb d_Model_ending_69 (by decide) (fun c_69 => ?_) (fun c_69 => ?_)
          · rw [if_neg c_69]
            refine lv_iconst (v := 2) hx hb d_Model_ending_77 (by decide) ?_
            exact zc_iret X hr hlocks hB (by rfl) (by rfl) (by rfl) d_Model_ending_78
          · rw [if_pos c_69]
            refine lv_bipush (v := (-3)) hx hb d_Model_ending_72 (by decide) ?_
            refine lv_goto (tgt := 78) hx hb d_Model_ending_74 (by decide) ?_
            exact zc_iret X hr hlocks hB (by rfl) (by rfl) (by rfl) d_Model_ending_78
        · rw [if_neg c_54]
          refine lv_bipush (v := (-2)) hx hb d_Model_ending_57 (by decide) ?_
          refine lv_goto (tgt := 78) hx hb d_Model_ending_59 (by decide) ?_
          exact zc_iret X hr hlocks hB (by rfl) (by rfl) (by rfl) d_Model_ending_78
      · rw [if_pos c_42]
        refine lv_iconst (v := (-1)) hx hb d_Model_ending_45 (by decide) ?_
        refine lv_goto (tgt := 78) hx hb d_Model_ending_46 (by decide) ?_
        exact zc_iret X hr hlocks hB (by rfl) (by rfl) (by rfl) d_Model_ending_78
    · rw [if_neg c_20]
      refine lv_aload_n hx hb d_Model_ending_23 rfl (lv_at hl 0 rfl) ?_
      refine lv_aload_n hx hb d_Model_ending_24 rfl (lv_at hl 0 rfl) ?_
      refine zw_getI X hB fl_Model_99 32 (hm 32 _ rfl) rfl d_Model_ending_25 ?_
      refine zw_callVr X hB mv_Model_148 32 (hm 32 _ rfl) rfl (c_Model_isFinished hm z mi ml (mi 32 16) (hE.2.2.1.elim (fun e => absurd e c_20) id)) rfl hl.1 ⟨Nat.le_of_ble_eq_true rfl, Nat.le_of_ble_eq_true rfl⟩ rfl (Nat.le_of_ble_eq_true rfl) ⟨Nat.le_of_ble_eq_true rfl, Nat.le_of_ble_eq_true rfl⟩ d_Model_ending_28 (fun H locs hB => ?_)
      refine lv_if_eq (tgt := 38) hx hb d_Model_ending_31 (by decide) (fun c_31 => ?_) (fun c_31 => ?_)
      · rw [if_pos c_31]
        unfold q_end2
        refine lv_aload_n hx hb d_Model_ending_38 rfl (lv_at hl 0 rfl) ?_
        refine zw_getI X hB fl_Model_141 32 (hm 32 _ rfl) rfl d_Model_ending_39 ?_
        refine lv_if_ne (tgt := 49) hx hb d_Model_ending_42 (by decide) (fun c_42 => ?_) (fun c_42 => ?_)
        · rw [if_neg c_42]
          refine lv_aload_n hx hb d_Model_ending_49 rfl (lv_at hl 0 rfl) ?_
          refine lv_iload_n hx hb d_Model_ending_50 rfl (lv_at hl 1 rfl) ?_
          refine zw_callVr X hB mv_Model_151 32 (hm 32 _ rfl) rfl (c_Model_isStuck hm z mi ml wk w hw ew hE) rfl hl.1 ⟨Nat.le_of_ble_eq_true rfl, Nat.le_of_ble_eq_true rfl⟩ rfl (Nat.le_of_ble_eq_true rfl) ⟨Nat.le_of_ble_eq_true rfl, Nat.le_of_ble_eq_true rfl⟩ d_Model_ending_51 (fun H locs hB => ?_)
          refine lv_if_eq (tgt := 62) hx hb d_Model_ending_54 (by decide) (fun c_54 => ?_) (fun c_54 => ?_)
          · rw [if_pos c_54]
            refine lv_aload_n hx hb d_Model_ending_62 rfl (lv_at hl 0 rfl) ?_
            refine zw_getI X hB fl_Model_154 32 (hm 32 _ rfl) rfl d_Model_ending_63 ?_
            refine lv_sipush (v := 20000) hx hb d_Model_ending_66 (by decide) ?_
            refine lv_icmp_ne (tgt := 77) hx hb d_Model_ending_69 (by decide) (fun c_69 => ?_) (fun c_69 => ?_)
            · rw [if_neg c_69]
              refine lv_iconst (v := 2) hx hb d_Model_ending_77 (by decide) ?_
              exact zc_iret X hr hlocks hB (by rfl) (by rfl) (by rfl) d_Model_ending_78
            · rw [if_pos c_69]
              refine lv_bipush (v := (-3)) hx hb d_Model_ending_72 (by decide) ?_
              refine lv_goto (tgt := 78) hx hb d_Model_ending_74 (by decide) ?_
              exact zc_iret X hr hlocks hB (by rfl) (by rfl) (by rfl) d_Model_ending_78
          · rw [if_neg c_54]
            refine lv_bipush (v := (-2)) hx hb d_Model_ending_57 (by decide) ?_
            refine lv_goto (tgt := 78) hx hb d_Model_ending_59 (by decide) ?_
            exact zc_iret X hr hlocks hB (by rfl) (by rfl) (by rfl) d_Model_ending_78
        · rw [if_pos c_42]
          refine lv_iconst (v := (-1)) hx hb d_Model_ending_45 (by decide) ?_
          refine lv_goto (tgt := 78) hx hb d_Model_ending_46 (by decide) ?_
          exact zc_iret X hr hlocks hB (by rfl) (by rfl) (by rfl) d_Model_ending_78
      · rw [if_neg c_31]
        refine lv_iconst (v := 1) hx hb d_Model_ending_34 (by decide) ?_
        refine lv_goto (tgt := 78) hx hb d_Model_ending_35 (by decide) ?_
        exact zc_iret X hr hlocks hB (by rfl) (by rfl) (by rfl) d_Model_ending_78
  · rw [if_pos c_8]
    refine lv_iconst (v := 0) hx hb d_Model_ending_11 (by decide) ?_
    refine lv_goto (tgt := 78) hx hb d_Model_ending_12 (by decide) ?_
    exact zc_iret X hr hlocks hB (by rfl) (by rfl) (by rfl) d_Model_ending_78

set_option maxHeartbeats 4000000 in
set_option maxRecDepth 100000 in
theorem c_Model_begin {l : Launch} {D : va_G} {cA : Nat → ClassId} {ad : Nat → Nat} {sh : zw_Sh} (hm : ∀ (k : Nat) (q : zw_Sp), shM k = some q → sh k = some q) (z : Nat) (mi : zw_I) (ml : zw_L) (wk : Int32) {n : Nat} (hn : n ≤ 16) (en : mi 32 1 = nI n) (w : Nat) (hw : w ≤ 16) (ew : wk = nI w) (w8 : Nat) (hw8 : w8 ≤ 8) (ew8 : mi 32 15 = nI w8) :
    zc_M l D cA Y_Model_begin 0 0 0 ad sh sh z [.ref (ad 32), .int wk] mi ml none ((q_begin wk mi ml).1) ((q_begin wk mi ml).2) z := by
  refine zc_enter (own := R_Model) (by decide) rfl (Nat.le_of_ble_eq_true rfl) ?_
  intro p e s m below meth c X hr hlocks hnm hB ls hl
  have X : zw_C D cA R_Model prog_9_method_19_code 3 p m c s := X
  have hr : meth.sig.returnType = none := hr
  have hx := X.1
  have hb := X.2.1
  have hl : lv_has ls 3 [(0, .ref (ad 32)), (1, .int wk)] := hl
  have loop4 : ∀ (f i : Nat) (mi : zw_I) (ml : zw_L) (H : Heap) (locs : List Loc) (ls : Array Slot), i + f = 9 → i ≤ w8 → mi 32 15 = nI w8 → zw_B D cA ad sh (zw_A ad sh z) s.heap mi ml z H locs → lv_has ls 3 [(2, .int (nI i)), (0, .ref (ad 32)), (1, .int wk)] →
      zc_W l D cA ad sh sh z [.ref (ad 32), .int wk] 0 0 0 none (q_beg5 wk (q_beg4 f (nI i) mi)) ml z p e s m below meth c H locs 0 0 (F0 m 96 ls []) := by
    intro f
    induction f with
    | zero =>
      intro i  mi ml H locs ls hi h2 ew8 hB hl
      omega
    | succ f ih =>
      intro i  mi ml H locs ls hi h2 ew8 hB hl
      rw [q_beg4]
      refine lv_iload_n hx hb d_Model_begin_96 rfl (lv_at hl 0 rfl) ?_
      refine lv_aload_n hx hb d_Model_begin_97 rfl (lv_at hl 1 rfl) ?_
      refine zw_getI X hB fl_Model_96 32 (hm 32 _ rfl) rfl d_Model_begin_98 ?_
      refine lv_icmp_ge (tgt := 122) hx hb d_Model_begin_101 (by decide) (fun c_101 => ?_) (fun c_101 => ?_)
      · rw [if_pos c_101]
        refine lv_aload_n hx hb d_Model_begin_122 rfl (lv_at hl 1 rfl) ?_
        refine lv_aload_n hx hb d_Model_begin_123 rfl (lv_at hl 1 rfl) ?_
        refine zw_getI X hB fl_Model_75 32 (hm 32 _ rfl) rfl d_Model_begin_124 ?_
        refine zw_putI X hB fp_Model_102 (fun h => by cases h) 32 (hm 32 _ rfl) rfl d_Model_begin_127 (fun H locs hB => ?_)
        obtain ⟨mi_1, emi_1⟩ : ∃ y, y = zw_up mi 32 23 (mi 32 1) := ⟨_, rfl⟩
        rw [← emi_1] at hB
        refine lv_aload_n hx hb d_Model_begin_130 rfl (lv_at hl 1 rfl) ?_
        refine lv_iconst (v := 0) hx hb d_Model_begin_131 (by decide) ?_
        refine zw_putI X hB fp_Model_105 (fun h => by cases h) 32 (hm 32 _ rfl) rfl d_Model_begin_132 (fun H locs hB => ?_)
        obtain ⟨mi_2, emi_2⟩ : ∃ y, y = zw_up mi_1 32 24 0 := ⟨_, rfl⟩
        rw [← emi_2] at hB
        refine lv_aload_n hx hb d_Model_begin_135 rfl (lv_at hl 1 rfl) ?_
        refine lv_iload_n hx hb d_Model_begin_136 rfl (lv_at hl 2 rfl) ?_
        refine zw_putI X hB fp_Model_141 (fun h => by cases h) 32 (hm 32 _ rfl) rfl d_Model_begin_137 (fun H locs hB => ?_)
        obtain ⟨mi_3, emi_3⟩ : ∃ y, y = zw_up mi_2 32 25 wk := ⟨_, rfl⟩
        rw [← emi_3] at hB
        refine lv_aload_n hx hb d_Model_begin_140 rfl (lv_at hl 1 rfl) ?_
        refine lv_iconst (v := 0) hx hb d_Model_begin_141 (by decide) ?_
        refine zw_putI X hB fp_Model_116 (fun h => by cases h) 32 (hm 32 _ rfl) rfl d_Model_begin_142 (fun H locs hB => ?_)
        obtain ⟨mi_4, emi_4⟩ : ∃ y, y = zw_up mi_3 32 29 0 := ⟨_, rfl⟩
        rw [← emi_4] at hB
        refine lv_aload_n hx hb d_Model_begin_145 rfl (lv_at hl 1 rfl) ?_
        refine lv_iconst (v := 0) hx hb d_Model_begin_146 (by decide) ?_
        refine zw_putI X hB fp_Model_154 (fun h => by cases h) 32 (hm 32 _ rfl) rfl d_Model_begin_147 (fun H locs hB => ?_)
        obtain ⟨mi_5, emi_5⟩ : ∃ y, y = zw_up mi_4 32 30 0 := ⟨_, rfl⟩
        rw [← emi_5] at hB
        refine lv_aload_n hx hb d_Model_begin_150 rfl (lv_at hl 1 rfl) ?_
        refine lv_iconst (v := 0) hx hb d_Model_begin_151 (by decide) ?_
        refine zw_putI X hB fp_Model_127 (fun h => by cases h) 32 (hm 32 _ rfl) rfl d_Model_begin_152 (fun H locs hB => ?_)
        obtain ⟨mi_6, emi_6⟩ : ∃ y, y = zw_up mi_5 32 31 0 := ⟨_, rfl⟩
        rw [← emi_6] at hB
        refine lv_aload_n hx hb d_Model_begin_155 rfl (lv_at hl 1 rfl) ?_
        refine lv_iconst (v := 0) hx hb d_Model_begin_156 (by decide) ?_
        refine zw_putI X hB fp_Model_134 (fun h => by cases h) 32 (hm 32 _ rfl) rfl d_Model_begin_157 (fun H locs hB => ?_)
        obtain ⟨mi_7, emi_7⟩ : ∃ y, y = zw_up mi_6 32 32 0 := ⟨_, rfl⟩
        rw [← emi_7] at hB
        refine lv_aload_n hx hb d_Model_begin_160 rfl (lv_at hl 1 rfl) ?_
        refine lv_iconst (v := 0) hx hb d_Model_begin_161 (by decide) ?_
        refine zw_putI X hB fp_Model_113 (fun h => by cases h) 32 (hm 32 _ rfl) rfl d_Model_begin_162 (fun H locs hB => ?_)
        obtain ⟨mi_8, emi_8⟩ : ∃ y, y = zw_up mi_7 32 33 0 := ⟨_, rfl⟩
        rw [← emi_8] at hB
        refine lv_aload_n hx hb d_Model_begin_165 rfl (lv_at hl 1 rfl) ?_
        refine lv_iconst (v := 0) hx hb d_Model_begin_166 (by decide) ?_
        refine zw_putI X hB fp_Model_108 (fun h => by cases h) 32 (hm 32 _ rfl) rfl d_Model_begin_167 (fun H locs hB => ?_)
        obtain ⟨mi_9, emi_9⟩ : ∃ y, y = zw_up mi_8 32 34 0 := ⟨_, rfl⟩
        rw [← emi_9] at hB
        exact zc_vret X hr hlocks hB (by subst emi_9; subst emi_8; subst emi_7; subst emi_6; subst emi_5; subst emi_4; subst emi_3; subst emi_2; subst emi_1; rfl) (by subst emi_9; subst emi_8; subst emi_7; subst emi_6; subst emi_5; subst emi_4; subst emi_3; subst emi_2; subst emi_1; rfl) (by subst emi_9; subst emi_8; subst emi_7; subst emi_6; subst emi_5; subst emi_4; subst emi_3; subst emi_2; subst emi_1; rfl) d_Model_begin_170
      · rw [if_neg c_101]
        have hlt : i < w8 := zn_lt (by omega) (by rw [← ew8]; exact c_101)
        have hin : vp_in (nI i) 8 := vp_in_nI (by omega) (by decide)
        refine lv_aload_n hx hb d_Model_begin_104 rfl (lv_at hl 1 rfl) ?_
        refine zw_getR X hB fl_Model_44 32 (hm 32 _ rfl) rfl d_Model_begin_105 ?_
        refine lv_iload_n hx hb d_Model_begin_108 rfl (lv_at hl 0 rfl) ?_
        refine lv_aload_n hx hb d_Model_begin_109 rfl (lv_at hl 1 rfl) ?_
        refine zw_getR X hB fl_Model_41 32 (hm 32 _ rfl) rfl d_Model_begin_110 ?_
        refine lv_iload_n hx hb d_Model_begin_113 rfl (lv_at hl 0 rfl) ?_
        refine zw_iald X hB 43 (hm 43 _ rfl) hin d_Model_begin_114 ?_
        refine zw_iast X hB 44 (hm 44 _ rfl) hin d_Model_begin_115 (fun H locs hB => ?_)
        obtain ⟨mi_10, emi_10⟩ : ∃ y, y = zw_up mi 44 (nI i).toNatClampNeg (mi 43 (nI i).toNatClampNeg) := ⟨_, rfl⟩
        rw [← emi_10] at hB
        refine lv_iinc (v := nI (i + 1)) (lv' := [(2, .int (nI (i + 1))), (0, .ref (ad 32)), (1, .int wk)]) hx hb d_Model_begin_116 hl (k := 0) rfl (nI_1 i) (by decide) rfl (fun ls hl => ?_)
        refine lv_goto (tgt := 96) hx hb d_Model_begin_119 (by decide) ?_
        subst emi_10
        rw [nI_1 i]
        exact ih (i + 1)  _ _ H locs ls (by omega) (by omega) (by simpa [zw_up] using ew8) hB (lv_sub hl [0, 1, 2] rfl)
  have loop3 : ∀ (f i : Nat) (mi : zw_I) (ml : zw_L) (H : Heap) (locs : List Loc) (ls : Array Slot), i + f = 17 → i ≤ w → mi 32 15 = nI w8 → zw_B D cA ad sh (zw_A ad sh z) s.heap mi ml z H locs → lv_has ls 3 [(2, .int (nI i)), (0, .ref (ad 32)), (1, .int wk)] →
      zc_W l D cA ad sh sh z [.ref (ad 32), .int wk] 0 0 0 none (q_beg5 wk (q_beg4 9 0 (q_beg3 wk f (nI i) mi))) ml z p e s m below meth c H locs 0 0 (F0 m 76 ls []) := by
    intro f
    induction f with
    | zero =>
      intro i  mi ml H locs ls hi h2 ew8 hB hl
      omega
    | succ f ih =>
      intro i  mi ml H locs ls hi h2 ew8 hB hl
      rw [q_beg3]
      refine lv_iload_n hx hb d_Model_begin_76 rfl (lv_at hl 0 rfl) ?_
      refine lv_iload_n hx hb d_Model_begin_77 rfl (lv_at hl 2 rfl) ?_
      refine lv_icmp_ge (tgt := 94) hx hb d_Model_begin_78 (by decide) (fun c_78 => ?_) (fun c_78 => ?_)
      · rw [if_pos c_78]
        refine lv_iconst (v := 0) hx hb d_Model_begin_94 (by decide) ?_
        refine lv_istore_n (lv' := [(2, .int 0), (0, .ref (ad 32)), (1, .int wk)]) hx hb d_Model_begin_95 rfl hl (by decide) rfl (fun ls hl => ?_)
        exact loop4 9 0 _ _ _ _ ls rfl (by omega) ew8 hB (lv_sub hl [0, 1, 2] rfl)
      · rw [if_neg c_78]
        have hlt : i < w := zn_lt (by omega) (by rw [← ew]; exact c_78)
        have hin : vp_in (nI i) 16 := vp_in_nI (by omega) (by decide)
        refine lv_aload_n hx hb d_Model_begin_81 rfl (lv_at hl 1 rfl) ?_
        refine zw_getR X hB fl_Model_60 32 (hm 32 _ rfl) rfl d_Model_begin_82 ?_
        refine lv_iload_n hx hb d_Model_begin_85 rfl (lv_at hl 0 rfl) ?_
        refine lv_iconst (v := (-1)) hx hb d_Model_begin_86 (by decide) ?_
        refine zw_iast X hB 49 (hm 49 _ rfl) hin d_Model_begin_87 (fun H locs hB => ?_)
        obtain ⟨mi_1, emi_1⟩ : ∃ y, y = zw_up mi 49 (nI i).toNatClampNeg (-1) := ⟨_, rfl⟩
        rw [← emi_1] at hB
        refine lv_iinc (v := nI (i + 1)) (lv' := [(2, .int (nI (i + 1))), (0, .ref (ad 32)), (1, .int wk)]) hx hb d_Model_begin_88 hl (k := 0) rfl (nI_1 i) (by decide) rfl (fun ls hl => ?_)
        refine lv_goto (tgt := 76) hx hb d_Model_begin_91 (by decide) ?_
        subst emi_1
        rw [nI_1 i]
        exact ih (i + 1)  _ _ H locs ls (by omega) (by omega) (by simpa [zw_up] using ew8) hB (lv_sub hl [0, 1, 2] rfl)
  have loop2 : ∀ (f i : Nat) (mi : zw_I) (ml : zw_L) (H : Heap) (locs : List Loc) (ls : Array Slot), i + f = 257 → i ≤ 256 → mi 32 15 = nI w8 → zw_B D cA ad sh (zw_A ad sh z) s.heap mi ml z H locs → lv_has ls 3 [(2, .int (nI i)), (0, .ref (ad 32)), (1, .int wk)] →
      zc_W l D cA ad sh sh z [.ref (ad 32), .int wk] 0 0 0 none (q_beg5 wk (q_beg4 9 0 (q_beg3 wk 17 0 (q_beg2 f (nI i) mi)))) ml z p e s m below meth c H locs 0 0 (F0 m 54 ls []) := by
    intro f
    induction f with
    | zero =>
      intro i  mi ml H locs ls hi h2 ew8 hB hl
      omega
    | succ f ih =>
      intro i  mi ml H locs ls hi h2 ew8 hB hl
      rw [q_beg2]
      refine lv_iload_n hx hb d_Model_begin_54 rfl (lv_at hl 0 rfl) ?_
      refine lv_sipush (v := 256) hx hb d_Model_begin_55 (by decide) ?_
      refine lv_icmp_ge (tgt := 74) hx hb d_Model_begin_58 (by decide) (fun c_58 => ?_) (fun c_58 => ?_)
      · rw [if_pos c_58]
        refine lv_iconst (v := 0) hx hb d_Model_begin_74 (by decide) ?_
        refine lv_istore_n (lv' := [(2, .int 0), (0, .ref (ad 32)), (1, .int wk)]) hx hb d_Model_begin_75 rfl hl (by decide) rfl (fun ls hl => ?_)
        exact loop3 17 0 _ _ _ _ ls rfl (by omega) ew8 hB (lv_sub hl [0, 1, 2] rfl)
      · rw [if_neg c_58]
        have hlt : i < 256 := zn_lt (a := 256) (by omega) c_58
        have hin : vp_in (nI i) 256 := vp_in_nI hlt (by decide)
        refine lv_aload_n hx hb d_Model_begin_61 rfl (lv_at hl 1 rfl) ?_
        refine zw_getR X hB fl_Model_72 32 (hm 32 _ rfl) rfl d_Model_begin_62 ?_
        refine lv_iload_n hx hb d_Model_begin_65 rfl (lv_at hl 0 rfl) ?_
        refine lv_iconst (v := 0) hx hb d_Model_begin_66 (by decide) ?_
        refine zw_iast X hB 53 (hm 53 _ rfl) hin d_Model_begin_67 (fun H locs hB => ?_)
        obtain ⟨mi_1, emi_1⟩ : ∃ y, y = zw_up mi 53 (nI i).toNatClampNeg 0 := ⟨_, rfl⟩
        rw [← emi_1] at hB
        refine lv_iinc (v := nI (i + 1)) (lv' := [(2, .int (nI (i + 1))), (0, .ref (ad 32)), (1, .int wk)]) hx hb d_Model_begin_68 hl (k := 0) rfl (nI_1 i) (by decide) rfl (fun ls hl => ?_)
        refine lv_goto (tgt := 54) hx hb d_Model_begin_71 (by decide) ?_
        subst emi_1
        rw [nI_1 i]
        exact ih (i + 1)  _ _ H locs ls (by omega) (by omega) (by simpa [zw_up] using ew8) hB (lv_sub hl [0, 1, 2] rfl)
  have loop1 : ∀ (f i : Nat) (mi : zw_I) (ml : zw_L) (H : Heap) (locs : List Loc) (ls : Array Slot), i + f = 17 → i ≤ n → mi 32 1 = nI n → mi 32 15 = nI w8 → zw_B D cA ad sh (zw_A ad sh z) s.heap mi ml z H locs → lv_has ls 3 [(2, .int (nI i)), (0, .ref (ad 32)), (1, .int wk)] →
      zc_W l D cA ad sh sh z [.ref (ad 32), .int wk] 0 0 0 none (q_begZ wk (q_beg1 f (nI i) mi ml).1) ((q_beg1 f (nI i) mi ml).2) z p e s m below meth c H locs 0 0 (F0 m 2 ls []) := by
    intro f
    induction f with
    | zero =>
      intro i  mi ml H locs ls hi h2 en ew8 hB hl
      omega
    | succ f ih =>
      intro i  mi ml H locs ls hi h2 en ew8 hB hl
      rw [q_beg1]
      refine lv_iload_n hx hb d_Model_begin_2 rfl (lv_at hl 0 rfl) ?_
      refine lv_aload_n hx hb d_Model_begin_3 rfl (lv_at hl 1 rfl) ?_
      refine zw_getI X hB fl_Model_75 32 (hm 32 _ rfl) rfl d_Model_begin_4 ?_
      refine lv_icmp_ge (tgt := 52) hx hb d_Model_begin_7 (by decide) (fun c_7 => ?_) (fun c_7 => ?_)
      · rw [if_pos c_7]
        refine lv_iconst (v := 0) hx hb d_Model_begin_52 (by decide) ?_
        refine lv_istore_n (lv' := [(2, .int 0), (0, .ref (ad 32)), (1, .int wk)]) hx hb d_Model_begin_53 rfl hl (by decide) rfl (fun ls hl => ?_)
        exact loop2 257 0 _ _ _ _ ls rfl (by omega) ew8 hB (lv_sub hl [0, 1, 2] rfl)
      · rw [if_neg c_7]
        have hlt : i < n := zn_lt (by omega) (by rw [← en]; exact c_7)
        have hin : vp_in (nI i) 16 := vp_in_nI (by omega) (by decide)
        refine lv_aload_n hx hb d_Model_begin_10 rfl (lv_at hl 1 rfl) ?_
        refine zw_getR X hB fl_Model_57 32 (hm 32 _ rfl) rfl d_Model_begin_11 ?_
        refine lv_iload_n hx hb d_Model_begin_14 rfl (lv_at hl 0 rfl) ?_
        refine lv_iconst (v := 0) hx hb d_Model_begin_15 (by decide) ?_
        refine zw_iast X hB 48 (hm 48 _ rfl) hin d_Model_begin_16 (fun H locs hB => ?_)
        obtain ⟨mi_1, emi_1⟩ : ∃ y, y = zw_up mi 48 (nI i).toNatClampNeg 0 := ⟨_, rfl⟩
        rw [← emi_1] at hB
        refine lv_aload_n hx hb d_Model_begin_17 rfl (lv_at hl 1 rfl) ?_
        refine zw_getR X hB fl_Model_69 32 (hm 32 _ rfl) rfl d_Model_begin_18 ?_
        refine lv_iload_n hx hb d_Model_begin_21 rfl (lv_at hl 0 rfl) ?_
        refine lv_iconst (v := 0) hx hb d_Model_begin_22 (by decide) ?_
        refine zw_iast X hB 52 (hm 52 _ rfl) hin d_Model_begin_23 (fun H locs hB => ?_)
        obtain ⟨mi_2, emi_2⟩ : ∃ y, y = zw_up mi_1 52 (nI i).toNatClampNeg 0 := ⟨_, rfl⟩
        rw [← emi_2] at hB
        refine lv_aload_n hx hb d_Model_begin_24 rfl (lv_at hl 1 rfl) ?_
        refine zw_getR X hB fl_Model_63 32 (hm 32 _ rfl) rfl d_Model_begin_25 ?_
        refine lv_iload_n hx hb d_Model_begin_28 rfl (lv_at hl 0 rfl) ?_
        refine lv_iload_n hx hb d_Model_begin_29 rfl (lv_at hl 0 rfl) ?_
        refine zw_iast X hB 50 (hm 50 _ rfl) hin d_Model_begin_30 (fun H locs hB => ?_)
        obtain ⟨mi_3, emi_3⟩ : ∃ y, y = zw_up mi_2 50 (nI i).toNatClampNeg (nI i) := ⟨_, rfl⟩
        rw [← emi_3] at hB
        refine lv_aload_n hx hb d_Model_begin_31 rfl (lv_at hl 1 rfl) ?_
        refine zw_getR X hB fl_Model_54 32 (hm 32 _ rfl) rfl d_Model_begin_32 ?_
        refine lv_bipush (v := 21) hx hb d_Model_begin_35 (by decide) ?_
        refine lv_iload_n hx hb d_Model_begin_37 rfl (lv_at hl 0 rfl) ?_
        refine lv_imul hx hb d_Model_begin_38 ?_
        refine lv_aload_n hx hb d_Model_begin_39 rfl (lv_at hl 1 rfl) ?_
        refine zw_getR X hB fl_Model_16 32 (hm 32 _ rfl) rfl d_Model_begin_40 ?_
        refine lv_iload_n hx hb d_Model_begin_43 rfl (lv_at hl 0 rfl) ?_
        refine zw_lald X hB 35 (hm 35 _ rfl) hin d_Model_begin_44 ?_
        refine zw_last X hB 47 (hm 47 _ rfl) (zm_210 hin) d_Model_begin_45 (fun H locs hB => ?_)
        obtain ⟨ml_4, eml_4⟩ : ∃ y, y = zw_up ml 47 (21 * (nI i)).toNatClampNeg (ml 35 (nI i).toNatClampNeg) := ⟨_, rfl⟩
        rw [← eml_4] at hB
        refine lv_iinc (v := nI (i + 1)) (lv' := [(2, .int (nI (i + 1))), (0, .ref (ad 32)), (1, .int wk)]) hx hb d_Model_begin_46 hl (k := 0) rfl (nI_1 i) (by decide) rfl (fun ls hl => ?_)
        refine lv_goto (tgt := 2) hx hb d_Model_begin_49 (by decide) ?_
        subst eml_4
        subst emi_3
        subst emi_2
        subst emi_1
        rw [nI_1 i]
        exact ih (i + 1)  _ _ H locs ls (by omega) (by omega) (by simpa [zw_up] using en) (by simpa [zw_up] using ew8) hB (lv_sub hl [0, 1, 2] rfl)
  refine lv_iconst (v := 0) hx hb d_Model_begin_0 (by decide) ?_
  refine lv_istore_n (lv' := [(2, .int 0), (0, .ref (ad 32)), (1, .int wk)]) hx hb d_Model_begin_1 rfl hl (by decide) rfl (fun ls hl => ?_)
  exact loop1 17 0 _ _ _ _ ls rfl (by omega) en ew8 hB (lv_sub hl [0, 1, 2] rfl)

set_option maxHeartbeats 4000000 in
set_option maxRecDepth 100000 in
theorem c_Model_at {l : Launch} {D : va_G} {cA : Nat → ClassId} {ad : Nat → Nat} {sh : zw_Sh} (hm : ∀ (k : Nat) (q : zw_Sp), shM k = some q → sh k = some q) (z : Nat) (mi : zw_I) (ml : zw_L) (x : Int32) (h1 : ¬ q_isShare mi x = 0 → vp_in x 16) :
    zc_M l D cA Y_Model_at 1 0 0 ad sh sh z [.ref (ad 32), .int x] mi ml (some (.long ((q_at mi ml x).1))) ((q_at mi ml x).2) ml z := by
  refine zc_enter (own := R_Model) (by decide) rfl (Nat.le_of_ble_eq_true rfl) ?_
  intro p e s m below meth c X hr hlocks hnm hB ls hl
  have X : zw_C D cA R_Model prog_9_method_21_code 2 p m c s := X
  have hr : meth.sig.returnType = (some FieldType.long) := hr
  have hx := X.1
  have hb := X.2.1
  have hl : lv_has ls 2 [(0, .ref (ad 32)), (1, .int x)] := hl
  unfold q_at
  refine lv_aload_n hx hb d_Model_at_0 rfl (lv_at hl 0 rfl) ?_
  refine lv_aload_n hx hb d_Model_at_1 rfl (lv_at hl 0 rfl) ?_
  refine lv_iload_n hx hb d_Model_at_2 rfl (lv_at hl 1 rfl) ?_
  refine zw_callVr X hB mv_Model_88 32 (hm 32 _ rfl) rfl (c_Model_isShare hm z mi ml x) rfl hl.1 ⟨Nat.le_of_ble_eq_true rfl, Nat.le_of_ble_eq_true rfl⟩ rfl (Nat.le_of_ble_eq_true rfl) ⟨Nat.le_of_ble_eq_true rfl, Nat.le_of_ble_eq_true rfl⟩ d_Model_at_3 (fun H locs hB => ?_)
  refine lv_if_ne (tgt := 13) hx hb d_Model_at_6 (by decide) (fun c_6 => ?_) (fun c_6 => ?_)
  · rw [if_neg c_6]
    refine lv_aload_n hx hb d_Model_at_13 rfl (lv_at hl 0 rfl) ?_
    refine zw_getR X hB fl_Model_47 32 (hm 32 _ rfl) rfl d_Model_at_14 ?_
    refine lv_iload_n hx hb d_Model_at_17 rfl (lv_at hl 1 rfl) ?_
    refine zw_zald X hB 45 (hm 45 _ rfl) (h1 c_6) d_Model_at_18 ?_
    refine lv_if_ne (tgt := 26) hx hb d_Model_at_19 (by decide) (fun c_19 => ?_) (fun c_19 => ?_)
    · rw [if_neg c_19]
      refine lv_iconst (v := 0) hx hb d_Model_at_26 (by decide) ?_
      refine zw_putI X hB fp_Model_85 (fun h => by cases h) 32 (hm 32 _ rfl) rfl d_Model_at_27 (fun H locs hB => ?_)
      obtain ⟨mi_1, emi_1⟩ : ∃ y, y = zw_up mi 32 0 0 := ⟨_, rfl⟩
      rw [← emi_1] at hB
      refine lv_aload_n hx hb d_Model_at_30 rfl (lv_at hl 0 rfl) ?_
      refine zw_getI X hB fl_Model_85 32 (hm 32 _ rfl) rfl d_Model_at_31 ?_
      refine lv_if_le (tgt := 41) hx hb d_Model_at_34 (by decide) (fun c_34 => ?_) (fun c_34 => ?_)
      · refine lv_aload_n hx hb d_Model_at_41 rfl (lv_at hl 0 rfl) ?_
        refine zw_getR X hB fl_Model_51 32 (hm 32 _ rfl) rfl d_Model_at_42 ?_
        refine lv_iload_n hx hb d_Model_at_45 rfl (lv_at hl 1 rfl) ?_
        refine zw_lald X hB 46 (hm 46 _ rfl) (h1 c_6) d_Model_at_46 ?_
        exact zc_lret X hr hlocks hB (by subst emi_1; rfl) (by subst emi_1; rfl) (by subst emi_1; rfl) d_Model_at_47
      · exact absurd (by rw [emi_1, zw_up_self]; decide) c_34
    · rw [if_pos c_19]
      refine lv_iconst (v := 2) hx hb d_Model_at_22 (by decide) ?_
      refine lv_goto (tgt := 27) hx hb d_Model_at_23 (by decide) ?_
      refine zw_putI X hB fp_Model_85 (fun h => by cases h) 32 (hm 32 _ rfl) rfl d_Model_at_27 (fun H locs hB => ?_)
      obtain ⟨mi_2, emi_2⟩ : ∃ y, y = zw_up mi 32 0 2 := ⟨_, rfl⟩
      rw [← emi_2] at hB
      refine lv_aload_n hx hb d_Model_at_30 rfl (lv_at hl 0 rfl) ?_
      refine zw_getI X hB fl_Model_85 32 (hm 32 _ rfl) rfl d_Model_at_31 ?_
      refine lv_if_le (tgt := 41) hx hb d_Model_at_34 (by decide) (fun c_34 => ?_) (fun c_34 => ?_)
      · exact absurd c_34 (by rw [emi_2, zw_up_self]; decide)
      · refine lv_lconst (v := 0) hx hb d_Model_at_37 (by decide) ?_
        refine lv_goto (tgt := 47) hx hb d_Model_at_38 (by decide) ?_
        exact zc_lret X hr hlocks hB (by subst emi_2; rfl) (by subst emi_2; rfl) (by subst emi_2; rfl) d_Model_at_47
  · rw [if_pos c_6]
    refine lv_iconst (v := 1) hx hb d_Model_at_9 (by decide) ?_
    refine lv_goto (tgt := 27) hx hb d_Model_at_10 (by decide) ?_
    refine zw_putI X hB fp_Model_85 (fun h => by cases h) 32 (hm 32 _ rfl) rfl d_Model_at_27 (fun H locs hB => ?_)
    obtain ⟨mi_3, emi_3⟩ : ∃ y, y = zw_up mi 32 0 1 := ⟨_, rfl⟩
    rw [← emi_3] at hB
    refine lv_aload_n hx hb d_Model_at_30 rfl (lv_at hl 0 rfl) ?_
    refine zw_getI X hB fl_Model_85 32 (hm 32 _ rfl) rfl d_Model_at_31 ?_
    refine lv_if_le (tgt := 41) hx hb d_Model_at_34 (by decide) (fun c_34 => ?_) (fun c_34 => ?_)
    · exact absurd c_34 (by rw [emi_3, zw_up_self]; decide)
    · refine lv_lconst (v := 0) hx hb d_Model_at_37 (by decide) ?_
      refine lv_goto (tgt := 47) hx hb d_Model_at_38 (by decide) ?_
      exact zc_lret X hr hlocks hB (by subst emi_3; rfl) (by subst emi_3; rfl) (by subst emi_3; rfl) d_Model_at_47

set_option maxHeartbeats 4000000 in
set_option maxRecDepth 100000 in
theorem c_Model_order {l : Launch} {D : va_G} {cA : Nat → ClassId} {ad : Nat → Nat} {sh : zw_Sh} (hm : ∀ (k : Nat) (q : zw_Sp), shM k = some q → sh k = some q) (z : Nat) (mi : zw_I) (ml : zw_L) (x : Int32) (h1 : ¬ p_within x 0 (mi 32 29 - 1) = 0 → vp_in x 16) :
    zc_M l D cA Y_Model_order 1 0 0 ad sh sh z [.ref (ad 32), .int x] mi ml (some (.int ((q_order mi x).1))) ((q_order mi x).2) ml z := by
  refine zc_enter (own := R_Model) (by decide) rfl (Nat.le_of_ble_eq_true rfl) ?_
  intro p e s m below meth c X hr hlocks hnm hB ls hl
  have X : zw_C D cA R_Model prog_9_method_22_code 2 p m c s := X
  have hr : meth.sig.returnType = (some FieldType.int) := hr
  have hx := X.1
  have hb := X.2.1
  have hl : lv_has ls 2 [(0, .ref (ad 32)), (1, .int x)] := hl
  unfold q_order
  refine lv_aload_n hx hb d_Model_order_0 rfl (lv_at hl 0 rfl) ?_
  refine lv_iload_n hx hb d_Model_order_1 rfl (lv_at hl 1 rfl) ?_
  refine lv_iconst (v := 0) hx hb d_Model_order_2 (by decide) ?_
  refine lv_aload_n hx hb d_Model_order_3 rfl (lv_at hl 0 rfl) ?_
  refine zw_getI X hB fl_Model_116 32 (hm 32 _ rfl) rfl d_Model_order_4 ?_
  refine lv_iconst (v := 1) hx hb d_Model_order_7 (by decide) ?_
  refine lv_isub hx hb d_Model_order_8 ?_
  refine zw_callSr X hB mv_Model_92 (c_Model_isIn hm z mi ml x 0 ((mi 32 29) - 1)) rfl hl.1 ⟨Nat.le_of_ble_eq_true rfl, Nat.le_of_ble_eq_true rfl⟩ rfl (Nat.le_of_ble_eq_true rfl) ⟨Nat.le_of_ble_eq_true rfl, Nat.le_of_ble_eq_true rfl⟩ d_Model_order_9 (fun H locs hB => ?_)
  refine lv_if_eq (tgt := 19) hx hb d_Model_order_12 (by decide) (fun c_12 => ?_) (fun c_12 => ?_)
  · rw [if_pos c_12]
    refine lv_iconst (v := 1) hx hb d_Model_order_19 (by decide) ?_
    refine zw_putI X hB fp_Model_85 (fun h => by cases h) 32 (hm 32 _ rfl) rfl d_Model_order_20 (fun H locs hB => ?_)
    obtain ⟨mi_1, emi_1⟩ : ∃ y, y = zw_up mi 32 0 1 := ⟨_, rfl⟩
    rw [← emi_1] at hB
    refine lv_aload_n hx hb d_Model_order_23 rfl (lv_at hl 0 rfl) ?_
    refine zw_getI X hB fl_Model_85 32 (hm 32 _ rfl) rfl d_Model_order_24 ?_
    refine lv_if_le (tgt := 34) hx hb d_Model_order_27 (by decide) (fun c_27 => ?_) (fun c_27 => ?_)
    · exact absurd c_27 (by rw [emi_1, zw_up_self]; decide)
    · refine lv_iconst (v := 0) hx hb d_Model_order_30 (by decide) ?_
      refine lv_goto (tgt := 40) hx hb d_Model_order_31 (by decide) ?_
      exact zc_iret X hr hlocks hB (by subst emi_1; rfl) (by subst emi_1; rfl) (by subst emi_1; rfl) d_Model_order_40
  · rw [if_neg c_12]
    refine lv_iconst (v := 0) hx hb d_Model_order_15 (by decide) ?_
    refine lv_goto (tgt := 20) hx hb d_Model_order_16 (by decide) ?_
    refine zw_putI X hB fp_Model_85 (fun h => by cases h) 32 (hm 32 _ rfl) rfl d_Model_order_20 (fun H locs hB => ?_)
    obtain ⟨mi_2, emi_2⟩ : ∃ y, y = zw_up mi 32 0 0 := ⟨_, rfl⟩
    rw [← emi_2] at hB
    refine lv_aload_n hx hb d_Model_order_23 rfl (lv_at hl 0 rfl) ?_
    refine zw_getI X hB fl_Model_85 32 (hm 32 _ rfl) rfl d_Model_order_24 ?_
    refine lv_if_le (tgt := 34) hx hb d_Model_order_27 (by decide) (fun c_27 => ?_) (fun c_27 => ?_)
    · refine lv_aload_n hx hb d_Model_order_34 rfl (lv_at hl 0 rfl) ?_
      refine zw_getR X hB fl_Model_66 32 (hm 32 _ rfl) rfl d_Model_order_35 ?_
      refine lv_iload_n hx hb d_Model_order_38 rfl (lv_at hl 1 rfl) ?_
      refine zw_iald X hB 51 (hm 51 _ rfl) (h1 c_12) d_Model_order_39 ?_
      exact zc_iret X hr hlocks hB (by subst emi_2; rfl) (by subst emi_2; rfl) (by subst emi_2; rfl) d_Model_order_40
    · exact absurd (by rw [emi_2, zw_up_self]; decide) c_27

set_option maxHeartbeats 4000000 in
set_option maxRecDepth 100000 in
theorem c_Model_begun {l : Launch} {D : va_G} {cA : Nat → ClassId} {ad : Nat → Nat} {sh : zw_Sh} (hm : ∀ (k : Nat) (q : zw_Sp), shM k = some q → sh k = some q) (z : Nat) (mi : zw_I) (ml : zw_L) (x : Int32) (h1 : ¬ q_isShare mi x = 0 → vp_in x 16) :
    zc_M l D cA Y_Model_begun 1 0 0 ad sh sh z [.ref (ad 32), .int x] mi ml (some (.int ((q_begun mi x).1))) ((q_begun mi x).2) ml z := by
  refine zc_enter (own := R_Model) (by decide) rfl (Nat.le_of_ble_eq_true rfl) ?_
  intro p e s m below meth c X hr hlocks hnm hB ls hl
  have X : zw_C D cA R_Model prog_9_method_23_code 2 p m c s := X
  have hr : meth.sig.returnType = (some FieldType.int) := hr
  have hx := X.1
  have hb := X.2.1
  have hl : lv_has ls 2 [(0, .ref (ad 32)), (1, .int x)] := hl
  unfold q_begun
  refine lv_aload_n hx hb d_Model_begun_0 rfl (lv_at hl 0 rfl) ?_
  refine lv_aload_n hx hb d_Model_begun_1 rfl (lv_at hl 0 rfl) ?_
  refine lv_iload_n hx hb d_Model_begun_2 rfl (lv_at hl 1 rfl) ?_
  refine zw_callVr X hB mv_Model_88 32 (hm 32 _ rfl) rfl (c_Model_isShare hm z mi ml x) rfl hl.1 ⟨Nat.le_of_ble_eq_true rfl, Nat.le_of_ble_eq_true rfl⟩ rfl (Nat.le_of_ble_eq_true rfl) ⟨Nat.le_of_ble_eq_true rfl, Nat.le_of_ble_eq_true rfl⟩ d_Model_begun_3 (fun H locs hB => ?_)
  refine lv_if_eq (tgt := 13) hx hb d_Model_begun_6 (by decide) (fun c_6 => ?_) (fun c_6 => ?_)
  · rw [if_pos c_6]
    refine lv_iconst (v := 1) hx hb d_Model_begun_13 (by decide) ?_
    refine zw_putI X hB fp_Model_85 (fun h => by cases h) 32 (hm 32 _ rfl) rfl d_Model_begun_14 (fun H locs hB => ?_)
    obtain ⟨mi_1, emi_1⟩ : ∃ y, y = zw_up mi 32 0 1 := ⟨_, rfl⟩
    rw [← emi_1] at hB
    refine lv_aload_n hx hb d_Model_begun_17 rfl (lv_at hl 0 rfl) ?_
    refine zw_getI X hB fl_Model_85 32 (hm 32 _ rfl) rfl d_Model_begun_18 ?_
    refine lv_if_le (tgt := 28) hx hb d_Model_begun_21 (by decide) (fun c_21 => ?_) (fun c_21 => ?_)
    · exact absurd c_21 (by rw [emi_1, zw_up_self]; decide)
    · refine lv_iconst (v := 0) hx hb d_Model_begun_24 (by decide) ?_
      refine lv_goto (tgt := 34) hx hb d_Model_begun_25 (by decide) ?_
      exact zc_iret X hr hlocks hB (by subst emi_1; rfl) (by subst emi_1; rfl) (by subst emi_1; rfl) d_Model_begun_34
  · rw [if_neg c_6]
    refine lv_iconst (v := 0) hx hb d_Model_begun_9 (by decide) ?_
    refine lv_goto (tgt := 14) hx hb d_Model_begun_10 (by decide) ?_
    refine zw_putI X hB fp_Model_85 (fun h => by cases h) 32 (hm 32 _ rfl) rfl d_Model_begun_14 (fun H locs hB => ?_)
    obtain ⟨mi_2, emi_2⟩ : ∃ y, y = zw_up mi 32 0 0 := ⟨_, rfl⟩
    rw [← emi_2] at hB
    refine lv_aload_n hx hb d_Model_begun_17 rfl (lv_at hl 0 rfl) ?_
    refine zw_getI X hB fl_Model_85 32 (hm 32 _ rfl) rfl d_Model_begun_18 ?_
    refine lv_if_le (tgt := 28) hx hb d_Model_begun_21 (by decide) (fun c_21 => ?_) (fun c_21 => ?_)
    · refine lv_aload_n hx hb d_Model_begun_28 rfl (lv_at hl 0 rfl) ?_
      refine zw_getR X hB fl_Model_69 32 (hm 32 _ rfl) rfl d_Model_begun_29 ?_
      refine lv_iload_n hx hb d_Model_begun_32 rfl (lv_at hl 1 rfl) ?_
      refine zw_iald X hB 52 (hm 52 _ rfl) (h1 c_6) d_Model_begun_33 ?_
      exact zc_iret X hr hlocks hB (by subst emi_2; rfl) (by subst emi_2; rfl) (by subst emi_2; rfl) d_Model_begun_34
    · exact absurd (by rw [emi_2, zw_up_self]; decide) c_21

set_option maxHeartbeats 4000000 in
set_option maxRecDepth 100000 in
theorem c_Model_waited {l : Launch} {D : va_G} {cA : Nat → ClassId} {ad : Nat → Nat} {sh : zw_Sh} (hm : ∀ (k : Nat) (q : zw_Sp), shM k = some q → sh k = some q) (z : Nat) (mi : zw_I) (ml : zw_L) (x : Int32) (y : Int32) (h1 : ∀ x : Int32, ¬ q_isShare mi x = 0 → vp_in x 16) :
    zc_M l D cA Y_Model_waited 1 0 0 ad sh sh z [.ref (ad 32), .int x, .int y] mi ml (some (.int ((q_waited mi x y).1))) ((q_waited mi x y).2) ml z := by
  refine zc_enter (own := R_Model) (by decide) rfl (Nat.le_of_ble_eq_true rfl) ?_
  intro p e s m below meth c X hr hlocks hnm hB ls hl
  have X : zw_C D cA R_Model prog_9_method_24_code 3 p m c s := X
  have hr : meth.sig.returnType = (some FieldType.int) := hr
  have hx := X.1
  have hb := X.2.1
  have hl : lv_has ls 3 [(0, .ref (ad 32)), (1, .int x), (2, .int y)] := hl
  unfold q_waited
  refine lv_aload_n hx hb d_Model_waited_0 rfl (lv_at hl 0 rfl) ?_
  refine lv_aload_n hx hb d_Model_waited_1 rfl (lv_at hl 0 rfl) ?_
  refine lv_iload_n hx hb d_Model_waited_2 rfl (lv_at hl 1 rfl) ?_
  refine zw_callVr X hB mv_Model_88 32 (hm 32 _ rfl) rfl (c_Model_isShare hm z mi ml x) rfl hl.1 ⟨Nat.le_of_ble_eq_true rfl, Nat.le_of_ble_eq_true rfl⟩ rfl (Nat.le_of_ble_eq_true rfl) ⟨Nat.le_of_ble_eq_true rfl, Nat.le_of_ble_eq_true rfl⟩ d_Model_waited_3 (fun H locs hB => ?_)
  refine lv_if_eq (tgt := 21) hx hb d_Model_waited_6 (by decide) (fun c_6 => ?_) (fun c_6 => ?_)
  · rw [if_pos c_6]
    refine lv_iconst (v := 1) hx hb d_Model_waited_21 (by decide) ?_
    refine zw_putI X hB fp_Model_85 (fun h => by cases h) 32 (hm 32 _ rfl) rfl d_Model_waited_22 (fun H locs hB => ?_)
    obtain ⟨mi_1, emi_1⟩ : ∃ y, y = zw_up mi 32 0 1 := ⟨_, rfl⟩
    rw [← emi_1] at hB
    refine lv_aload_n hx hb d_Model_waited_25 rfl (lv_at hl 0 rfl) ?_
    refine zw_getI X hB fl_Model_85 32 (hm 32 _ rfl) rfl d_Model_waited_26 ?_
    refine lv_if_le (tgt := 36) hx hb d_Model_waited_29 (by decide) (fun c_29 => ?_) (fun c_29 => ?_)
    · exact absurd c_29 (by rw [emi_1, zw_up_self]; decide)
    · refine lv_iconst (v := 0) hx hb d_Model_waited_32 (by decide) ?_
      refine lv_goto (tgt := 47) hx hb d_Model_waited_33 (by decide) ?_
      exact zc_iret X hr hlocks hB (by subst emi_1; rfl) (by subst emi_1; rfl) (by subst emi_1; rfl) d_Model_waited_47
  · rw [if_neg c_6]
    refine lv_aload_n hx hb d_Model_waited_9 rfl (lv_at hl 0 rfl) ?_
    refine lv_iload_n hx hb d_Model_waited_10 rfl (lv_at hl 2 rfl) ?_
    refine zw_callVr X hB mv_Model_88 32 (hm 32 _ rfl) rfl (c_Model_isShare hm z mi ml y) rfl hl.1 ⟨Nat.le_of_ble_eq_true rfl, Nat.le_of_ble_eq_true rfl⟩ rfl (Nat.le_of_ble_eq_true rfl) ⟨Nat.le_of_ble_eq_true rfl, Nat.le_of_ble_eq_true rfl⟩ d_Model_waited_11 (fun H locs hB => ?_)
    refine lv_if_eq (tgt := 21) hx hb d_Model_waited_14 (by decide) (fun c_14 => ?_) (fun c_14 => ?_)
    · rw [if_pos c_14]
      refine lv_iconst (v := 1) hx hb d_Model_waited_21 (by decide) ?_
      refine zw_putI X hB fp_Model_85 (fun h => by cases h) 32 (hm 32 _ rfl) rfl d_Model_waited_22 (fun H locs hB => ?_)
      obtain ⟨mi_2, emi_2⟩ : ∃ y, y = zw_up mi 32 0 1 := ⟨_, rfl⟩
      rw [← emi_2] at hB
      refine lv_aload_n hx hb d_Model_waited_25 rfl (lv_at hl 0 rfl) ?_
      refine zw_getI X hB fl_Model_85 32 (hm 32 _ rfl) rfl d_Model_waited_26 ?_
      refine lv_if_le (tgt := 36) hx hb d_Model_waited_29 (by decide) (fun c_29 => ?_) (fun c_29 => ?_)
      · exact absurd c_29 (by rw [emi_2, zw_up_self]; decide)
      · refine lv_iconst (v := 0) hx hb d_Model_waited_32 (by decide) ?_
        refine lv_goto (tgt := 47) hx hb d_Model_waited_33 (by decide) ?_
        exact zc_iret X hr hlocks hB (by subst emi_2; rfl) (by subst emi_2; rfl) (by subst emi_2; rfl) d_Model_waited_47
    · rw [if_neg c_14]
      refine lv_iconst (v := 0) hx hb d_Model_waited_17 (by decide) ?_
      refine lv_goto (tgt := 22) hx hb d_Model_waited_18 (by decide) ?_
      refine zw_putI X hB fp_Model_85 (fun h => by cases h) 32 (hm 32 _ rfl) rfl d_Model_waited_22 (fun H locs hB => ?_)
      obtain ⟨mi_3, emi_3⟩ : ∃ y, y = zw_up mi 32 0 0 := ⟨_, rfl⟩
      rw [← emi_3] at hB
      refine lv_aload_n hx hb d_Model_waited_25 rfl (lv_at hl 0 rfl) ?_
      refine zw_getI X hB fl_Model_85 32 (hm 32 _ rfl) rfl d_Model_waited_26 ?_
      refine lv_if_le (tgt := 36) hx hb d_Model_waited_29 (by decide) (fun c_29 => ?_) (fun c_29 => ?_)
      · refine lv_aload_n hx hb d_Model_waited_36 rfl (lv_at hl 0 rfl) ?_
        refine zw_getR X hB fl_Model_72 32 (hm 32 _ rfl) rfl d_Model_waited_37 ?_
        refine lv_bipush (v := 16) hx hb d_Model_waited_40 (by decide) ?_
        refine lv_iload_n hx hb d_Model_waited_42 rfl (lv_at hl 1 rfl) ?_
        refine lv_imul hx hb d_Model_waited_43 ?_
        refine lv_iload_n hx hb d_Model_waited_44 rfl (lv_at hl 2 rfl) ?_
        refine lv_iadd hx hb d_Model_waited_45 ?_
        refine zw_iald X hB 53 (hm 53 _ rfl) (zm_16 (h1 _ c_6) (h1 _ c_14)) d_Model_waited_46 ?_
        exact zc_iret X hr hlocks hB (by subst emi_3; rfl) (by subst emi_3; rfl) (by subst emi_3; rfl) d_Model_waited_47
      · exact absurd (by rw [emi_3, zw_up_self]; decide) c_29

set_option maxHeartbeats 4000000 in
set_option maxRecDepth 100000 in
theorem c_Model_told {l : Launch} {D : va_G} {cA : Nat → ClassId} {ad : Nat → Nat} {sh : zw_Sh} (hm : ∀ (k : Nat) (q : zw_Sp), shM k = some q → sh k = some q) (z : Nat) (mi : zw_I) (ml : zw_L) (x : Int32) {n : Nat} (hn : n ≤ 16) (en : mi 32 1 = nI n) :
    zc_M l D cA Y_Model_told 0 0 0 ad sh sh z [.ref (ad 32), .int x] mi ml (some (.int (q_told (zw_up mi 32 0 0) x))) (zw_up mi 32 0 0) ml z := by
  refine zc_enter (own := R_Model) (by decide) rfl (Nat.le_of_ble_eq_true rfl) ?_
  intro p e s m below meth c X hr hlocks hnm hB ls hl
  have X : zw_C D cA R_Model prog_9_method_25_code 4 p m c s := X
  have hr : meth.sig.returnType = (some FieldType.int) := hr
  have hx := X.1
  have hb := X.2.1
  have hl : lv_has ls 4 [(0, .ref (ad 32)), (1, .int x)] := hl
  have loop : ∀ (f i : Nat) (a : Int32) (mi : zw_I) (H : Heap) (locs : List Loc) (ls : Array Slot), i + f = 17 → i ≤ n → mi 32 1 = nI n → zw_B D cA ad sh (zw_A ad sh z) s.heap mi ml z H locs → lv_has ls 4 [(3, .int (nI i)), (2, .int a), (0, .ref (ad 32)), (1, .int x)] →
      zc_W l D cA ad sh sh z [.ref (ad 32), .int x] 0 0 0 (some (.int (q_toldA mi x (q_count mi f a (nI i))))) mi ml z p e s m below meth c H locs 0 0 (F0 m 9 ls []) := by
    intro f
    induction f with
    | zero =>
      intro i a mi H locs ls hi h2 en hB hl
      omega
    | succ f ih =>
      intro i a mi H locs ls hi h2 en hB hl
      rw [q_count]
      refine lv_iload_n hx hb d_Model_told_9 rfl (lv_at hl 0 rfl) ?_
      refine lv_aload_n hx hb d_Model_told_10 rfl (lv_at hl 2 rfl) ?_
      refine zw_getI X hB fl_Model_75 32 (hm 32 _ rfl) rfl d_Model_told_11 ?_
      refine lv_icmp_ge (tgt := 40) hx hb d_Model_told_14 (by decide) (fun c_14 => ?_) (fun c_14 => ?_)
      · rw [if_pos c_14]
        unfold q_toldA
        refine lv_iload_n hx hb d_Model_told_40 rfl (lv_at hl 3 rfl) ?_
        by_cases hk_0 : x = 0
        · rw [if_pos hk_0]
          subst hk_0
          refine lv_tableIn (off := 63) (tgt := 104) hx hb d_Model_told_41 (by decide) (by decide) (by decide) (by decide) ?_
          refine lv_aload_n hx hb d_Model_told_104 rfl (lv_at hl 2 rfl) ?_
          refine zw_getI X hB fl_Model_75 32 (hm 32 _ rfl) rfl d_Model_told_105 ?_
          exact zc_iret X hr hlocks hB (by rfl) (by rfl) (by rfl) d_Model_told_108
        rw [if_neg hk_0]
        by_cases hk_1 : x = 1
        · rw [if_pos hk_1]
          subst hk_1
          refine lv_tableIn (off := 68) (tgt := 109) hx hb d_Model_told_41 (by decide) (by decide) (by decide) (by decide) ?_
          refine lv_aload_n hx hb d_Model_told_109 rfl (lv_at hl 2 rfl) ?_
          refine zw_getI X hB fl_Model_79 32 (hm 32 _ rfl) rfl d_Model_told_110 ?_
          exact zc_iret X hr hlocks hB (by rfl) (by rfl) (by rfl) d_Model_told_113
        rw [if_neg hk_1]
        by_cases hk_2 : x = 2
        · rw [if_pos hk_2]
          subst hk_2
          refine lv_tableIn (off := 73) (tgt := 114) hx hb d_Model_told_41 (by decide) (by decide) (by decide) (by decide) ?_
          refine lv_aload_n hx hb d_Model_told_114 rfl (lv_at hl 2 rfl) ?_
          refine zw_getI X hB fl_Model_96 32 (hm 32 _ rfl) rfl d_Model_told_115 ?_
          exact zc_iret X hr hlocks hB (by rfl) (by rfl) (by rfl) d_Model_told_118
        rw [if_neg hk_2]
        by_cases hk_3 : x = 3
        · rw [if_pos hk_3]
          subst hk_3
          refine lv_tableIn (off := 78) (tgt := 119) hx hb d_Model_told_41 (by decide) (by decide) (by decide) (by decide) ?_
          refine lv_aload_n hx hb d_Model_told_119 rfl (lv_at hl 2 rfl) ?_
          refine zw_getI X hB fl_Model_99 32 (hm 32 _ rfl) rfl d_Model_told_120 ?_
          exact zc_iret X hr hlocks hB (by rfl) (by rfl) (by rfl) d_Model_told_123
        rw [if_neg hk_3]
        by_cases hk_4 : x = 4
        · rw [if_pos hk_4]
          subst hk_4
          refine lv_tableIn (off := 83) (tgt := 124) hx hb d_Model_told_41 (by decide) (by decide) (by decide) (by decide) ?_
          refine lv_aload_n hx hb d_Model_told_124 rfl (lv_at hl 2 rfl) ?_
          refine zw_getI X hB fl_Model_154 32 (hm 32 _ rfl) rfl d_Model_told_125 ?_
          exact zc_iret X hr hlocks hB (by rfl) (by rfl) (by rfl) d_Model_told_128
        rw [if_neg hk_4]
        by_cases hk_5 : x = 5
        · rw [if_pos hk_5]
          subst hk_5
          refine lv_tableIn (off := 88) (tgt := 129) hx hb d_Model_told_41 (by decide) (by decide) (by decide) (by decide) ?_
          refine lv_aload_n hx hb d_Model_told_129 rfl (lv_at hl 2 rfl) ?_
          refine zw_getI X hB fl_Model_127 32 (hm 32 _ rfl) rfl d_Model_told_130 ?_
          exact zc_iret X hr hlocks hB (by rfl) (by rfl) (by rfl) d_Model_told_133
        rw [if_neg hk_5]
        by_cases hk_6 : x = 6
        · rw [if_pos hk_6]
          subst hk_6
          refine lv_tableIn (off := 93) (tgt := 134) hx hb d_Model_told_41 (by decide) (by decide) (by decide) (by decide) ?_
          refine lv_aload_n hx hb d_Model_told_134 rfl (lv_at hl 2 rfl) ?_
          refine zw_getI X hB fl_Model_134 32 (hm 32 _ rfl) rfl d_Model_told_135 ?_
          exact zc_iret X hr hlocks hB (by rfl) (by rfl) (by rfl) d_Model_told_138
        rw [if_neg hk_6]
        by_cases hk_7 : x = 7
        · rw [if_pos hk_7]
          subst hk_7
          refine lv_tableIn (off := 98) (tgt := 139) hx hb d_Model_told_41 (by decide) (by decide) (by decide) (by decide) ?_
          refine lv_aload_n hx hb d_Model_told_139 rfl (lv_at hl 2 rfl) ?_
          refine zw_getI X hB fl_Model_113 32 (hm 32 _ rfl) rfl d_Model_told_140 ?_
          exact zc_iret X hr hlocks hB (by rfl) (by rfl) (by rfl) d_Model_told_143
        rw [if_neg hk_7]
        by_cases hk_8 : x = 8
        · rw [if_pos hk_8]
          subst hk_8
          refine lv_tableIn (off := 103) (tgt := 144) hx hb d_Model_told_41 (by decide) (by decide) (by decide) (by decide) ?_
          refine lv_aload_n hx hb d_Model_told_144 rfl (lv_at hl 2 rfl) ?_
          refine zw_getI X hB fl_Model_108 32 (hm 32 _ rfl) rfl d_Model_told_145 ?_
          exact zc_iret X hr hlocks hB (by rfl) (by rfl) (by rfl) d_Model_told_148
        rw [if_neg hk_8]
        by_cases hk_9 : x = 9
        · rw [if_pos hk_9]
          subst hk_9
          refine lv_tableIn (off := 108) (tgt := 149) hx hb d_Model_told_41 (by decide) (by decide) (by decide) (by decide) ?_
          refine lv_aload_n hx hb d_Model_told_149 rfl (lv_at hl 2 rfl) ?_
          refine zw_getI X hB fl_Model_168 32 (hm 32 _ rfl) rfl d_Model_told_150 ?_
          exact zc_iret X hr hlocks hB (by rfl) (by rfl) (by rfl) d_Model_told_153
        rw [if_neg hk_9]
        by_cases hk_10 : x = 10
        · rw [if_pos hk_10]
          subst hk_10
          refine lv_tableIn (off := 113) (tgt := 154) hx hb d_Model_told_41 (by decide) (by decide) (by decide) (by decide) ?_
          refine lv_aload_n hx hb d_Model_told_154 rfl (lv_at hl 2 rfl) ?_
          refine zw_getI X hB fl_Model_116 32 (hm 32 _ rfl) rfl d_Model_told_155 ?_
          exact zc_iret X hr hlocks hB (by rfl) (by rfl) (by rfl) d_Model_told_158
        rw [if_neg hk_10]
        by_cases hk_11 : x = 11
        · rw [if_pos hk_11]
          subst hk_11
          refine lv_tableIn (off := 118) (tgt := 159) hx hb d_Model_told_41 (by decide) (by decide) (by decide) (by decide) ?_
          refine lv_iload_n hx hb d_Model_told_159 rfl (lv_at hl 1 rfl) ?_
          exact zc_iret X hr hlocks hB (by rfl) (by rfl) (by rfl) d_Model_told_160
        rw [if_neg hk_11]
        refine lv_tableOut (tgt := 161) hx hb d_Model_told_41 (zt_out hk_0 hk_1 hk_2 hk_3 hk_4 hk_5 hk_6 hk_7 hk_8 hk_9 hk_10 hk_11) (by decide) ?_
        refine lv_iconst (v := (-1)) hx hb d_Model_told_161 (by decide) ?_
        exact zc_iret X hr hlocks hB (by rfl) (by rfl) (by rfl) d_Model_told_162
      · rw [if_neg c_14]
        have hlt : i < n := zn_lt (by omega) (by rw [← en]; exact c_14)
        have hin : vp_in (nI i) 16 := vp_in_nI (by omega) (by decide)
        refine lv_iload_n hx hb d_Model_told_17 rfl (lv_at hl 1 rfl) ?_
        refine lv_aload_n hx hb d_Model_told_18 rfl (lv_at hl 2 rfl) ?_
        refine zw_getR X hB fl_Model_47 32 (hm 32 _ rfl) rfl d_Model_told_19 ?_
        refine lv_iload_n hx hb d_Model_told_22 rfl (lv_at hl 0 rfl) ?_
        refine zw_zald X hB 45 (hm 45 _ rfl) hin d_Model_told_23 ?_
        refine lv_if_eq (tgt := 31) hx hb d_Model_told_24 (by decide) (fun c_24 => ?_) (fun c_24 => ?_)
        · rw [if_pos c_24]
          refine lv_iconst (v := 0) hx hb d_Model_told_31 (by decide) ?_
          refine lv_iadd hx hb d_Model_told_32 ?_
          refine lv_istore_n (lv' := [(2, .int (a + 0)), (3, .int (nI i)), (0, .ref (ad 32)), (1, .int x)]) hx hb d_Model_told_33 rfl hl (by decide) rfl (fun ls hl => ?_)
          refine lv_iinc (v := nI (i + 1)) (lv' := [(3, .int (nI (i + 1))), (2, .int (a + 0)), (0, .ref (ad 32)), (1, .int x)]) hx hb d_Model_told_34 hl (k := 1) rfl (nI_1 i) (by decide) rfl (fun ls hl => ?_)
          refine lv_goto (tgt := 9) hx hb d_Model_told_37 (by decide) ?_
          rw [nI_1 i]
          exact ih (i + 1) _ _ H locs ls (by omega) (by omega) en hB (lv_sub hl [0, 1, 2, 3] rfl)
        · rw [if_neg c_24]
          refine lv_iconst (v := 1) hx hb d_Model_told_27 (by decide) ?_
          refine lv_goto (tgt := 32) hx hb d_Model_told_28 (by decide) ?_
          refine lv_iadd hx hb d_Model_told_32 ?_
          refine lv_istore_n (lv' := [(2, .int (a + 1)), (3, .int (nI i)), (0, .ref (ad 32)), (1, .int x)]) hx hb d_Model_told_33 rfl hl (by decide) rfl (fun ls hl => ?_)
          refine lv_iinc (v := nI (i + 1)) (lv' := [(3, .int (nI (i + 1))), (2, .int (a + 1)), (0, .ref (ad 32)), (1, .int x)]) hx hb d_Model_told_34 hl (k := 1) rfl (nI_1 i) (by decide) rfl (fun ls hl => ?_)
          refine lv_goto (tgt := 9) hx hb d_Model_told_37 (by decide) ?_
          rw [nI_1 i]
          exact ih (i + 1) _ _ H locs ls (by omega) (by omega) en hB (lv_sub hl [0, 1, 2, 3] rfl)
  refine lv_aload_n hx hb d_Model_told_0 rfl (lv_at hl 0 rfl) ?_
  refine lv_iconst (v := 0) hx hb d_Model_told_1 (by decide) ?_
  refine zw_putI X hB fp_Model_85 (fun h => by cases h) 32 (hm 32 _ rfl) rfl d_Model_told_2 (fun H locs hB => ?_)
  obtain ⟨mi_1, emi_1⟩ : ∃ y, y = zw_up mi 32 0 0 := ⟨_, rfl⟩
  rw [← emi_1] at hB
  refine lv_iconst (v := 0) hx hb d_Model_told_5 (by decide) ?_
  refine lv_istore_n (lv' := [(2, .int 0), (0, .ref (ad 32)), (1, .int x)]) hx hb d_Model_told_6 rfl hl (by decide) rfl (fun ls hl => ?_)
  refine lv_iconst (v := 0) hx hb d_Model_told_7 (by decide) ?_
  refine lv_istore_n (lv' := [(3, .int 0), (2, .int 0), (0, .ref (ad 32)), (1, .int x)]) hx hb d_Model_told_8 rfl hl (by decide) rfl (fun ls hl => ?_)
  subst emi_1
  exact loop 17 0 _ _ _ _ ls rfl (by omega) (by simpa [zw_up] using en) hB (lv_sub hl [0, 1, 2, 3] rfl)

set_option maxHeartbeats 4000000 in
set_option maxRecDepth 100000 in
theorem c_Model_clear {l : Launch} {D : va_G} {cA : Nat → ClassId} {ad : Nat → Nat} {sh : zw_Sh} (hm : ∀ (k : Nat) (q : zw_Sp), shM k = some q → sh k = some q) (z : Nat) (mi : zw_I) (ml : zw_L) :
    zc_M l D cA Y_Model_clear 0 0 0 ad sh sh z [.ref (ad 32)] mi ml none ((q_clear mi ml).1) ((q_clear mi ml).2) z := by
  refine zc_enter (own := R_Model) (by decide) rfl (Nat.le_of_ble_eq_true rfl) ?_
  intro p e s m below meth c X hr hlocks hnm hB ls hl
  have X : zw_C D cA R_Model prog_9_method_26_code 2 p m c s := X
  have hr : meth.sig.returnType = none := hr
  have hx := X.1
  have hb := X.2.1
  have hl : lv_has ls 2 [(0, .ref (ad 32))] := hl
  have loop2 : ∀ (f i : Nat) (mi : zw_I) (ml : zw_L) (H : Heap) (locs : List Loc) (ls : Array Slot), i + f = 257 → i ≤ 256 → zw_B D cA ad sh (zw_A ad sh z) s.heap mi ml z H locs → lv_has ls 2 [(1, .int (nI i)), (0, .ref (ad 32))] →
      zc_W l D cA ad sh sh z [.ref (ad 32)] 0 0 0 none (q_clr3 (q_beg2 f (nI i) mi)) ml z p e s m below meth c H locs 0 0 (F0 m 81 ls []) := by
    intro f
    induction f with
    | zero =>
      intro i  mi ml H locs ls hi h2 hB hl
      omega
    | succ f ih =>
      intro i  mi ml H locs ls hi h2 hB hl
      rw [q_beg2]
      refine lv_iload_n hx hb d_Model_clear_81 rfl (lv_at hl 0 rfl) ?_
      refine lv_sipush (v := 256) hx hb d_Model_clear_82 (by decide) ?_
      refine lv_icmp_ge (tgt := 101) hx hb d_Model_clear_85 (by decide) (fun c_85 => ?_) (fun c_85 => ?_)
      · rw [if_pos c_85]
        refine lv_aload_n hx hb d_Model_clear_101 rfl (lv_at hl 1 rfl) ?_
        refine lv_iconst (v := 0) hx hb d_Model_clear_102 (by decide) ?_
        refine zw_putI X hB fp_Model_116 (fun h => by cases h) 32 (hm 32 _ rfl) rfl d_Model_clear_103 (fun H locs hB => ?_)
        obtain ⟨mi_1, emi_1⟩ : ∃ y, y = zw_up mi 32 29 0 := ⟨_, rfl⟩
        rw [← emi_1] at hB
        refine lv_aload_n hx hb d_Model_clear_106 rfl (lv_at hl 1 rfl) ?_
        refine lv_iconst (v := 0) hx hb d_Model_clear_107 (by decide) ?_
        refine zw_putI X hB fp_Model_154 (fun h => by cases h) 32 (hm 32 _ rfl) rfl d_Model_clear_108 (fun H locs hB => ?_)
        obtain ⟨mi_2, emi_2⟩ : ∃ y, y = zw_up mi_1 32 30 0 := ⟨_, rfl⟩
        rw [← emi_2] at hB
        refine lv_aload_n hx hb d_Model_clear_111 rfl (lv_at hl 1 rfl) ?_
        refine lv_iconst (v := 0) hx hb d_Model_clear_112 (by decide) ?_
        refine zw_putI X hB fp_Model_127 (fun h => by cases h) 32 (hm 32 _ rfl) rfl d_Model_clear_113 (fun H locs hB => ?_)
        obtain ⟨mi_3, emi_3⟩ : ∃ y, y = zw_up mi_2 32 31 0 := ⟨_, rfl⟩
        rw [← emi_3] at hB
        refine lv_aload_n hx hb d_Model_clear_116 rfl (lv_at hl 1 rfl) ?_
        refine lv_iconst (v := 0) hx hb d_Model_clear_117 (by decide) ?_
        refine zw_putI X hB fp_Model_134 (fun h => by cases h) 32 (hm 32 _ rfl) rfl d_Model_clear_118 (fun H locs hB => ?_)
        obtain ⟨mi_4, emi_4⟩ : ∃ y, y = zw_up mi_3 32 32 0 := ⟨_, rfl⟩
        rw [← emi_4] at hB
        refine lv_aload_n hx hb d_Model_clear_121 rfl (lv_at hl 1 rfl) ?_
        refine lv_iconst (v := 0) hx hb d_Model_clear_122 (by decide) ?_
        refine zw_putI X hB fp_Model_113 (fun h => by cases h) 32 (hm 32 _ rfl) rfl d_Model_clear_123 (fun H locs hB => ?_)
        obtain ⟨mi_5, emi_5⟩ : ∃ y, y = zw_up mi_4 32 33 0 := ⟨_, rfl⟩
        rw [← emi_5] at hB
        refine lv_aload_n hx hb d_Model_clear_126 rfl (lv_at hl 1 rfl) ?_
        refine lv_iconst (v := 0) hx hb d_Model_clear_127 (by decide) ?_
        refine zw_putI X hB fp_Model_108 (fun h => by cases h) 32 (hm 32 _ rfl) rfl d_Model_clear_128 (fun H locs hB => ?_)
        obtain ⟨mi_6, emi_6⟩ : ∃ y, y = zw_up mi_5 32 34 0 := ⟨_, rfl⟩
        rw [← emi_6] at hB
        refine lv_aload_n hx hb d_Model_clear_131 rfl (lv_at hl 1 rfl) ?_
        refine lv_iconst (v := 0) hx hb d_Model_clear_132 (by decide) ?_
        refine zw_putI X hB fp_Model_168 (fun h => by cases h) 32 (hm 32 _ rfl) rfl d_Model_clear_133 (fun H locs hB => ?_)
        obtain ⟨mi_7, emi_7⟩ : ∃ y, y = zw_up mi_6 32 35 0 := ⟨_, rfl⟩
        rw [← emi_7] at hB
        exact zc_vret X hr hlocks hB (by subst emi_7; subst emi_6; subst emi_5; subst emi_4; subst emi_3; subst emi_2; subst emi_1; rfl) (by subst emi_7; subst emi_6; subst emi_5; subst emi_4; subst emi_3; subst emi_2; subst emi_1; rfl) (by subst emi_7; subst emi_6; subst emi_5; subst emi_4; subst emi_3; subst emi_2; subst emi_1; rfl) d_Model_clear_136
      · rw [if_neg c_85]
        have hlt : i < 256 := zn_lt (a := 256) (by omega) c_85
        have hin : vp_in (nI i) 256 := vp_in_nI hlt (by decide)
        refine lv_aload_n hx hb d_Model_clear_88 rfl (lv_at hl 1 rfl) ?_
        refine zw_getR X hB fl_Model_72 32 (hm 32 _ rfl) rfl d_Model_clear_89 ?_
        refine lv_iload_n hx hb d_Model_clear_92 rfl (lv_at hl 0 rfl) ?_
        refine lv_iconst (v := 0) hx hb d_Model_clear_93 (by decide) ?_
        refine zw_iast X hB 53 (hm 53 _ rfl) hin d_Model_clear_94 (fun H locs hB => ?_)
        obtain ⟨mi_8, emi_8⟩ : ∃ y, y = zw_up mi 53 (nI i).toNatClampNeg 0 := ⟨_, rfl⟩
        rw [← emi_8] at hB
        refine lv_iinc (v := nI (i + 1)) (lv' := [(1, .int (nI (i + 1))), (0, .ref (ad 32))]) hx hb d_Model_clear_95 hl (k := 0) rfl (nI_1 i) (by decide) rfl (fun ls hl => ?_)
        refine lv_goto (tgt := 81) hx hb d_Model_clear_98 (by decide) ?_
        subst emi_8
        rw [nI_1 i]
        exact ih (i + 1)  _ _ H locs ls (by omega) (by omega) hB (lv_sub hl [0, 1] rfl)
  have loop1 : ∀ (f i : Nat) (mi : zw_I) (ml : zw_L) (H : Heap) (locs : List Loc) (ls : Array Slot), i + f = 17 → i ≤ 16 → zw_B D cA ad sh (zw_A ad sh z) s.heap mi ml z H locs → lv_has ls 2 [(1, .int (nI i)), (0, .ref (ad 32))] →
      zc_W l D cA ad sh sh z [.ref (ad 32)] 0 0 0 none (q_clr3 (q_beg2 257 0 (q_clr1 f (nI i) mi ml).1)) ((q_clr1 f (nI i) mi ml).2) z p e s m below meth c H locs 0 0 (F0 m 17 ls []) := by
    intro f
    induction f with
    | zero =>
      intro i  mi ml H locs ls hi h2 hB hl
      omega
    | succ f ih =>
      intro i  mi ml H locs ls hi h2 hB hl
      rw [q_clr1]
      refine lv_iload_n hx hb d_Model_clear_17 rfl (lv_at hl 0 rfl) ?_
      refine lv_bipush (v := 16) hx hb d_Model_clear_18 (by decide) ?_
      refine lv_icmp_ge (tgt := 79) hx hb d_Model_clear_20 (by decide) (fun c_20 => ?_) (fun c_20 => ?_)
      · rw [if_pos c_20]
        refine lv_iconst (v := 0) hx hb d_Model_clear_79 (by decide) ?_
        refine lv_istore_n (lv' := [(1, .int 0), (0, .ref (ad 32))]) hx hb d_Model_clear_80 rfl hl (by decide) rfl (fun ls hl => ?_)
        exact loop2 257 0 _ _ _ _ ls rfl (by omega) hB (lv_sub hl [0, 1] rfl)
      · rw [if_neg c_20]
        have hlt : i < 16 := zn_lt (a := 16) (by omega) c_20
        have hin : vp_in (nI i) 16 := vp_in_nI hlt (by decide)
        refine lv_aload_n hx hb d_Model_clear_23 rfl (lv_at hl 1 rfl) ?_
        refine zw_getR X hB fl_Model_7 32 (hm 32 _ rfl) rfl d_Model_clear_24 ?_
        refine lv_iload_n hx hb d_Model_clear_27 rfl (lv_at hl 0 rfl) ?_
        refine lv_iconst (v := 1) hx hb d_Model_clear_28 (by decide) ?_
        refine zw_iast X hB 33 (hm 33 _ rfl) hin d_Model_clear_29 (fun H locs hB => ?_)
        obtain ⟨mi_1, emi_1⟩ : ∃ y, y = zw_up mi 33 (nI i).toNatClampNeg 1 := ⟨_, rfl⟩
        rw [← emi_1] at hB
        refine lv_aload_n hx hb d_Model_clear_30 rfl (lv_at hl 1 rfl) ?_
        refine zw_getR X hB fl_Model_13 32 (hm 32 _ rfl) rfl d_Model_clear_31 ?_
        refine lv_iload_n hx hb d_Model_clear_34 rfl (lv_at hl 0 rfl) ?_
        refine lv_iconst (v := 1) hx hb d_Model_clear_35 (by decide) ?_
        refine zw_iast X hB 34 (hm 34 _ rfl) hin d_Model_clear_36 (fun H locs hB => ?_)
        obtain ⟨mi_2, emi_2⟩ : ∃ y, y = zw_up mi_1 34 (nI i).toNatClampNeg 1 := ⟨_, rfl⟩
        rw [← emi_2] at hB
        refine lv_aload_n hx hb d_Model_clear_37 rfl (lv_at hl 1 rfl) ?_
        refine zw_getR X hB fl_Model_16 32 (hm 32 _ rfl) rfl d_Model_clear_38 ?_
        refine lv_iload_n hx hb d_Model_clear_41 rfl (lv_at hl 0 rfl) ?_
        refine lv_iload_n hx hb d_Model_clear_42 rfl (lv_at hl 0 rfl) ?_
        refine lv_i2l (v := (nI i).toInt64) hx hb d_Model_clear_43 rfl ?_
        refine zw_last X hB 35 (hm 35 _ rfl) hin d_Model_clear_44 (fun H locs hB => ?_)
        obtain ⟨ml_3, eml_3⟩ : ∃ y, y = zw_up ml 35 (nI i).toNatClampNeg ((nI i).toInt64) := ⟨_, rfl⟩
        rw [← eml_3] at hB
        refine lv_aload_n hx hb d_Model_clear_45 rfl (lv_at hl 1 rfl) ?_
        refine zw_getR X hB fl_Model_20 32 (hm 32 _ rfl) rfl d_Model_clear_46 ?_
        refine lv_iload_n hx hb d_Model_clear_49 rfl (lv_at hl 0 rfl) ?_
        refine lv_iconst (v := 0) hx hb d_Model_clear_50 (by decide) ?_
        refine zw_iast X hB 36 (hm 36 _ rfl) hin d_Model_clear_51 (fun H locs hB => ?_)
        obtain ⟨mi_4, emi_4⟩ : ∃ y, y = zw_up mi_2 36 (nI i).toNatClampNeg 0 := ⟨_, rfl⟩
        rw [← emi_4] at hB
        refine lv_aload_n hx hb d_Model_clear_52 rfl (lv_at hl 1 rfl) ?_
        refine zw_getR X hB fl_Model_47 32 (hm 32 _ rfl) rfl d_Model_clear_53 ?_
        refine lv_iload_n hx hb d_Model_clear_56 rfl (lv_at hl 0 rfl) ?_
        refine lv_iconst (v := 0) hx hb d_Model_clear_57 (by decide) ?_
        refine zw_zast X hB 45 (hm 45 _ rfl) (by rfl) hin d_Model_clear_58 (fun H locs hB => ?_)
        obtain ⟨mi_5, emi_5⟩ : ∃ y, y = zw_up mi_4 45 (nI i).toNatClampNeg 0 := ⟨_, rfl⟩
        rw [← emi_5] at hB
        refine lv_aload_n hx hb d_Model_clear_59 rfl (lv_at hl 1 rfl) ?_
        refine zw_getR X hB fl_Model_57 32 (hm 32 _ rfl) rfl d_Model_clear_60 ?_
        refine lv_iload_n hx hb d_Model_clear_63 rfl (lv_at hl 0 rfl) ?_
        refine lv_iconst (v := 0) hx hb d_Model_clear_64 (by decide) ?_
        refine zw_iast X hB 48 (hm 48 _ rfl) hin d_Model_clear_65 (fun H locs hB => ?_)
        obtain ⟨mi_6, emi_6⟩ : ∃ y, y = zw_up mi_5 48 (nI i).toNatClampNeg 0 := ⟨_, rfl⟩
        rw [← emi_6] at hB
        refine lv_aload_n hx hb d_Model_clear_66 rfl (lv_at hl 1 rfl) ?_
        refine zw_getR X hB fl_Model_69 32 (hm 32 _ rfl) rfl d_Model_clear_67 ?_
        refine lv_iload_n hx hb d_Model_clear_70 rfl (lv_at hl 0 rfl) ?_
        refine lv_iconst (v := 0) hx hb d_Model_clear_71 (by decide) ?_
        refine zw_iast X hB 52 (hm 52 _ rfl) hin d_Model_clear_72 (fun H locs hB => ?_)
        obtain ⟨mi_7, emi_7⟩ : ∃ y, y = zw_up mi_6 52 (nI i).toNatClampNeg 0 := ⟨_, rfl⟩
        rw [← emi_7] at hB
        refine lv_iinc (v := nI (i + 1)) (lv' := [(1, .int (nI (i + 1))), (0, .ref (ad 32))]) hx hb d_Model_clear_73 hl (k := 0) rfl (nI_1 i) (by decide) rfl (fun ls hl => ?_)
        refine lv_goto (tgt := 17) hx hb d_Model_clear_76 (by decide) ?_
        subst emi_7
        subst emi_6
        subst emi_5
        subst emi_4
        subst eml_3
        subst emi_2
        subst emi_1
        rw [nI_1 i]
        exact ih (i + 1)  _ _ H locs ls (by omega) (by omega) hB (lv_sub hl [0, 1] rfl)
  refine lv_aload_n hx hb d_Model_clear_0 rfl (lv_at hl 0 rfl) ?_
  refine lv_iconst (v := 0) hx hb d_Model_clear_1 (by decide) ?_
  refine zw_putI X hB fp_Model_85 (fun h => by cases h) 32 (hm 32 _ rfl) rfl d_Model_clear_2 (fun H locs hB => ?_)
  obtain ⟨mi_1, emi_1⟩ : ∃ y, y = zw_up mi 32 0 0 := ⟨_, rfl⟩
  rw [← emi_1] at hB
  refine lv_aload_n hx hb d_Model_clear_5 rfl (lv_at hl 0 rfl) ?_
  refine lv_iconst (v := 0) hx hb d_Model_clear_6 (by decide) ?_
  refine zw_putI X hB fp_Model_96 (fun h => by cases h) 32 (hm 32 _ rfl) rfl d_Model_clear_7 (fun H locs hB => ?_)
  obtain ⟨mi_2, emi_2⟩ : ∃ y, y = zw_up mi_1 32 15 0 := ⟨_, rfl⟩
  rw [← emi_2] at hB
  refine lv_aload_n hx hb d_Model_clear_10 rfl (lv_at hl 0 rfl) ?_
  refine lv_iconst (v := (-1)) hx hb d_Model_clear_11 (by decide) ?_
  refine zw_putI X hB fp_Model_99 (fun h => by cases h) 32 (hm 32 _ rfl) rfl d_Model_clear_12 (fun H locs hB => ?_)
  obtain ⟨mi_3, emi_3⟩ : ∃ y, y = zw_up mi_2 32 16 (-1) := ⟨_, rfl⟩
  rw [← emi_3] at hB
  refine lv_iconst (v := 0) hx hb d_Model_clear_15 (by decide) ?_
  refine lv_istore_n (lv' := [(1, .int 0), (0, .ref (ad 32))]) hx hb d_Model_clear_16 rfl hl (by decide) rfl (fun ls hl => ?_)
  subst emi_3
  subst emi_2
  subst emi_1
  exact loop1 17 0 _ _ _ _ ls rfl (by omega) hB (lv_sub hl [0, 1] rfl)
end
section
abbrev Y_Model_run : zc_Y := (⟨R_Model, "run", "(IJ)I"⟩, prog_9_method_20_code, 9, (some FieldType.int))
theorem d_Model_run_0 : decode prog_9_method_20_code 0 = .ok (.aload_n 0, 1) := by decide +kernel
theorem d_Model_run_1 : decode prog_9_method_20_code 1 = .ok (.iload_n 1, 1) := by decide +kernel
theorem d_Model_run_2 : decode prog_9_method_20_code 2 = .ok (.iconst 1, 1) := by decide +kernel
theorem d_Model_run_3 : decode prog_9_method_20_code 3 = .ok (.bipush 16, 2) := by decide +kernel
theorem d_Model_run_5 : decode prog_9_method_20_code 5 = .ok (.invokestatic 92, 3) := by decide +kernel
theorem d_Model_run_8 : decode prog_9_method_20_code 8 = .ok (.ifCond .eq 7, 3) := by decide +kernel
theorem d_Model_run_11 : decode prog_9_method_20_code 11 = .ok (.iconst 0, 1) := by decide +kernel
theorem d_Model_run_12 : decode prog_9_method_20_code 12 = .ok (.goto 4, 3) := by decide +kernel
theorem d_Model_run_15 : decode prog_9_method_20_code 15 = .ok (.iconst 1, 1) := by decide +kernel
theorem d_Model_run_16 : decode prog_9_method_20_code 16 = .ok (.putfield 85, 3) := by decide +kernel
theorem d_Model_run_19 : decode prog_9_method_20_code 19 = .ok (.aload_n 0, 1) := by decide +kernel
theorem d_Model_run_20 : decode prog_9_method_20_code 20 = .ok (.getfield 85, 3) := by decide +kernel
theorem d_Model_run_23 : decode prog_9_method_20_code 23 = .ok (.ifCond .le 5, 3) := by decide +kernel
theorem d_Model_run_26 : decode prog_9_method_20_code 26 = .ok (.iconst 0, 1) := by decide +kernel
theorem d_Model_run_27 : decode prog_9_method_20_code 27 = .ok (.ireturn, 1) := by decide +kernel
theorem d_Model_run_28 : decode prog_9_method_20_code 28 = .ok (.aload_n 0, 1) := by decide +kernel
theorem d_Model_run_29 : decode prog_9_method_20_code 29 = .ok (.iload_n 1, 1) := by decide +kernel
theorem d_Model_run_30 : decode prog_9_method_20_code 30 = .ok (.invokevirtual 157, 3) := by decide +kernel
theorem d_Model_run_33 : decode prog_9_method_20_code 33 = .ok (.lload_n 2, 1) := by decide +kernel
theorem d_Model_run_34 : decode prog_9_method_20_code 34 = .ok (.lstore 4, 2) := by decide +kernel
theorem d_Model_run_36 : decode prog_9_method_20_code 36 = .ok (.aload_n 0, 1) := by decide +kernel
theorem d_Model_run_37 : decode prog_9_method_20_code 37 = .ok (.iload_n 1, 1) := by decide +kernel
theorem d_Model_run_38 : decode prog_9_method_20_code 38 = .ok (.invokevirtual 160, 3) := by decide +kernel
theorem d_Model_run_41 : decode prog_9_method_20_code 41 = .ok (.istore 6, 2) := by decide +kernel
theorem d_Model_run_43 : decode prog_9_method_20_code 43 = .ok (.iload 6, 2) := by decide +kernel
theorem d_Model_run_45 : decode prog_9_method_20_code 45 = .ok (.iconst 2, 1) := by decide +kernel
theorem d_Model_run_46 : decode prog_9_method_20_code 46 = .ok (.if_icmp .ne 103, 3) := by decide +kernel
theorem d_Model_run_49 : decode prog_9_method_20_code 49 = .ok (.lload 4, 2) := by decide +kernel
theorem d_Model_run_51 : decode prog_9_method_20_code 51 = .ok (.ldc2_w 111, 3) := by decide +kernel
theorem d_Model_run_54 : decode prog_9_method_20_code 54 = .ok (.lmul, 1) := by decide +kernel
theorem d_Model_run_55 : decode prog_9_method_20_code 55 = .ok (.ldc2_w 163, 3) := by decide +kernel
theorem d_Model_run_58 : decode prog_9_method_20_code 58 = .ok (.ladd, 1) := by decide +kernel
theorem d_Model_run_59 : decode prog_9_method_20_code 59 = .ok (.lstore 4, 2) := by decide +kernel
theorem d_Model_run_61 : decode prog_9_method_20_code 61 = .ok (.lload 4, 2) := by decide +kernel
theorem d_Model_run_63 : decode prog_9_method_20_code 63 = .ok (.bipush 33, 2) := by decide +kernel
theorem d_Model_run_65 : decode prog_9_method_20_code 65 = .ok (.lushr, 1) := by decide +kernel
theorem d_Model_run_66 : decode prog_9_method_20_code 66 = .ok (.aload_n 0, 1) := by decide +kernel
theorem d_Model_run_67 : decode prog_9_method_20_code 67 = .ok (.getfield 141, 3) := by decide +kernel
theorem d_Model_run_70 : decode prog_9_method_20_code 70 = .ok (.i2l, 1) := by decide +kernel
theorem d_Model_run_71 : decode prog_9_method_20_code 71 = .ok (.lrem, 1) := by decide +kernel
theorem d_Model_run_72 : decode prog_9_method_20_code 72 = .ok (.l2i, 1) := by decide +kernel
theorem d_Model_run_73 : decode prog_9_method_20_code 73 = .ok (.istore 7, 2) := by decide +kernel
theorem d_Model_run_75 : decode prog_9_method_20_code 75 = .ok (.iconst 0, 1) := by decide +kernel
theorem d_Model_run_76 : decode prog_9_method_20_code 76 = .ok (.istore 8, 2) := by decide +kernel
theorem d_Model_run_78 : decode prog_9_method_20_code 78 = .ok (.aload_n 0, 1) := by decide +kernel
theorem d_Model_run_79 : decode prog_9_method_20_code 79 = .ok (.getfield 60, 3) := by decide +kernel
theorem d_Model_run_82 : decode prog_9_method_20_code 82 = .ok (.iload 8, 2) := by decide +kernel
theorem d_Model_run_84 : decode prog_9_method_20_code 84 = .ok (.iaload, 1) := by decide +kernel
theorem d_Model_run_85 : decode prog_9_method_20_code 85 = .ok (.bipush (-2), 2) := by decide +kernel
theorem d_Model_run_87 : decode prog_9_method_20_code 87 = .ok (.if_icmp .eq 8, 3) := by decide +kernel
theorem d_Model_run_90 : decode prog_9_method_20_code 90 = .ok (.iload 7, 2) := by decide +kernel
theorem d_Model_run_92 : decode prog_9_method_20_code 92 = .ok (.ifCond .le 31, 3) := by decide +kernel
theorem d_Model_run_95 : decode prog_9_method_20_code 95 = .ok (.iload 7, 2) := by decide +kernel
theorem d_Model_run_97 : decode prog_9_method_20_code 97 = .ok (.aload_n 0, 1) := by decide +kernel
theorem d_Model_run_98 : decode prog_9_method_20_code 98 = .ok (.getfield 60, 3) := by decide +kernel
theorem d_Model_run_101 : decode prog_9_method_20_code 101 = .ok (.iload 8, 2) := by decide +kernel
theorem d_Model_run_103 : decode prog_9_method_20_code 103 = .ok (.iaload, 1) := by decide +kernel
theorem d_Model_run_104 : decode prog_9_method_20_code 104 = .ok (.bipush (-2), 2) := by decide +kernel
theorem d_Model_run_106 : decode prog_9_method_20_code 106 = .ok (.if_icmp .ne 7, 3) := by decide +kernel
theorem d_Model_run_109 : decode prog_9_method_20_code 109 = .ok (.iconst 0, 1) := by decide +kernel
theorem d_Model_run_110 : decode prog_9_method_20_code 110 = .ok (.goto 4, 3) := by decide +kernel
theorem d_Model_run_113 : decode prog_9_method_20_code 113 = .ok (.iconst 1, 1) := by decide +kernel
theorem d_Model_run_114 : decode prog_9_method_20_code 114 = .ok (.isub, 1) := by decide +kernel
theorem d_Model_run_115 : decode prog_9_method_20_code 115 = .ok (.istore 7, 2) := by decide +kernel
theorem d_Model_run_117 : decode prog_9_method_20_code 117 = .ok (.iinc 8 1, 3) := by decide +kernel
theorem d_Model_run_120 : decode prog_9_method_20_code 120 = .ok (.goto (-42), 3) := by decide +kernel
theorem d_Model_run_123 : decode prog_9_method_20_code 123 = .ok (.aload_n 0, 1) := by decide +kernel
theorem d_Model_run_124 : decode prog_9_method_20_code 124 = .ok (.dup, 1) := by decide +kernel
theorem d_Model_run_125 : decode prog_9_method_20_code 125 = .ok (.getfield 154, 3) := by decide +kernel
theorem d_Model_run_128 : decode prog_9_method_20_code 128 = .ok (.iconst 1, 1) := by decide +kernel
theorem d_Model_run_129 : decode prog_9_method_20_code 129 = .ok (.iadd, 1) := by decide +kernel
theorem d_Model_run_130 : decode prog_9_method_20_code 130 = .ok (.putfield 154, 3) := by decide +kernel
theorem d_Model_run_133 : decode prog_9_method_20_code 133 = .ok (.aload_n 0, 1) := by decide +kernel
theorem d_Model_run_134 : decode prog_9_method_20_code 134 = .ok (.iload 8, 2) := by decide +kernel
theorem d_Model_run_136 : decode prog_9_method_20_code 136 = .ok (.invokevirtual 165, 3) := by decide +kernel
theorem d_Model_run_139 : decode prog_9_method_20_code 139 = .ok (.aload_n 0, 1) := by decide +kernel
theorem d_Model_run_140 : decode prog_9_method_20_code 140 = .ok (.iload_n 1, 1) := by decide +kernel
theorem d_Model_run_141 : decode prog_9_method_20_code 141 = .ok (.invokevirtual 160, 3) := by decide +kernel
theorem d_Model_run_144 : decode prog_9_method_20_code 144 = .ok (.istore 6, 2) := by decide +kernel
theorem d_Model_run_146 : decode prog_9_method_20_code 146 = .ok (.goto (-103), 3) := by decide +kernel
theorem d_Model_run_149 : decode prog_9_method_20_code 149 = .ok (.aload_n 0, 1) := by decide +kernel
theorem d_Model_run_150 : decode prog_9_method_20_code 150 = .ok (.aload_n 0, 1) := by decide +kernel
theorem d_Model_run_151 : decode prog_9_method_20_code 151 = .ok (.getfield 141, 3) := by decide +kernel
theorem d_Model_run_154 : decode prog_9_method_20_code 154 = .ok (.putfield 168, 3) := by decide +kernel
theorem d_Model_run_157 : decode prog_9_method_20_code 157 = .ok (.iconst 0, 1) := by decide +kernel
theorem d_Model_run_158 : decode prog_9_method_20_code 158 = .ok (.istore 7, 2) := by decide +kernel
theorem d_Model_run_160 : decode prog_9_method_20_code 160 = .ok (.iload 7, 2) := by decide +kernel
theorem d_Model_run_162 : decode prog_9_method_20_code 162 = .ok (.aload_n 0, 1) := by decide +kernel
theorem d_Model_run_163 : decode prog_9_method_20_code 163 = .ok (.getfield 75, 3) := by decide +kernel
theorem d_Model_run_166 : decode prog_9_method_20_code 166 = .ok (.if_icmp .ge 52, 3) := by decide +kernel
theorem d_Model_run_169 : decode prog_9_method_20_code 169 = .ok (.iload 6, 2) := by decide +kernel
theorem d_Model_run_171 : decode prog_9_method_20_code 171 = .ok (.ifCond .lt 47, 3) := by decide +kernel
theorem d_Model_run_174 : decode prog_9_method_20_code 174 = .ok (.aload_n 0, 1) := by decide +kernel
theorem d_Model_run_175 : decode prog_9_method_20_code 175 = .ok (.getfield 47, 3) := by decide +kernel
theorem d_Model_run_178 : decode prog_9_method_20_code 178 = .ok (.iload 7, 2) := by decide +kernel
theorem d_Model_run_180 : decode prog_9_method_20_code 180 = .ok (.aload_n 0, 1) := by decide +kernel
theorem d_Model_run_181 : decode prog_9_method_20_code 181 = .ok (.iload 7, 2) := by decide +kernel
theorem d_Model_run_183 : decode prog_9_method_20_code 183 = .ok (.invokevirtual 148, 3) := by decide +kernel
theorem d_Model_run_186 : decode prog_9_method_20_code 186 = .ok (.bastore, 1) := by decide +kernel
theorem d_Model_run_187 : decode prog_9_method_20_code 187 = .ok (.aload_n 0, 1) := by decide +kernel
theorem d_Model_run_188 : decode prog_9_method_20_code 188 = .ok (.getfield 51, 3) := by decide +kernel
theorem d_Model_run_191 : decode prog_9_method_20_code 191 = .ok (.iload 7, 2) := by decide +kernel
theorem d_Model_run_193 : decode prog_9_method_20_code 193 = .ok (.aload_n 0, 1) := by decide +kernel
theorem d_Model_run_194 : decode prog_9_method_20_code 194 = .ok (.getfield 54, 3) := by decide +kernel
theorem d_Model_run_197 : decode prog_9_method_20_code 197 = .ok (.bipush 21, 2) := by decide +kernel
theorem d_Model_run_199 : decode prog_9_method_20_code 199 = .ok (.iload 7, 2) := by decide +kernel
theorem d_Model_run_201 : decode prog_9_method_20_code 201 = .ok (.imul, 1) := by decide +kernel
theorem d_Model_run_202 : decode prog_9_method_20_code 202 = .ok (.aload_n 0, 1) := by decide +kernel
theorem d_Model_run_203 : decode prog_9_method_20_code 203 = .ok (.getfield 7, 3) := by decide +kernel
theorem d_Model_run_206 : decode prog_9_method_20_code 206 = .ok (.iload 7, 2) := by decide +kernel
theorem d_Model_run_208 : decode prog_9_method_20_code 208 = .ok (.iaload, 1) := by decide +kernel
theorem d_Model_run_209 : decode prog_9_method_20_code 209 = .ok (.iadd, 1) := by decide +kernel
theorem d_Model_run_210 : decode prog_9_method_20_code 210 = .ok (.laload, 1) := by decide +kernel
theorem d_Model_run_211 : decode prog_9_method_20_code 211 = .ok (.lastore, 1) := by decide +kernel
theorem d_Model_run_212 : decode prog_9_method_20_code 212 = .ok (.iinc 7 1, 3) := by decide +kernel
theorem d_Model_run_215 : decode prog_9_method_20_code 215 = .ok (.goto (-55), 3) := by decide +kernel
theorem d_Model_run_218 : decode prog_9_method_20_code 218 = .ok (.iload 6, 2) := by decide +kernel
theorem d_Model_run_220 : decode prog_9_method_20_code 220 = .ok (.ireturn, 1) := by decide +kernel
theorem mv_Model_157 : zw_MV R_Model 157 Y_Model_begin R_Model 1 := ⟨Or.inl (zw_in (List.mem_of_getElem? (i := 762) (by decide +kernel)) (by decide +kernel)), (zw_in (List.mem_of_getElem? (i := 764) (by decide +kernel)) (by decide +kernel)), (zw_in (List.mem_of_getElem? (i := 14) (by decide +kernel)) (by decide +kernel)), (zw_in (List.mem_of_getElem? (i := 765) (by decide +kernel)) (by decide +kernel)), (zw_in (List.mem_of_getElem? (i := 33) (by decide +kernel)) (by decide +kernel)), by decide +kernel, by decide +kernel⟩
theorem mv_Model_160 : zw_MV R_Model 160 Y_Model_ending R_Model 1 := ⟨Or.inl (zw_in (List.mem_of_getElem? (i := 766) (by decide +kernel)) (by decide +kernel)), (zw_in (List.mem_of_getElem? (i := 768) (by decide +kernel)) (by decide +kernel)), (zw_in (List.mem_of_getElem? (i := 15) (by decide +kernel)) (by decide +kernel)), (zw_in (List.mem_of_getElem? (i := 769) (by decide +kernel)) (by decide +kernel)), (zw_in (List.mem_of_getElem? (i := 33) (by decide +kernel)) (by decide +kernel)), by decide +kernel, by decide +kernel⟩
theorem mv_Model_165 : zw_MV R_Model 165 Y_Model_tick R_Model 1 := ⟨Or.inl (zw_in (List.mem_of_getElem? (i := 788) (by decide +kernel)) (by decide +kernel)), (zw_in (List.mem_of_getElem? (i := 790) (by decide +kernel)) (by decide +kernel)), (zw_in (List.mem_of_getElem? (i := 20) (by decide +kernel)) (by decide +kernel)), (zw_in (List.mem_of_getElem? (i := 791) (by decide +kernel)) (by decide +kernel)), (zw_in (List.mem_of_getElem? (i := 33) (by decide +kernel)) (by decide +kernel)), by decide +kernel, by decide +kernel⟩
set_option maxHeartbeats 4000000 in
set_option maxRecDepth 100000 in
theorem c_Model_run {l : Launch} {D : va_G} {cA : Nat → ClassId} {ad : Nat → Nat} {sh : zw_Sh} (hm : ∀ (k : Nat) (q : zw_Sp), shM k = some q → sh k = some q) (z : Nat) (mi : zw_I) (ml : zw_L) (wk : Int32) (x : Int64) {n : Nat} (hn : n ≤ 16) (en : mi 32 1 = nI n) (w8 : Nat) (hw8 : w8 ≤ 8) (ew8 : mi 32 15 = nI w8) (w : Nat) (hin1 : ¬ p_within wk 1 16 = 0 → w ≤ 16 ∧ wk = nI w) (G : zw_I → Prop) (hG : zq_K n w G) (hG0 : ¬ p_within wk 1 16 = 0 → G (q_begin wk (zw_up mi 32 0 0) ml).1 ∧ (q_begin wk (zw_up mi 32 0 0) ml).1 32 30 = 0) :
    zc_M l D cA Y_Model_run 3 0 0 ad sh sh z [.ref (ad 32), .int wk, .long x] mi ml (some (.int ((q_run wk x mi ml).1))) ((q_run wk x mi ml).2.1) ((q_run wk x mi ml).2.2) z := by
  refine zc_enter (own := R_Model) (by decide) rfl (Nat.le_of_ble_eq_true rfl) ?_
  intro p e s m below meth c X hr hlocks hnm hB ls hl
  have X : zw_C D cA R_Model prog_9_method_20_code 9 p m c s := X
  have hr : meth.sig.returnType = (some FieldType.int) := hr
  have hx := X.1
  have hb := X.2.1
  have hl : lv_has ls 9 [(0, .ref (ad 32)), (1, .int wk), (2, .long x)] := hl
  have vals : ∀ (f i : Nat) (e0 : Int32) (mi : zw_I) (ml : zw_L) (H : Heap) (locs : List Loc) (ls : Array Slot), i + f = 17 → i ≤ n → mi 32 1 = nI n → (∀ k : Nat, k < n → vp_in (mi 33 k) 21) → zw_B D cA ad sh (zw_A ad sh z) s.heap mi ml z H locs → lv_has ls 9 [(7, .int (nI i)), (6, .int e0), (0, .ref (ad 32))] →
      zc_W l D cA ad sh sh z [.ref (ad 32), .int wk, .long x] 3 0 0 (some (.int e0)) ((q_vals e0 f (nI i) mi ml).1) ((q_vals e0 f (nI i) mi ml).2) z p e s m below meth c H locs 0 0 (F0 m 160 ls []) := by
    intro f
    induction f with
    | zero =>
      intro i e0 mi ml H locs ls hi h2 en hst hB hl
      omega
    | succ f ih =>
      intro i e0 mi ml H locs ls hi h2 en hst hB hl
      rw [q_vals]
      refine lv_iload hx hb d_Model_run_160 (lv_at hl 0 rfl) ?_
      refine lv_aload_n hx hb d_Model_run_162 rfl (lv_at hl 2 rfl) ?_
      refine zw_getI X hB fl_Model_75 32 (hm 32 _ rfl) rfl d_Model_run_163 ?_
      refine lv_icmp_ge (tgt := 218) hx hb d_Model_run_166 (by decide) (fun c_166 => ?_) (fun c_166 => ?_)
      · rw [if_pos c_166]
        refine lv_iload hx hb d_Model_run_218 (lv_at hl 1 rfl) ?_
        exact zc_iret X hr hlocks hB (by rfl) (by rfl) (by rfl) d_Model_run_220
      · rw [if_neg c_166]
        have hlt : i < n := zn_lt (by omega) (by rw [← en]; exact c_166)
        have hin : vp_in (nI i) 16 := vp_in_nI (by omega) (by decide)
        have hst := hst
        refine lv_iload hx hb d_Model_run_169 (lv_at hl 1 rfl) ?_
        refine lv_if_lt (tgt := 218) hx hb d_Model_run_171 (by decide) (fun c_171 => ?_) (fun c_171 => ?_)
        · rw [if_pos c_171]
          refine lv_iload hx hb d_Model_run_218 (lv_at hl 1 rfl) ?_
          exact zc_iret X hr hlocks hB (by rfl) (by rfl) (by rfl) d_Model_run_220
        · rw [if_neg c_171]
          refine lv_aload_n hx hb d_Model_run_174 rfl (lv_at hl 2 rfl) ?_
          refine zw_getR X hB fl_Model_47 32 (hm 32 _ rfl) rfl d_Model_run_175 ?_
          refine lv_iload hx hb d_Model_run_178 (lv_at hl 0 rfl) ?_
          refine lv_aload_n hx hb d_Model_run_180 rfl (lv_at hl 2 rfl) ?_
          refine lv_iload hx hb d_Model_run_181 (lv_at hl 0 rfl) ?_
          refine zw_callVr X hB mv_Model_148 32 (hm 32 _ rfl) rfl (c_Model_isFinished hm z mi ml (nI i) hin) rfl hl.1 ⟨Nat.le_of_ble_eq_true rfl, Nat.le_of_ble_eq_true rfl⟩ rfl (Nat.le_of_ble_eq_true rfl) ⟨Nat.le_of_ble_eq_true rfl, Nat.le_of_ble_eq_true rfl⟩ d_Model_run_183 (fun H locs hB => ?_)
          refine zw_zast X hB 45 (hm 45 _ rfl) (nz_of q_isFin_01) hin d_Model_run_186 (fun H locs hB => ?_)
          refine lv_aload_n hx hb d_Model_run_187 rfl (lv_at hl 2 rfl) ?_
          refine zw_getR X hB fl_Model_51 32 (hm 32 _ rfl) rfl d_Model_run_188 ?_
          refine lv_iload hx hb d_Model_run_191 (lv_at hl 0 rfl) ?_
          refine lv_aload_n hx hb d_Model_run_193 rfl (lv_at hl 2 rfl) ?_
          refine zw_getR X hB fl_Model_54 32 (hm 32 _ rfl) rfl d_Model_run_194 ?_
          refine lv_bipush (v := 21) hx hb d_Model_run_197 (by decide) ?_
          refine lv_iload hx hb d_Model_run_199 (lv_at hl 0 rfl) ?_
          refine lv_imul hx hb d_Model_run_201 ?_
          refine lv_aload_n hx hb d_Model_run_202 rfl (lv_at hl 2 rfl) ?_
          refine zw_getR X hB fl_Model_7 32 (hm 32 _ rfl) rfl d_Model_run_203 ?_
          refine lv_iload hx hb d_Model_run_206 (lv_at hl 0 rfl) ?_
          refine zw_iald X hB 33 (hm 33 _ rfl) hin d_Model_run_208 ?_
          refine lv_iadd hx hb d_Model_run_209 ?_
          refine zw_lald X hB 47 (hm 47 _ rfl) (zm_21 hin (by rw [zw_up_ne1 _ _ _ (by decide)]; exact hst _ (by rw [nI_clamp (by omega)]; exact hlt))) d_Model_run_210 ?_
          refine zw_last X hB 46 (hm 46 _ rfl) hin d_Model_run_211 (fun H locs hB => ?_)
          refine lv_iinc (v := nI (i + 1)) (lv' := [(7, .int (nI (i + 1))), (6, .int e0), (0, .ref (ad 32))]) hx hb d_Model_run_212 hl (k := 0) rfl (nI_1 i) (by decide) rfl (fun ls hl => ?_)
          refine lv_goto (tgt := 160) hx hb d_Model_run_215 (by decide) ?_
          rw [nI_1 i]
          exact ih (i + 1) _ _ _ H locs ls (by omega) (by omega) (by rw [zw_up_ne1 _ _ _ (by decide)]; exact en) (fun k hk => by rw [zw_up_ne1 _ _ _ (by decide)]; exact hst k hk) hB (lv_sub hl [0, 1, 2] rfl)
  have main : ∀ (f i : Nat) (y : Int64) (e0 : Int32) (mi : zw_I) (ml : zw_L) (H : Heap) (locs : List Loc) (ls : Array Slot), i + f = 20001 → i ≤ 20000 → mi 32 30 = nI i → G mi → e0 = q_end mi wk → w ≤ 16 → wk = nI w → zw_B D cA ad sh (zw_A ad sh z) s.heap mi ml z H locs → lv_has ls 9 [(6, .int e0), (4, .long y), (0, .ref (ad 32)), (1, .int wk)] →
      zc_W l D cA ad sh sh z [.ref (ad 32), .int wk, .long x] 3 0 0 (some (.int (q_runZ (q_loop wk f y e0 mi ml)).1)) ((q_runZ (q_loop wk f y e0 mi ml)).2.1) ((q_runZ (q_loop wk f y e0 mi ml)).2.2) z p e s m below meth c H locs 0 0 (F0 m 43 ls []) := by
    intro f
    induction f with
    | zero =>
      intro i y e0 mi ml H locs ls hi h2 et hg he hw ew hB hl
      omega
    | succ f ih =>
      intro i y e0 mi ml H locs ls hi h2 et hg he hw ew hB hl
      rw [q_loop]
      refine lv_iload hx hb d_Model_run_43 (lv_at hl 0 rfl) ?_
      refine lv_iconst (v := 2) hx hb d_Model_run_45 (by decide) ?_
      refine lv_icmp_ne (tgt := 149) hx hb d_Model_run_46 (by decide) (fun c_46 => ?_) (fun c_46 => ?_)
      · rw [if_neg c_46]
        unfold q_runZ
        dsimp only
        refine lv_aload_n hx hb d_Model_run_149 rfl (lv_at hl 2 rfl) ?_
        refine lv_aload_n hx hb d_Model_run_150 rfl (lv_at hl 2 rfl) ?_
        refine zw_getI X hB fl_Model_141 32 (hm 32 _ rfl) rfl d_Model_run_151 ?_
        refine zw_putI X hB fp_Model_168 (fun h => by cases h) 32 (hm 32 _ rfl) rfl d_Model_run_154 (fun H locs hB => ?_)
        have hB : zw_B D cA ad sh (zw_A ad sh z) s.heap (q_live mi) ml z H locs := hB
        refine lv_iconst (v := 0) hx hb d_Model_run_157 (by decide) ?_
        refine lv_istore (lv' := [(7, .int 0), (6, .int e0), (4, .long y), (0, .ref (ad 32)), (1, .int wk)]) hx hb d_Model_run_158 hl (by decide) rfl (fun ls hl => ?_)
        have hgi := hG.1 mi hg
        exact vals 17 0 _ _ _ _ _ ls rfl (by omega) (by rw [q_live, zw_up_ne2 _ _ _ (by decide)]; exact hgi.2.1) (fun k hk => by rw [q_live, zw_up_ne1 _ _ _ (by decide)]; exact hgi.2.2 k hk) hB (lv_sub hl [0, 1, 3] rfl)
      · rw [if_pos c_46]
        have he2 : q_end mi (nI w) = 2 := by rw [← ew, ← he]; exact c_46
        have htk := q_end_ticks he2
        have hlt : i < 20000 := by
          rcases Nat.lt_or_ge i 20000 with q | q
          · exact q
          · exact absurd (by rw [et, show i = 20000 by omega]; rfl) htk
        obtain ⟨k1, k2, k3, k4, k5⟩ := hG.2 mi ml (p_x y) hg he2
        refine lv_lload hx hb d_Model_run_49 (lv_at hl 1 rfl) ?_
        refine lv_ldc2 (v := 6364136223846793005) hx hb X.2.2.2.1 (X.2.2.2.2.ts _ kc_Model_111) d_Model_run_51 ?_
        refine lv_lmul hx hb d_Model_run_54 ?_
        refine lv_ldc2 (v := 1442695040888963407) hx hb X.2.2.2.1 (X.2.2.2.2.ts _ kc_Model_163) d_Model_run_55 ?_
        refine lv_ladd hx hb d_Model_run_58 ?_
        refine lv_lstore (lv' := [(4, .long (p_x y)), (6, .int e0), (0, .ref (ad 32)), (1, .int wk)]) hx hb d_Model_run_59 hl (by decide) rfl (fun ls hl => ?_)
        refine lv_lload hx hb d_Model_run_61 (lv_at hl 0 rfl) ?_
        refine lv_bipush (v := 33) hx hb d_Model_run_63 (by decide) ?_
        refine lv_lushr (v := ((p_x y).toUInt64 >>> ((33 : Int32).toInt64.toUInt64 &&& Int64.toUInt64 63)).toInt64) hx hb d_Model_run_65 rfl ?_
        refine lv_aload_n hx hb d_Model_run_66 rfl (lv_at hl 2 rfl) ?_
        refine zw_getI X hB fl_Model_141 32 (hm 32 _ rfl) rfl d_Model_run_67 ?_
        refine lv_i2l (v := (mi 32 25).toInt64) hx hb d_Model_run_70 rfl ?_
        refine lv_lrem hx hb d_Model_run_71 k1 ?_
        refine lv_l2i (v := ((((p_x y).toUInt64 >>> ((33 : Int32).toInt64.toUInt64 &&& Int64.toUInt64 63)).toInt64) - (((p_x y).toUInt64 >>> ((33 : Int32).toInt64.toUInt64 &&& Int64.toUInt64 63)).toInt64) / ((mi 32 25).toInt64) * ((mi 32 25).toInt64)).toInt32) hx hb d_Model_run_72 rfl ?_
        refine lv_istore (lv' := [(7, .int (q_place mi (p_x y))), (4, .long (p_x y)), (6, .int e0), (0, .ref (ad 32)), (1, .int wk)]) hx hb d_Model_run_73 hl (by decide) rfl (fun ls hl => ?_)
        refine lv_iconst (v := 0) hx hb d_Model_run_75 (by decide) ?_
        refine lv_istore (lv' := [(8, .int 0), (7, .int (q_place mi (p_x y))), (4, .long (p_x y)), (6, .int e0), (0, .ref (ad 32)), (1, .int wk)]) hx hb d_Model_run_76 hl (by decide) rfl (fun ls hl => ?_)
        have find : ∀ (g j : Nat) (pl : Int32) (H : Heap) (locs : List Loc) (ls : Array Slot), zq_F mi g pl j → q_find mi g pl (nI j) = q_who mi (p_x y) → zw_B D cA ad sh (zw_A ad sh z) s.heap mi ml z H locs → lv_has ls 9 [(8, .int (nI j)), (7, .int pl), (6, .int e0), (4, .long (p_x y)), (0, .ref (ad 32)), (1, .int wk)] →
            zc_W l D cA ad sh sh z [.ref (ad 32), .int wk, .long x] 3 0 0 (some (.int (q_runZ (q_loop wk f (p_x y) (q_end (q_tick (q_find mi g pl (nI j)) (q_t1 mi) ml).1 wk) (q_tick (q_find mi g pl (nI j)) (q_t1 mi) ml).1 (q_tick (q_find mi g pl (nI j)) (q_t1 mi) ml).2)).1)) ((q_runZ (q_loop wk f (p_x y) (q_end (q_tick (q_find mi g pl (nI j)) (q_t1 mi) ml).1 wk) (q_tick (q_find mi g pl (nI j)) (q_t1 mi) ml).1 (q_tick (q_find mi g pl (nI j)) (q_t1 mi) ml).2)).2.1) ((q_runZ (q_loop wk f (p_x y) (q_end (q_tick (q_find mi g pl (nI j)) (q_t1 mi) ml).1 wk) (q_tick (q_find mi g pl (nI j)) (q_t1 mi) ml).1 (q_tick (q_find mi g pl (nI j)) (q_t1 mi) ml).2)).2.2) z p e s m below meth c H locs 0 0 (F0 m 78 ls []) := by
          intro g
          induction g with
          | zero =>
            intro j pl H locs ls hF hq hB hl
            exact hF.elim
          | succ g ihg =>
            intro j pl H locs ls hF hq hB hl
            have hj : j < 16 := hF.1
            have ej : (nI j).toNatClampNeg = j := nI_clamp (by omega)
            rw [q_find] at hq ⊢
            refine lv_aload_n hx hb d_Model_run_78 rfl (lv_at hl 4 rfl) ?_
            refine zw_getR X hB fl_Model_60 32 (hm 32 _ rfl) rfl d_Model_run_79 ?_
            refine lv_iload hx hb d_Model_run_82 (lv_at hl 0 rfl) ?_
            refine zw_iald X hB 49 (hm 49 _ rfl) (vp_in_nI hj (by decide)) d_Model_run_84 ?_
            refine lv_bipush (v := (-2)) hx hb d_Model_run_85 (by decide) ?_
            refine lv_icmp_eq (tgt := 95) hx hb d_Model_run_87 (by decide) (fun c_87 => ?_) (fun c_87 => ?_)
            · rw [if_pos c_87]
              rw [if_pos c_87] at hq
              refine lv_iload hx hb d_Model_run_95 (lv_at hl 1 rfl) ?_
              refine lv_aload_n hx hb d_Model_run_97 rfl (lv_at hl 4 rfl) ?_
              refine zw_getR X hB fl_Model_60 32 (hm 32 _ rfl) rfl d_Model_run_98 ?_
              refine lv_iload hx hb d_Model_run_101 (lv_at hl 0 rfl) ?_
              refine zw_iald X hB 49 (hm 49 _ rfl) (vp_in_nI hj (by decide)) d_Model_run_103 ?_
              refine lv_bipush (v := (-2)) hx hb d_Model_run_104 (by decide) ?_
              refine lv_icmp_ne (tgt := 113) hx hb d_Model_run_106 (by decide) (fun c_106 => ?_) (fun c_106 => ?_)
              · exact absurd c_87 c_106
              · refine lv_iconst (v := 0) hx hb d_Model_run_109 (by decide) ?_
                refine lv_goto (tgt := 114) hx hb d_Model_run_110 (by decide) ?_
                refine lv_isub hx hb d_Model_run_114 ?_
                refine lv_istore (lv' := [(7, .int (pl - 0)), (8, .int (nI j)), (6, .int e0), (4, .long (p_x y)), (0, .ref (ad 32)), (1, .int wk)]) hx hb d_Model_run_115 hl (by decide) rfl (fun ls hl => ?_)
                refine lv_iinc (v := nI (j + 1)) (lv' := [(8, .int (nI (j + 1))), (7, .int (pl - 0)), (6, .int e0), (4, .long (p_x y)), (0, .ref (ad 32)), (1, .int wk)]) hx hb d_Model_run_117 hl (k := 1) rfl (nI_1 j) (by decide) rfl (fun ls hl => ?_)
                refine lv_goto (tgt := 78) hx hb d_Model_run_120 (by decide) ?_
                rw [nI_1 j] at hq ⊢
                exact ihg (j + 1) _ H locs ls (hF.2.1 (by rw [← ej]; exact c_87)) hq hB (lv_sub hl [0, 1, 2, 3, 4, 5] rfl)
            · rw [if_neg c_87]
              rw [if_neg c_87] at hq
              refine lv_iload hx hb d_Model_run_90 (lv_at hl 1 rfl) ?_
              refine lv_if_le (tgt := 123) hx hb d_Model_run_92 (by decide) (fun c_92 => ?_) (fun c_92 => ?_)
              · rw [if_pos c_92]
                rw [if_pos c_92] at hq
                rw [← hq] at k3 k4 k5
                refine lv_aload_n hx hb d_Model_run_123 rfl (lv_at hl 4 rfl) ?_
                refine lv_dup hx hb d_Model_run_124 rfl ?_
                refine zw_getI X hB fl_Model_154 32 (hm 32 _ rfl) rfl d_Model_run_125 ?_
                refine lv_iconst (v := 1) hx hb d_Model_run_128 (by decide) ?_
                refine lv_iadd hx hb d_Model_run_129 ?_
                refine zw_putI X hB fp_Model_154 (fun h => by cases h) 32 (hm 32 _ rfl) rfl d_Model_run_130 (fun H locs hB => ?_)
                have hB : zw_B D cA ad sh (zw_A ad sh z) s.heap (q_t1 mi) ml z H locs := hB
                refine lv_aload_n hx hb d_Model_run_133 rfl (lv_at hl 4 rfl) ?_
                refine lv_iload hx hb d_Model_run_134 (lv_at hl 0 rfl) ?_
                refine zw_callVv X hB mv_Model_165 32 (hm 32 _ rfl) rfl (c_Model_tick hm z (q_t1 mi) ml (nI j) (k3 : zq_T (q_t1 mi) _).1 k3.2.1 k3.2.2.1 k3.2.2.2.1 k3.2.2.2.2) rfl hl.1 ⟨Nat.le_of_ble_eq_true rfl, Nat.le_of_ble_eq_true rfl⟩ rfl (Nat.le_of_ble_eq_true rfl) ⟨Nat.le_of_ble_eq_true rfl, Nat.le_of_ble_eq_true rfl⟩ d_Model_run_136 (fun H locs hB => ?_)
                refine lv_aload_n hx hb d_Model_run_139 rfl (lv_at hl 4 rfl) ?_
                refine lv_iload_n hx hb d_Model_run_140 rfl (lv_at hl 5 rfl) ?_
                refine zw_callVr X hB mv_Model_160 32 (hm 32 _ rfl) rfl (c_Model_ending hm z ((q_tick (nI j) (q_t1 mi) ml).1) ((q_tick (nI j) (q_t1 mi) ml).2) wk w hw ew (hG.1 _ k4).1) rfl hl.1 ⟨Nat.le_of_ble_eq_true rfl, Nat.le_of_ble_eq_true rfl⟩ rfl (Nat.le_of_ble_eq_true rfl) ⟨Nat.le_of_ble_eq_true rfl, Nat.le_of_ble_eq_true rfl⟩ d_Model_run_141 (fun H locs hB => ?_)
                refine lv_istore (lv' := [(6, .int (q_end ((q_tick (nI j) (q_t1 mi) ml).1) wk)), (8, .int (nI j)), (7, .int pl), (4, .long (p_x y)), (0, .ref (ad 32)), (1, .int wk)]) hx hb d_Model_run_144 hl (by decide) rfl (fun ls hl => ?_)
                refine lv_goto (tgt := 43) hx hb d_Model_run_146 (by decide) ?_
                exact ih (i + 1) _ _ _ _ H locs ls (by omega) (by omega) (by rw [k5, et, nI_1]) k4 rfl hw ew hB (lv_sub hl [0, 3, 4, 5] rfl)
              · rw [if_neg c_92]
                rw [if_neg c_92] at hq
                refine lv_iload hx hb d_Model_run_95 (lv_at hl 1 rfl) ?_
                refine lv_aload_n hx hb d_Model_run_97 rfl (lv_at hl 4 rfl) ?_
                refine zw_getR X hB fl_Model_60 32 (hm 32 _ rfl) rfl d_Model_run_98 ?_
                refine lv_iload hx hb d_Model_run_101 (lv_at hl 0 rfl) ?_
                refine zw_iald X hB 49 (hm 49 _ rfl) (vp_in_nI hj (by decide)) d_Model_run_103 ?_
                refine lv_bipush (v := (-2)) hx hb d_Model_run_104 (by decide) ?_
                refine lv_icmp_ne (tgt := 113) hx hb d_Model_run_106 (by decide) (fun c_106 => ?_) (fun c_106 => ?_)
                · refine lv_iconst (v := 1) hx hb d_Model_run_113 (by decide) ?_
                  refine lv_isub hx hb d_Model_run_114 ?_
                  refine lv_istore (lv' := [(7, .int (pl - 1)), (8, .int (nI j)), (6, .int e0), (4, .long (p_x y)), (0, .ref (ad 32)), (1, .int wk)]) hx hb d_Model_run_115 hl (by decide) rfl (fun ls hl => ?_)
                  refine lv_iinc (v := nI (j + 1)) (lv' := [(8, .int (nI (j + 1))), (7, .int (pl - 1)), (6, .int e0), (4, .long (p_x y)), (0, .ref (ad 32)), (1, .int wk)]) hx hb d_Model_run_117 hl (k := 1) rfl (nI_1 j) (by decide) rfl (fun ls hl => ?_)
                  refine lv_goto (tgt := 78) hx hb d_Model_run_120 (by decide) ?_
                  rw [nI_1 j] at hq ⊢
                  exact ihg (j + 1) _ H locs ls (hF.2.2 (by rw [← ej]; exact c_87) c_92) hq hB (lv_sub hl [0, 1, 2, 3, 4, 5] rfl)
                · exact absurd c_106 c_87
        exact find 17 0 _ _ _ ls k2 rfl hB (lv_sub hl [0, 1, 3, 2, 4, 5] rfl)
  unfold q_run
  refine lv_aload_n hx hb d_Model_run_0 rfl (lv_at hl 0 rfl) ?_
  refine lv_iload_n hx hb d_Model_run_1 rfl (lv_at hl 1 rfl) ?_
  refine lv_iconst (v := 1) hx hb d_Model_run_2 (by decide) ?_
  refine lv_bipush (v := 16) hx hb d_Model_run_3 (by decide) ?_
  refine zw_callSr X hB mv_Model_92 (c_Model_isIn hm z mi ml wk 1 16) rfl hl.1 ⟨Nat.le_of_ble_eq_true rfl, Nat.le_of_ble_eq_true rfl⟩ rfl (Nat.le_of_ble_eq_true rfl) ⟨Nat.le_of_ble_eq_true rfl, Nat.le_of_ble_eq_true rfl⟩ d_Model_run_5 (fun H locs hB => ?_)
  refine lv_if_eq (tgt := 15) hx hb d_Model_run_8 (by decide) (fun c_8 => ?_) (fun c_8 => ?_)
  · rw [if_pos c_8]
    refine lv_iconst (v := 1) hx hb d_Model_run_15 (by decide) ?_
    refine zw_putI X hB fp_Model_85 (fun h => by cases h) 32 (hm 32 _ rfl) rfl d_Model_run_16 (fun H locs hB => ?_)
    refine lv_aload_n hx hb d_Model_run_19 rfl (lv_at hl 0 rfl) ?_
    refine zw_getI X hB fl_Model_85 32 (hm 32 _ rfl) rfl d_Model_run_20 ?_
    refine lv_if_le (tgt := 28) hx hb d_Model_run_23 (by decide) (fun c_23 => ?_) (fun c_23 => ?_)
    · exact absurd c_23 (by rw [zw_up_self]; decide)
    · refine lv_iconst (v := 0) hx hb d_Model_run_26 (by decide) ?_
      exact zc_iret X hr hlocks hB (by rfl) (by rfl) (by rfl) d_Model_run_27
  · rw [if_neg c_8]
    obtain ⟨hw, ew⟩ := hin1 c_8
    have hG0 := hG0 c_8
    refine lv_iconst (v := 0) hx hb d_Model_run_11 (by decide) ?_
    refine lv_goto (tgt := 16) hx hb d_Model_run_12 (by decide) ?_
    refine zw_putI X hB fp_Model_85 (fun h => by cases h) 32 (hm 32 _ rfl) rfl d_Model_run_16 (fun H locs hB => ?_)
    refine lv_aload_n hx hb d_Model_run_19 rfl (lv_at hl 0 rfl) ?_
    refine zw_getI X hB fl_Model_85 32 (hm 32 _ rfl) rfl d_Model_run_20 ?_
    refine lv_if_le (tgt := 28) hx hb d_Model_run_23 (by decide) (fun c_23 => ?_) (fun c_23 => ?_)
    · refine lv_aload_n hx hb d_Model_run_28 rfl (lv_at hl 0 rfl) ?_
      refine lv_iload_n hx hb d_Model_run_29 rfl (lv_at hl 1 rfl) ?_
      refine zw_callVv X hB mv_Model_157 32 (hm 32 _ rfl) rfl (c_Model_begin hm z (zw_up mi 32 0 0) ml wk hn (by subst_vars; simpa [zw_up] using en) w hw ew w8 hw8 (by subst_vars; simpa [zw_up] using ew8)) rfl hl.1 ⟨Nat.le_of_ble_eq_true rfl, Nat.le_of_ble_eq_true rfl⟩ rfl (Nat.le_of_ble_eq_true rfl) ⟨Nat.le_of_ble_eq_true rfl, Nat.le_of_ble_eq_true rfl⟩ d_Model_run_30 (fun H locs hB => ?_)
      refine lv_lload_n hx hb d_Model_run_33 rfl (lv_at hl 2 rfl) ?_
      refine lv_lstore (lv' := [(4, .long x), (0, .ref (ad 32)), (1, .int wk), (2, .long x)]) hx hb d_Model_run_34 hl (by decide) rfl (fun ls hl => ?_)
      refine lv_aload_n hx hb d_Model_run_36 rfl (lv_at hl 1 rfl) ?_
      refine lv_iload_n hx hb d_Model_run_37 rfl (lv_at hl 2 rfl) ?_
      refine zw_callVr X hB mv_Model_160 32 (hm 32 _ rfl) rfl (c_Model_ending hm z ((q_begin wk (zw_up mi 32 0 0) ml).1) ((q_begin wk (zw_up mi 32 0 0) ml).2) wk w hw ew (hG.1 _ hG0.1).1) rfl hl.1 ⟨Nat.le_of_ble_eq_true rfl, Nat.le_of_ble_eq_true rfl⟩ rfl (Nat.le_of_ble_eq_true rfl) ⟨Nat.le_of_ble_eq_true rfl, Nat.le_of_ble_eq_true rfl⟩ d_Model_run_38 (fun H locs hB => ?_)
      refine lv_istore (lv' := [(6, .int (q_end ((q_begin wk (zw_up mi 32 0 0) ml).1) wk)), (4, .long x), (0, .ref (ad 32)), (1, .int wk), (2, .long x)]) hx hb d_Model_run_41 hl (by decide) rfl (fun ls hl => ?_)
      exact main 20001 0 _ _ _ _ _ _ ls rfl (by omega) hG0.2 hG0.1 rfl hw ew hB (lv_sub hl [0, 1, 2, 3] rfl)
    · exact absurd (by rw [zw_up_self]; decide) c_23
end
section
/-! THROWS: a method returns, or throws a new object of a class; what its caller does then. The machine is started without stack traces. Throws come before any write, so the world is as it was, with one cell more. -/
def zt_L (n d : String) (b : Nat) (U : State) (H : Heap) : Prop := ∃ (c : ClassId) (k : Class) (i : Nat) (f : Field) (a : Nat) (cell : Cell), U.vm.findClass Bundle.tN = some c ∧ U.fieldFound? Bundle.tN n d = some (c, k, i, f) ∧ f.isStatic = true ∧ k.statics = some a ∧ H[a]? = some cell ∧ cell.vm.isStatics = true ∧ cell.cls = c ∧ f.slot < cell.slots.size ∧ k.staticTypes[f.slot]? = some f.type ∧ a < b
theorem zt_L.go {n d : String} {b : Nat} {u U : State} {H H1 : Heap} (h : zt_L n d b u H) (hvm : u.vm.Alike U.vm) (hq : ∀ a : Nat, a < b → H1[a]? = H[a]?) : zt_L n d b U H1 := by
  obtain ⟨c, k, i, f, a, cell, h1, h2, h3, h4, h5, h6, h7, h8, h9, h10⟩ := h
  obtain ⟨k', hi', he⟩ := State.fieldFound?_setVm hvm h2
  exact ⟨c, k', i, f, a, cell, by rw [hvm.findClass]; exact h1, hi', h3, by rw [he]; exact h4, by rw [hq a h10]; exact h5, h6, h7, h8, by rw [he]; exact h9, h10⟩
theorem zt_L.word {n d : String} {b : Nat} {U : State} {args : Array Value} (h : zt_L n d b U U.heap) : (Cond.laysStatic Bundle.tN n d).before args U = true := by
  obtain ⟨c, k, i, f, a, cell, h1, h2, h3, h4, h5, h6, h7, h8, h9, -⟩ := h
  exact Cond.laysStatic_of h1 h2 h3 h4 h5 h6 h7 h8 h9
theorem zt_L.of {n d : String} {U : State} {args : Array Value} (h : (Cond.laysStatic Bundle.tN n d).before args U = true) : zt_L n d U.heap.size U U.heap := by
  obtain ⟨c, k, i, f, a, cell, h1, h2, h3, h4, h5, h6, h7, h8, h9⟩ := Cond.laysStatic_spec h
  exact ⟨c, k, i, f, a, cell, h1, h2, h3, h4, h5, h6, h7, h8, h9, (Array.getElem?_eq_some_iff.mp h5).1⟩
/-- Throwable's statics lie below b, and hold references -/
def zt_Z (b : Nat) (U : State) (H : Heap) : Prop := va_Zq Bundle.tN "UNASSIGNED_STACK" Bundle.steD (fun q => b ≤ q) U H ∧ va_Zq Bundle.tN "SUPPRESSED_SENTINEL" Bundle.listD (fun q => b ≤ q) U H ∧ zt_L "UNASSIGNED_STACK" Bundle.steD b U H ∧ zt_L "SUPPRESSED_SENTINEL" Bundle.listD b U H
theorem zt_Z.go {b : Nat} {u U : State} {H H1 : Heap} (h : zt_Z b u H) (hvm : u.vm.Alike U.vm) (hq : ∀ a : Nat, a < b → H1[a]? = H[a]?) : zt_Z b U H1 :=
  ⟨va_Zq.moved hvm (h.1.kept fun a _ h9 => hq a (Nat.not_le.mp h9)), va_Zq.moved hvm (h.2.1.kept fun a _ h9 => hq a (Nat.not_le.mp h9)), h.2.2.1.go hvm hq, h.2.2.2.go hvm hq⟩
theorem zt_ref {n d : String} {A : Nat → Prop} {s : State} {args : Array Value} (h : va_Zq Bundle.tN n d A s s.heap) : (Cond.isRef (.static Bundle.tN n d)).before args s = true := by
  have one : ∀ v : Value, v.isRef = true → va_Z Bundle.tN n d v A s s.heap → (Cond.isRef (.static Bundle.tN n d)).before args s = true := fun v hv h => by
    obtain ⟨cf, kf, fi, f, a, cell, h1, h2, h3, h4, h5, h6, h7, -⟩ := h
    have he : (Term.static Bundle.tN n d).eval args s none [] s = some v := by
      simp [Term.eval, State.fieldNamed?, h1, h2, h4, h5, h6, h7]
    simp only [Cond.before, Cond.holds, Cond.value, he]
    cases v <;> simp_all [Value.isRef]
  rcases h with h | ⟨t, h⟩
  · exact one _ rfl h
  · exact one _ rfl h
def zt_strs : List (Nat × String) := [(45, "there is no such share"), (60, "steps or cells"), (85, "s, m, or the share itself"), (89, "the share has all its needs"), (96, "worker, s or times"), (106, "there are all failings"), (112, "workers"), (123, "the share has no value"), (129, "there is no such place")]
abbrev zt_I : String := "java/lang/IndexOutOfBoundsException"
abbrev zt_A : String := "java/lang/IllegalArgumentException"
abbrev zt_U : String := "java/lang/UnsupportedOperationException"
abbrev zt_S : String := "java/lang/IllegalStateException"
def zt_nos : List (String × String) := [(zt_A, zt_I), (zt_U, zt_I), (zt_U, zt_A), (zt_S, zt_I)]
def zt_names : List String := ["java/lang/RuntimeException", "java/lang/Exception"]
def zt_decl : List MethodName := [Bundle.initS "java/lang/RuntimeException", Bundle.initS "java/lang/Exception", Bundle.initS Bundle.tN]
def zt_seven : List Cond := [.isRef (.static Bundle.tN "UNASSIGNED_STACK" Bundle.steD), .isRef (.static Bundle.tN "SUPPRESSED_SENTINEL" Bundle.listD), .laysStatic Bundle.tN "UNASSIGNED_STACK" Bundle.steD, .laysStatic Bundle.tN "SUPPRESSED_SENTINEL" Bundle.listD] ++ zt_decl.map .declares
/-- what the tables say besides: the texts, which class is no other's, what is declared -/
def zt_X (U : State) : Prop := (∀ q ∈ zt_strs, ∃ a : Nat, vk_R R_TS q.1 q.2 a U) ∧ (∀ q ∈ zt_nos, va_Nc q.1 q.2 U) ∧ ∀ x ∈ zt_decl, (Cond.declares x).before #[] U = true
theorem zt_X.warm {s U : State} (h : zt_X s) (hW : s.WarmedH U.vm) : zt_X U := by
  refine ⟨fun q hq => ?_, fun q hq => va_Nc.moved hW.alike (h.2.1 q hq), fun x hx => va_tabs rfl (rfl : (s.setVm U.vm).vm = U.vm) (by rw [Cond.declares_setVm hW.alike]; exact h.2.2 x hx)⟩
  obtain ⟨a, ha⟩ := h.1 q hq
  exact ⟨a, vk_R.warm hW ha⟩
def zx_P (D : va_G) (cA : Nat → ClassId) (ad : Nat → Nat) (sh : zw_Sh) (mi : zw_I) (ml : zw_L) (z b : Nat) (av : List Value) : Array Value → State → Prop := fun v U => zc_P D cA ad sh mi ml z av v U ∧ zt_X U ∧ zt_Z b U U.heap
theorem zx_blind {D : va_G} {cA : Nat → ClassId} {ad : Nat → Nat} {sh : zw_Sh} {mi : zw_I} {ml : zw_L} {z b : Nat} {av : List Value} : FrameBlind (zx_P D cA ad sh mi ml z b av) := fun a U g mk q => ⟨zc_blind a U g mk q.1, q.2.1.warm (U := U.calling g mk a) (State.WarmedH.refl U), q.2.2.go (U := U.calling g mk a) (State.WarmedH.refl U).alike (fun _ _ => rfl)⟩
/-- it throws an object of this class, or returns this and leaves these -/
abbrev zx_r : Type := String ⊕ (Option Value × zw_I × zw_L)
def zx_Q (D : va_G) (cA : Nat → ClassId) (ad : Nat → Nat) (sh : zw_Sh) (z : Nat) (mi : zw_I) (ml : zw_L) (r : zx_r) : Array Value → State → Outcome → State → Prop := fun a st o t => match r with
  | .inr q => zc_Q D cA ad sh sh z q.1 q.2.1 q.2.2 z a st o t ∧ ∃ L, FrameEnd st o t L 1 6 ∧ ∀ x ∈ L, zw_A ad sh z x.base
  | .inl E => ∃ (q : Addr) (ce : Cell) (L : List Loc), o = .threw q ∧ t.heap[q]? = some ce ∧ ce.vm = .none ∧ st.vm.findClass E = some ce.cls ∧ st.WarmedH t.vm ∧ st.sameButNew ({ t with vm := st.vm } : State) L 1 6 ∧ (∀ x ∈ L, zw_A ad sh z x.base) ∧ zw_W D cA ad sh mi ml t.heap ∧ t.heap.size = z + 1 ∧ va_F (zw_A ad sh z) st t
def zx_M (l : Launch) (D : va_G) (cA : Nat → ClassId) (Y : zc_Y) (d b : Nat) (ad : Nat → Nat) (sh : zw_Sh) (z : Nat) (av : List Value) (mi : zw_I) (ml : zw_L) (r : zx_r) : Prop :=
  MetFree l Y.1 (headSpec [Cond.code Y.1 Y.2.1 Y.2.2.1 Y.2.2.2] (zc_R d 1 6)) (zx_P D cA ad sh mi ml z b av) (fun _ _ _ _ _ => True) (zx_Q D cA ad sh z mi ml r)
def zx_MQ (below : List Frame) (D : va_G) (cA : Nat → ClassId) (ad : Nat → Nat) (sh : zw_Sh) (z : Nat) (mi : zw_I) (ml : zw_L) (r : zx_r) (a : Array Value) (s : State) : State → Prop := fun t => ∃ o, t.status = .running ∧ Ended t below o ∧ zx_Q D cA ad sh z mi ml r a s o t
section ZX
variable {p : Program} {l : Launch} {e : Env} {R : Room} {s : State} {m : MethodId} {args : Array Value} {below : List Frame} {meth : Method} {c : Code} {H : Heap} {locs : List Loc} {cells slots : Nat} {Q : State → Prop}
variable {cc : ByteArray} {pc nL : Nat} {ls : Array Slot} {rest st0 : List Value} {D : va_G} {cA : Nat → ClassId} {own : String} {ad : Nat → Nat} {sh sh' : zw_Sh} {A : Nat → Prop} {H0 : Heap} {mi mi1 mi' : zw_I} {ml ml1 ml' : zw_L} {z z1 d mc ms b : Nat} {av As : List Value} {rv : Option Value} {Y : zc_Y} {r : zx_r}
/-- a contract out of a walk of the body -/
theorem zx_enter (hy : plainName Y.1.cls = true) (hown : Y.1.cls = own) (hnl : (lg_sl av).length ≤ Y.2.2.1)
    (body : ∀ (p : Program) (e : Env) (s : State) (m : MethodId) (below : List Frame) (meth : Method) (c : Code), zw_C D cA own Y.2.1 Y.2.2.1 p m c s → meth.sig.returnType = Y.2.2.2 → meth.locks = false → zw_B D cA ad sh (zw_A ad sh z) s.heap mi ml z s.heap [] → zt_X s → zt_Z b s s.heap → (∀ x ∈ c.exceptionTable.toList, False) →
      ∀ ls : Array Slot, lv_has ls Y.2.2.1 (lv_args 0 av) → W p l e (zc_R d 1 6) s m av.toArray below meth c s.heap [] 0 0 (zx_MQ below D cA ad sh z mi ml r av.toArray s) (F0 m 0 ls [])) :
    zx_M l D cA Y d b ad sh z av mi ml r := by
  refine MetFree.of_bodyS (code := Y.2.1) (maxLocals := Y.2.2.1) (ret := Y.2.2.2) hy ?_ ?_
  · intro args s m h hn
    obtain ⟨meth, c, h1, h2, h3, h4, h5, h6, -, -⟩ := Cond.code_spec hn (atoms_spec h _ List.mem_cons_self)
    exact ⟨meth, c, h1, h2, h3, h4, h5, h6⟩
  · intro p e s m args below meth c s₁ B hml hv _
    obtain ⟨⟨rfl, hE, hW, hJ, hz⟩, hX, hZ⟩ := hv
    have hh0 : s₁.heap = s.heap := by rw [B.state]; rfl
    have hown' : s.vm.findClass own = some m.cls := by rw [← hown]; exact findClass_of_methodNamed B.named
    have ht : ∀ x ∈ c.exceptionTable.toList, False := by
      obtain ⟨meth9, c9, h1, h2, -, -, -, -, h7, -⟩ := Cond.code_spec B.named (atoms_spec B.pre _ List.mem_cons_self)
      cases Option.some.inj (h1.symm.trans B.method)
      cases Option.some.inj (h2.symm.trans (Stand.of_body B).code)
      intro x hx
      rw [Array.isEmpty_iff.mp h7] at hx
      cases hx
    have K := body p e s m below meth c ⟨B.exec, B.bytes, hml, hown', hE⟩ B.returns B.notSynchronized ⟨hW, hJ, fun k q hk => Or.inl ⟨k, q, hk, rfl⟩, va_S.rf, hz, fun q h => Or.inr (by rw [← hz]; exact h)⟩ hX hZ ht _ (lv_entry av hnl)
    rw [← lg_entry_eq] at K
    obtain ⟨t, a1, o, b1, b2, b3⟩ := K s₁ hh0 (Stand.of_body B)
    exact ⟨t, o, a1, b1, b2, b3⟩
theorem zx_ret (hc : cells ≤ 1) (hs : slots ≤ 6) {mi2 : zw_I} {ml2 : zw_L} {g : JFrame} (k : W p l e R s m args below meth c H locs cells slots (MQ below (zc_Q D cA ad sh sh z rv mi2 ml2 z) args s cells slots (zw_A ad sh z)) g) : W p l e R s m args below meth c H locs cells slots (zx_MQ below D cA ad sh z mi ml (.inr (rv, mi2, ml2)) args s) g := by
  intro T hT X
  obtain ⟨t, a1, o, b1, b2, b3, L, b4, b5⟩ := k T hT X
  exact ⟨t, a1, o, b1, b2, b3, L, ⟨b4.1, b4.2.1, b4.2.2.mono hc hs⟩, b5⟩
/-- the frame seen from here: as if the method began in this heap -/
theorem zx_anew {T : State} (X : Stand p l e R s m args below meth c T locs cells slots) {R' : Room} (hf : R'.frames ≤ R.frames) (hl : R'.locals ≤ R.locals) (hc : cells + R'.cells ≤ R.cells) (hs : slots + R'.slots ≤ R.slots) :
    Stand p l e R' ((T.setVm s.vm).setFrames (.invoking m args :: below)) m args below meth c T [] 0 0 := by
  have top : (T.setVm s.vm).topJava?.isSome := X.here.top
  have fr : ((T.setVm s.vm).setFrames (.invoking m args :: below)).frames = .invoking m args :: below := State.frames_setFrames _ (State.cur_lt_of_top top)
  obtain ⟨g₀, hg0⟩ := Option.isSome_iff_exists.mp top
  obtain ⟨r9, hr9⟩ := State.topJava?_eq_some.mp hg0
  obtain ⟨t9, ht9, -⟩ := State.frames_cons hr9
  have none9 : ((T.heap.toList.drop T.heap.size).map (·.slots.size)).sum = 0 := by
    rw [List.drop_eq_nil_of_le (Nat.le_of_eq Array.length_toList)]
    rfl
  have e1 : e.platform.stackLimits (T.setVm s.vm).me = e.platform.stackLimits s.me := X.limits
  have e2 : (T.setVm s.vm).me.stackBytes = s.me.stackBytes := X.bytes
  have inUse : ((T.setVm s.vm).setFrames (.invoking m args :: below)).localsInUse = s.localsInUse := by
    rw [State.localsInUse_invoking fr (meth := meth) (c := c) X.method X.code, State.localsInUse_invoking X.frames X.method X.code]
  refine ⟨X.admits, X.cas, X.clock, fr, ?_, X.hears, X.method, X.code, X.here, X.tail, X.warmed, by rw [State.stackLimits_setFrames]; rfl, by rw [State.stackBytes_setFrames]; rfl, ?_, Nat.le_refl _, Nat.le_refl _, ?_, ?_, fun a c9 h9 => ⟨c9, h9, rfl, rfl, fun _ _ => rfl⟩⟩
  · have rm := X.room
    have z1 := X.heapSize
    have z2 := X.used
    simp only [State.hasRoom, Bool.and_eq_true, decide_eq_true_eq] at rm ⊢
    obtain ⟨⟨⟨⟨r1, r2, r3, r4, r5, r6⟩, r7⟩, r8⟩, -⟩ := rm
    rw [X.frames, List.length_cons] at r2 r3
    simp only [fr, inUse, List.length_cons, State.stackLimits_setFrames, State.stackBytes_setFrames, e1, e2]
    have g1 : T.heap.size + R'.cells ≤ e.platform.maxCells := by omega
    have g2 : T.slotsUsed + R'.slots ≤ e.platform.maxSlots := by omega
    exact ⟨⟨⟨⟨by omega, by omega, by omega, by omega, by omega, r6⟩, g1⟩, g2⟩, X.book⟩
  · show T.setVm s.vm = { ((T.setVm s.vm).setFrames (.invoking m args :: below)).setFrames (T.setVm s.vm).frames with heap := T.heap, slotsUsed := T.slotsUsed }
    rw [State.setFrames_setFrames, State.setFrames_self ht9]
    rfl
  · show T.slotsUsed = T.slotsUsed + ((T.heap.toList.drop T.heap.size).map (·.slots.size)).sum
    rw [none9, Nat.add_zero]
  · show ((T.heap.toList.drop T.heap.size).map (·.slots.size)).sum ≤ 0
    rw [none9]
    exact Nat.le_refl 0
theorem zx_frame {U : State} {k n : Nat} (h : s.sameButNew ({ U with vm := s.vm } : State) [] k n) : s.heap.size ≤ U.heap.size ∧ U.heap.size ≤ s.heap.size + k ∧ ∀ q : Nat, q < s.heap.size → U.heap[q]? = s.heap[q]? := by
  obtain ⟨-, h2, h3, -, -, h6⟩ := h
  refine ⟨h2, h3, fun q hq => ?_⟩
  obtain ⟨c9, f1, f2, -, f4⟩ := h6 q _ (Array.getElem?_eq_getElem hq)
  have f5 : U.heap[q]? = some c9 := f1
  have f6 : c9.slots = (s.heap[q]).slots := Array.ext_getElem? fun i => f4 i (List.not_mem_nil)
  rw [f6] at f2
  rw [f5, f2, Array.getElem?_eq_getElem hq]
/-- what a 'throw new E(text)' of TileShares needs: the indexes of the class, the text, the constructor -/
def zx_T (E : String) (ik is ic : Nat) (tx : String) : Prop := Bundle.fit E = true ∧ (is, tx) ∈ zt_strs ∧ Cond.classLink R_TS ik E ∈ zw_Tb ∧ Cond.initialized E ∈ zw_Tb ∧ Cond.instantiable E 6 ∈ zw_Tb ∧ (Bundle.ownAtoms R_TS ic E zt_names).all (fun w => zw_Tb.contains w || zt_seven.contains w) = true
theorem zx_throw (X : zw_C D cA R_TS cc nL p m c s) (hl : l.stackTraces = false) (Zx : zt_X s) (Zz : zt_Z b s s.heap) (hA : ∀ q, zw_A ad sh z q → b ≤ q) (hB : zw_B D cA ad sh (zw_A ad sh z) s.heap mi ml z H locs) (hno : ∀ x ∈ c.exceptionTable.toList, False) (hlocks : meth.locks = false) (hsz : ls.size = nL)
    {E tx : String} {ik is ic : Nat} (F : zx_T E ik is ic tx) (hR : 6 ≤ R.frames ∧ 90 ≤ R.locals ∧ 1 ≤ R.cells ∧ 6 ≤ R.slots) {w0 w1 w2 w3 w4 : Nat} (e0 : w0 = pc) (e1 : w1 = pc + 3) (e2 : w2 = pc + 4) (e3 : w3 = pc + 6) (e4 : w4 = pc + 9)
    (d0 : decode cc w0 = .ok (.new ik, 3)) (d3 : decode cc w1 = .ok (.dup, 1)) (d4 : decode cc w2 = .ok (.ldc is, 2)) (d6 : decode cc w3 = .ok (.invokespecial ic, 3)) (d9 : decode cc w4 = .ok (.athrow, 1)) :
    W p l e R s m args below meth c H locs 0 0 (zx_MQ below D cA ad sh z mi ml (.inl E) args s) (F0 m pc ls []) := by
  rw [e0] at d0
  rw [e1] at d3
  rw [e2] at d4
  rw [e3] at d6
  rw [e4] at d9
  intro T hT Xs
  obtain ⟨hx, hb, hnl, hown, hE⟩ := X
  obtain ⟨F1, F2, F3, F4, F5, F6⟩ := F
  have htr : e.platform.stackTraces = false := (show e.platform.stackTraces = l.stackTraces by rw [Xs.admits.platform]).trans hl
  have Y := zx_anew Xs (R' := { frames := R.frames, locals := R.locals, cells := 1, slots := 6 }) (Nat.le_refl _) (Nat.le_refl _) (by simpa using hR.2.2.1) (by simpa using hR.2.2.2)
  obtain ⟨s', hs'⟩ : ∃ y, y = (T.setVm s.vm).setFrames (.invoking m args :: below) := ⟨_, rfl⟩
  rw [← hs'] at Y
  have hvm : s'.vm = s.vm := by rw [hs']; rfl
  have hhp : s'.heap = H := by rw [hs']; exact hT
  have hW0 : s.WarmedH s'.vm := by rw [hvm]; exact State.WarmedH.refl s
  have hE' := hE.warm hW0
  have Zx' := Zx.warm hW0
  have Zz' : zt_Z b s' s'.heap := Zz.go hW0.alike fun a ha => by
    rw [hhp]
    by_cases h9 : a < s.heap.size
    · exact hB.2.2.2.1.2.1 a h9 (fun h8 => absurd (hA a h8) (Nat.not_le.mpr ha))
    · exact absurd (hA a (hB.2.2.2.2.2 a (Nat.not_lt.mp h9))) (Nat.not_le.mpr ha)
  have h : ∀ w ∈ Bundle.ownAtoms R_TS ic E zt_names, w.before args s' = true := fun w hw => by
    have h8 := List.all_eq_true.mp F6 w hw
    rw [Bool.or_eq_true] at h8
    rcases h8 with h8 | h8
    · exact hE'.ts w (List.contains_iff_mem.mp h8)
    · have h7 := List.contains_iff_mem.mp h8
      unfold zt_seven at h7
      rcases List.mem_append.mp h7 with h7 | h7
      · simp only [List.mem_cons, List.not_mem_nil, or_false] at h7
        rcases h7 with rfl | rfl | rfl | rfl
        · exact zt_ref Zz'.1
        · exact zt_ref Zz'.2.1
        · exact Zz'.2.2.1.word
        · exact Zz'.2.2.2.word
      · obtain ⟨x, hx9, rfl⟩ := List.mem_map.mp h7
        exact va_tabs rfl rfl (Zx'.2.2 x hx9)
  have hown' : s'.vm.findClass R_TS = some m.cls := by rw [hvm]; exact hown
  obtain ⟨sa, hstr⟩ := Zx'.1 _ F2
  obtain ⟨vm₁, cX, kX, hfX, hkX, -, -, X₁, st1⟩ := Y.newCold hx (own := R_TS) (C := E) (index := ik) (n := 6) hown' (hE'.ts _ F3) (hE'.ts _ F5) (hE'.ts _ F4) (g := F0 m pc ls []) rfl (by rw [hb]; exact d0) (Nat.le_refl _) (Nat.le_refl _)
  generalize hT1 : (T.setVm vm₁).pushCell { cls := cX, slots := kX.instanceTypes.map defaultValue, vm := .none } = T1 at X₁ st1
  have hcellA : T1.heap[T.heap.size]? = some (freshCell cX kX) := by rw [← hT1]; exact State.heap_pushCell_size _ _
  have d3' : decode c.code (pc + 3) = .ok (.dup, 1) := by rw [hb]; exact d3
  have d4' : decode c.code (pc + 4) = .ok (.ldc is, 2) := by rw [hb]; exact d4
  have hcat : (Value.ref T.heap.size).category = 1 := rfl
  have hno' : ∀ q : Nat, ∀ x ∈ c.exceptionTable.toList, covers x q = false := fun q x hx9 => (hno x hx9).elim
  obtain ⟨U, hsteps, hrun, hend, hW, hsame, ce, hce, hO⟩ := X₁.ctorThrowS hx htr (own := R_TS) (cls := E) (names := zt_names) (ic := ic) hown' F1 (by decide) h (fun x hx9 => nomatch hx9) hfX hkX hcellA (by rw [hhp, hT]; exact Nat.le_refl _) (msg := .ref sa) rfl
    (g := { method := m, pc := pc + 6, locals := ls, stack := .ref sa :: .ref T.heap.size :: .ref T.heap.size :: [], locked := none }) rfl (hsz.trans hnl.symm) rfl rfl (rest := []) rfl
    (by rw [hb]; exact d6) (by rw [hb]; exact d9) (hno' _) (by show 2 + 3 < R.frames; omega) (by simp only [List.map_cons, List.map_nil, List.sum_cons, List.sum_nil, hcat, zt_names, List.length_cons, List.length_nil]; omega) hlocks
  obtain ⟨f1, f2, f3⟩ := zx_frame hsame
  rw [hhp] at f1 f2 f3
  have hWs : s.WarmedH U.vm := State.WarmedH.trans hW0 hW
  have hcl : s.vm.findClass E = some ce.cls := by
    have h9 := hO.cls
    rw [hvm] at h9
    exact h9
  have hall : s.sameButNew ({ U with vm := s.vm } : State) locs 1 6 := by
    subst hs'
    obtain ⟨g1, g2⟩ := hsame
    rw [State.setFrames_setFrames] at g1
    have h2 : (T.setVm s.vm).sameButNew ({ U with vm := s.vm } : State) [] (0 + 1) (0 + 6) := ⟨g1, g2⟩
    have h3 := Xs.same.trans h2
    rw [List.append_nil] at h3
    exact h3
  have hHz : H.size = z := hB.2.2.2.2.1
  have hUz : U.heap.size = z + 1 := by
    have h9 := (Array.getElem?_eq_some_iff.mp hce).1
    rw [hT, hHz] at h9
    rw [hHz] at f2
    omega
  have hB' := hB.more (H1 := U.heap) hUz (Nat.le_succ z) (fun a ha => f3 a (by rw [hHz]; exact ha))
  refine ⟨U, ?_, .threw T.heap.size, hrun, hend, T.heap.size, ce, locs, rfl, hce, hO.vm, hcl, hWs, hall, hB.2.2.2.1.2.2, hB'.1, hUz, hB'.2.2.2.1.F rfl⟩
  refine st1 _ ?_
  show Steps p.tables e below (T1.setTop { method := m, pc := pc + 3, locals := ls, stack := .ref T.heap.size :: [], locked := none }) _
  jvm_step X₁.here [X₁.here.top, hx, d3', Value.category]
  exact X₁.ldcString hx (own := R_TS) (text := tx) (index := is) (a := sa) hown' hstr.1 hstr.2
    (g := { method := m, pc := pc + 4, locals := ls, stack := .ref T.heap.size :: .ref T.heap.size :: [], locked := none }) rfl d4' _ hsteps
/-- a call of a method that returns -/
theorem zx_callR (X : zw_C D cA own cc nL p m c s) (Zx : zt_X s) (Zz : zt_Z b s H) (hB : zw_B D cA ad sh A H0 mi ml z H locs) {C : String} {index n : Nat} (ML : zw_MV own index Y C n) (hpl : Cond.methodLink own index Y.1 ∈ zw_Tb) (k : Nat) {ci : Nat} {fs : List (Nat × Nat)} (hk : sh k = some (.inl (ci, fs))) {T : u_T} {N : Nat} (hc : zw_cl[ci]? = some (C, T, N)) {v : Value}
    (hM : zx_M l D cA Y d b ad sh z (.ref (ad k) :: As) mi ml (.inr (some v, mi1, ml1))) (hn : As.length = n) (hsz : ls.size = nL) (hR : d + 1 ≤ R.frames ∧ 8 + (Y.2.2.1 + 11) + 40 * d ≤ R.locals) (hst : As.reverse ++ .ref (ad k) :: rest = st0) (hW : (rest.map fun v => v.category).sum ≤ 8) (hf : cells + 1 ≤ R.cells ∧ slots + 6 ≤ R.slots) (hdg : decode cc pc = .ok (.invokevirtual index, 3))
    (kk : ∀ (H1 : Heap) (locs1 : List Loc), zw_B D cA ad sh A H0 mi1 ml1 z H1 locs1 → W p l e R s m args below meth c H1 locs1 (cells + 1) (slots + 6) Q (F0 m (pc + 3) ls (v :: rest))) : W p l e R s m args below meth c H locs cells slots Q (F0 m pc ls st0) := by
  subst hst
  obtain ⟨-, hin, hsel, hcode, hini, hy, hpar⟩ := ML
  have hts : ∀ w ∈ zw_Tb, w.before args s = true := X.2.2.2.2.ts
  have hws : ∀ w ∈ [Cond.code Y.1 Y.2.1 Y.2.2.1 Y.2.2.2], ∀ (a' : Array Value) (U : State), s.WarmedH U.vm → w.before a' U = true := fun w hw a' U hW => (X.2.2.2.2.warm hW).ts w (by rw [List.mem_singleton.mp hw]; exact hcode)
  have hM' : Met l Y.1 [Cond.code Y.1 Y.2.1 Y.2.2.1 Y.2.2.2] (zc_R d 1 6) (zx_P D cA ad sh mi ml z b (.ref (ad k) :: As)) (zc_Q D cA ad sh sh z (some v) mi1 ml1 z) 1 6 (zw_A ad sh z) := hM
  have hp : PreV s H C (ad k) (zx_P D cA ad sh mi ml z b (.ref (ad k) :: As)) As := ⟨zx_blind, zw_recv X hB hk hc, fun U hU hW => ⟨⟨rfl, X.2.2.2.2.warm hW, by rw [hU]; exact hB.1, hB.2.1, by rw [hU]; exact hB.2.2.2.2.1⟩, Zx.warm hW, by rw [hU]; exact Zz.go hW.alike (fun _ _ => rfl)⟩⟩
  exact zw_after (va_runV (C := C) ⟨X.1, X.2.1, X.2.2.1, X.2.2.2.1, hts⟩ hM' ⟨⟨rfl, rfl, hR.1, hR.2, hws, List.mem_singleton.mpr rfl, hts _ hcode, hts _ hini, hy, zw_len hpar, hts _ hpl⟩, hts _ hin, hts _ hsel⟩ hp rfl hn hsz rfl (lv_room hW) hdg hf) hB kk
/-- a call of a method that throws, caught here -/
theorem zx_callE (X : zw_C D cA own cc nL p m c s) (Zx : zt_X s) (Zz : zt_Z b s H) (hB : zw_B D cA ad sh A H0 mi ml z H locs) {C : String} {index n : Nat} (ML : zw_MV own index Y C n) (hpl : Cond.methodLink own index Y.1 ∈ zw_Tb) (k : Nat) {ci : Nat} {fs : List (Nat × Nat)} (hk : sh k = some (.inl (ci, fs))) {T : u_T} {N : Nat} (hc : zw_cl[ci]? = some (C, T, N)) {E : String}
    (hM : zx_M l D cA Y d b ad sh z (.ref (ad k) :: As) mi ml (.inl E)) (hn : As.length = n) (hsz : ls.size = nL) (hR : d + 1 ≤ R.frames ∧ 8 + (Y.2.2.1 + 11) + 40 * d ≤ R.locals) (hst : As.reverse ++ .ref (ad k) :: rest = st0) (hW : (rest.map fun v => v.category).sum ≤ 8) (hf : cells + 1 ≤ R.cells ∧ slots + 6 ≤ R.slots)
    {hh : List (Nat × Nat × Nat × Nat)} (htab : c.exceptionTable.toList = tableOf hh) (pre : List (Nat × Nat × Nat × Nat)) (y : Nat × Nat × Nat × Nat) (suf : List (Nat × Nat × Nat × Nat)) (hsp : hh = pre ++ y :: suf) (hpass : ∀ w ∈ pre, w.2.2.2 ≠ 0 ∧ ∃ nm : String, Cond.classLink own w.2.2.2 nm ∈ zw_Tb ∧ (E, nm) ∈ zt_nos) (hcov : covers ⟨y.1, y.2.1, y.2.2.1, y.2.2.2⟩ pc = true) (hy0 : y.2.2.2 ≠ 0) (hlk : Cond.classLink own y.2.2.2 E ∈ zw_Tb) (hca : Cond.castable E E ∈ zw_Tb) (hdg : decode cc pc = .ok (.invokevirtual index, 3))
    (kk : ∀ (H1 : Heap) (locs1 : List Loc) (q : Addr), zw_B D cA ad sh A H0 mi ml (z + 1) H1 locs1 → W p l e R s m args below meth c H1 locs1 (cells + 1) (slots + 6) Q (F0 m y.2.2.1 ls [.ref q])) : W p l e R s m args below meth c H locs cells slots Q (F0 m pc ls st0) := by
  subst hst
  obtain ⟨-, hin, hsel, hcode, hini, hyn, hpar⟩ := ML
  have hx := X.1
  have hb := X.2.1
  have hown := X.2.2.2.1
  have hE := X.2.2.2.2
  have hts : ∀ w ∈ zw_Tb, w.before args s = true := hE.ts
  obtain ⟨cellB, hcB, hoB, hclB⟩ := zw_recv X hB hk hc
  intro T0 hT Xs
  obtain ⟨mk, methM, hnamed, hmethM, hstM, habM⟩ := Cond.instanceMethod_spec (hts _ hin)
  obtain ⟨methM', cM, hmethM', hcM, -, hlM, -, -, -, hsigM⟩ := Cond.code_spec hnamed (hts _ hcode)
  cases hmethM.symm.trans hmethM'
  obtain ⟨c2, r2, m2, q1, q2, q3, q4, kP, hkP, hkPi⟩ := Cond.selects_spec (hts _ hsel)
  cases hclB.symm.trans q1
  cases (State.methodFound?_of_named hnamed hyn).symm.trans q2
  cases hnamed.symm.trans q3
  have hselP : selectMethod e.platform s.vm cellB.cls mk = .method mk := by rw [Launch.admits_selectMethod Xs.admits]; exact q4
  obtain ⟨vm₁, X₁, hstep₁⟩ := Xs.invokevirtual hx hown (hts _ hpl) hnamed hmethM hstM hkP hkPi hyn (a := ad k) (cell := cellB) (by rw [hT]; exact hcB)
    (fun z9 h => by rw [h] at hoB; cases hoB) hselP hmethM habM hkP hkPi (g := F0 m pc ls (As.reverse ++ .ref (ad k) :: rest)) rfl (argsL := As) (rest := rest) (hn.trans (zw_len hpar _ hsigM)) rfl (by rw [hb]; exact hdg)
  obtain ⟨g, hg⟩ : ∃ g : JFrame, g = F0 m pc ls rest := ⟨_, rfl⟩
  have hgm : g.method = m := by rw [hg]
  have hW₁ : s.WarmedH vm₁ := X₁.warmed
  have h : At (T0.setVm vm₁) g.method c below := by rw [hgm]; exact X₁.here
  have hdg' : decode c.code g.pc = .ok (.invokevirtual index, 3) := by rw [hg, hb]; exact hdg
  have hn₁ := X₁.named hnamed
  obtain ⟨kY, hkY, -⟩ := className_of_methodNamed hn₁
  have hE₁ : zw_E D cA (T0.setVm vm₁) := hE.warm hW₁
  have hinitY : kY.init = .initialized := Cond.initialized_spec (args := args) (findClass_of_methodNamed hn₁) hkY (hE₁.ts _ hini)
  obtain ⟨methY, cY, hmY, hcY, -, hlY, -, -, -, -⟩ := Cond.code_spec hn₁ (hE₁.ts (args := args) _ hcode)
  have hcat : 2 * g.monitorRoom + (g.stack.map fun v => v.category).sum ≤ 8 := by rw [hg]; exact lv_room hW
  have hap : (headSpec [Cond.code Y.1 Y.2.1 Y.2.2.1 Y.2.2.2] (zc_R d 1 6)).appliesLoose Y.1 e.platform ((T0.setVm vm₁).calling g mk (Value.ref (ad k) :: As).toArray) = true :=
    Spec.appliesLoose_calling (g := g) h hdg' hn₁ hkY hinitY
      (X₁.room_calling (g := g) (R' := zc_R d 1 6) (by rw [hg]; exact hsz.trans X.2.2.1.symm) hmY hcY hR.1 (by rw [hlY]; show 2 * g.monitorRoom + (g.stack.map fun v => v.category).sum + (Y.2.2.1 + 11) + 40 * d ≤ R.locals; omega) hf.1 hf.2)
      (atoms_intro fun w hw => by rw [List.mem_singleton.mp hw]; exact hE₁.ts _ hcode)
  obtain ⟨mid, hmid⟩ := h.above
  have hfr : ((T0.setVm vm₁).setTop g).frames = (.java g :: mid) ++ below := by rw [State.frames_setTop' g h.top, hmid]; rfl
  have hPre : zx_P D cA ad sh mi ml z b (.ref (ad k) :: As) (Value.ref (ad k) :: As).toArray (T0.setVm vm₁) := ⟨⟨rfl, hE₁, by show zw_W D cA ad sh mi ml T0.heap; rw [hT]; exact hB.1, hB.2.1, by show T0.heap.size = z; rw [hT]; exact hB.2.2.2.2.1⟩, Zx.warm hW₁, by show zt_Z b (T0.setVm vm₁) T0.heap; rw [hT]; exact Zz.go hW₁.alike (fun _ _ => rfl)⟩
  obtain ⟨o, s₂, hsteps, -, hend, hq⟩ := Steps.callFree hM p X₁.admits X₁.cas X₁.clock (acts := []) hfr hap (zx_blind _ _ g mk hPre) trivial
  obtain ⟨q, ce, L, rfl, hce, hcv, hcl, hW₂, hsm, hL, hW3, hz3, hF3⟩ : zx_Q D cA ad sh z mi ml (.inl E) (Value.ref (ad k) :: As).toArray ((T0.setVm vm₁).calling g mk (Value.ref (ad k) :: As).toArray) o s₂ := hq
  rw [State.frames_setTop' g h.top] at hend
  obtain ⟨g₀, hg0⟩ := Option.isSome_iff_exists.mp h.top
  obtain ⟨r9, hr9⟩ := State.topJava?_eq_some.mp hg0
  have hr' : (({ T0.setVm vm₁ with heap := s₂.heap, slotsUsed := s₂.slotsUsed } : State).setVm s₂.vm).frames = .java g₀ :: r9 := hr9
  obtain ⟨e2, k2, k3, k4, k5, k6⟩ := id hsm
  have e3 : s₂ = ({ ((T0.setVm vm₁).calling g mk (Value.ref (ad k) :: As).toArray).setFrames s₂.frames with heap := s₂.heap, slotsUsed := s₂.slotsUsed } : State).setVm s₂.vm := by
    have h9 : s₂ = ({ s₂ with vm := ((T0.setVm vm₁).calling g mk (Value.ref (ad k) :: As).toArray).vm } : State).setVm s₂.vm := rfl
    rw [e2] at h9
    exact h9
  have hf₂ : s₂.frames = .throwing q :: .java g :: (T0.setVm vm₁).frames.tail := hend
  have hW' : (T0.setVm vm₁).WarmedH s₂.vm := hW₂
  have hs₂ : s₂ = ((({ T0.setVm vm₁ with heap := s₂.heap, slotsUsed := s₂.slotsUsed } : State).setVm s₂.vm).setTop g).pushFrame (.throwing q) := by
    refine e3.trans ?_
    rw [hf₂, State.calling_eq h.top, State.setFrames_setFrames, State.pushFrame, State.frames_setTop _ hr', State.setTop_of_frames _ hr', State.setFrames_setFrames, hr9]
    rfl
  have hsame : (T0.setVm vm₁).sameButNew ({ T0.setVm vm₁ with heap := s₂.heap, slotsUsed := s₂.slotsUsed } : State) L 1 6 := by
    refine ⟨?_, k2, k3, k4, k5, k6⟩
    obtain ⟨t, ht, -⟩ := State.frames_cons hr9
    show ({ T0.setVm vm₁ with heap := s₂.heap, slotsUsed := s₂.slotsUsed } : State) = { (T0.setVm vm₁).setFrames (T0.setVm vm₁).frames with heap := s₂.heap, slotsUsed := s₂.slotsUsed }
    rw [State.setFrames_self ht]
  have X₂ : Stand p l e R s m args below meth c (({ T0.setVm vm₁ with heap := s₂.heap, slotsUsed := s₂.slotsUsed } : State).setVm s₂.vm) (locs ++ L) (cells + 1) (slots + 6) :=
    ⟨X₁.admits, X₁.cas, X₁.clock, X₁.frames, X₁.room, X₁.hears, X₁.method, X₁.code, (X₁.here.setHeapUsed s₂.heap s₂.slotsUsed).setVm hW'.alike, X₁.tail, State.WarmedH.trans X₁.warmed hW', X₁.limits, X₁.bytes, X₁.same.trans (hsame.setVm s.vm)⟩
  have hclS : s.vm.findClass E = some ce.cls := by
    have h9 : vm₁.findClass E = some ce.cls := hcl
    rw [hW₁.alike.findClass] at h9
    exact h9
  have hmag : e.platform.magicAccessors = ({} : Platform).magicAccessors := by rw [Xs.admits.platform]
  obtain ⟨c3, c4, hc3, hc4, hasg⟩ := Cond.castable_spec (hts _ hca)
  cases Option.some.inj (hc3.symm.trans hclS)
  obtain ⟨c5, hc5, hcl5⟩ := Cond.classLink_spec hown (hts _ hlk) e.platform hmag
  cases Option.some.inj (hc4.symm.trans hc5)
  have come : Steps p.tables e below (T0.setTop (F0 m pc ls (As.reverse ++ .ref (ad k) :: rest))) (((({ T0.setVm vm₁ with heap := s₂.heap, slotsUsed := s₂.slotsUsed } : State).setVm s₂.vm).setTop g).pushFrame (.throwing q)) := by
    rw [← hs₂]
    exact hstep₁ _ fun acts => by rw [doInvoke_state]; rw [hg] at hsteps; exact hsteps
  obtain ⟨vm', X₃, st3⟩ := X₂.thenCaughtThrough q hgm come hce (by rw [hcv]; rfl) (by obtain ⟨k9, h9, -⟩ := Vm.findClass_spec hclS; exact ⟨k9, h9⟩) (tableOf pre) ⟨y.1, y.2.1, y.2.2.1, y.2.2.2⟩ (tableOf suf) (by rw [htab, hsp]; simp [tableOf])
    (fun w hw => by
      obtain ⟨w', hw', rfl⟩ := List.mem_map.mp hw
      obtain ⟨h0, nm, hl1, hl2⟩ := hpass w' hw'
      obtain ⟨c6, hc6, hcl6⟩ := Cond.classLink_spec hown (hts _ hl1) e.platform hmag
      obtain ⟨a8, b8, h1, h2, h3⟩ := Zx.2.1 _ hl2
      cases Option.some.inj (h1.symm.trans hclS)
      cases Option.some.inj (h2.symm.trans hc6)
      exact Or.inr ⟨h0, _, hcl6, h3⟩) (by rw [hg]; exact hcov) (Or.inr ⟨hy0, c4, hcl5, hasg⟩)
  obtain ⟨hF1, hF2⟩ := hF3
  have h0 : ((T0.setVm vm₁).calling g mk (Value.ref (ad k) :: As).toArray).heap = H := hT
  rw [h0] at hF1 hF2
  obtain ⟨hW0, hJ0, hA0, hS0, hsz0, hT0⟩ := hB
  have hAA : ∀ q, zw_A ad sh z q → A q := fun q h => by
    rcases h with ⟨k, p, hk, rfl⟩ | h
    · exact hA0 k p hk
    · exact hT0 q (Nat.le_trans hS0.1 (by rw [hsz0]; exact h))
  have K := kk s₂.heap (locs ++ L) q ⟨hW3, hJ0, hA0, ⟨Nat.le_trans hS0.1 hF1, fun a h1 h2 => by
      rw [hF2 a (Nat.lt_of_lt_of_le h1 hS0.1) (fun z => h2 (hAA a z))]
      exact hS0.2.1 a h1 h2, fun a ha => by
      rcases List.mem_append.mp ha with h | h
      · exact hS0.2.2 a h
      · exact hAA _ (hL a h)⟩, hz3, hT0⟩
  obtain ⟨t2, a1, b1⟩ := K ((({ T0.setVm vm₁ with heap := s₂.heap, slotsUsed := s₂.slotsUsed } : State).setVm s₂.vm).setVm vm') rfl X₃
  refine ⟨t2, ?_, b1⟩
  rw [hg] at st3
  exact st3.trans a1
end ZX
end
section
def p_share (mi : zw_I) (ml : zw_L) (x st ce : Int32) (t : Int64) : zx_r := if p_isShare mi x = 0 then .inl zt_I else if p_within st 1 20 = 0 then .inl zt_A else if p_within ce 1 (mi 1 1) = 0 then .inl zt_A else .inr (some (.int (zw_up (zw_up mi 7 x.toNatClampNeg st) 8 x.toNatClampNeg ce 10 x.toNatClampNeg)), zw_up (zw_up mi 7 x.toNatClampNeg st) 8 x.toNatClampNeg ce, zw_up ml 9 x.toNatClampNeg t)
def p_need (mi : zw_I) (ml : zw_L) (x s0 o m0 : Int32) : zx_r := if p_isShare mi x = 0 then .inl zt_I else if p_isShare mi o = 0 then .inl zt_I else if p_within s0 0 19 = 0 then .inl zt_A else if p_within m0 1 20 = 0 then .inl zt_A else if o = x then .inl zt_A else if mi 10 x.toNatClampNeg < 6 then .inr (some (.int (p_nadd x s0 o m0 mi 10 x.toNatClampNeg)), p_nadd x s0 o m0 mi, ml) else .inl zt_U
def p_free (mi : zw_I) (ml : zw_L) (x : Int32) : zx_r := if p_isShare mi x = 0 then .inl zt_I else .inr (some (.int (mi 10 x.toNatClampNeg)), zw_up mi 10 x.toNatClampNeg 0, ml)
def p_failing (mi : zw_I) (ml : zw_L) (w x s0 t : Int32) : zx_r := if p_isShare mi x = 0 then .inl zt_I else if p_within w 0 15 = 0 then .inl zt_A else if p_within s0 0 19 = 0 then .inl zt_A else if p_within t 1 9 = 0 then .inl zt_A else if mi 3 5 < 8 then .inr (some (.int (p_fadd w x s0 t mi 3 5)), p_fadd w x s0 t mi, ml) else .inl zt_U
def p_stop (mi : zw_I) (ml : zw_L) (x : Int32) : zx_r := if x = -1 then .inr (some (.int (mi 1 7)), zw_up mi 1 7 x, ml) else if p_isShare mi x = 0 then .inl zt_I else .inr (some (.int (mi 1 7)), zw_up mi 1 7 x, ml)
def p_runB (n : Nat) (e : Int32) (mi : zw_I) (ml : zw_L) : zx_r := if e = 0 then .inr (some (.int e), (p_put n (n + 1) 0 mi ml).1, (p_put n (n + 1) 0 mi ml).2) else if e = 1 then .inr (some (.int e), (p_put n (n + 1) 0 mi ml).1, (p_put n (n + 1) 0 mi ml).2) else .inr (some (.int e), mi, ml)
def p_run (n : Nat) (mi : zw_I) (ml : zw_L) (wk : Int32) (x : Int64) : zx_r := if p_within wk 1 16 = 0 then .inl zt_A else p_runB n (p_goE (p_go n wk x mi ml).1) (p_go n wk x mi ml).2.1 (p_go n wk x mi ml).2.2
def p_at (mi : zw_I) (ml : zw_L) (x : Int32) : zx_r := if p_isShare mi x = 0 then .inl zt_I else if mi 20 x.toNatClampNeg = 0 then .inl zt_S else .inr (some (.long (ml 21 x.toNatClampNeg)), mi, ml)
def p_order (mi : zw_I) (ml : zw_L) (x : Int32) : zx_r := if p_within x 0 (mi 5 8 - 1) = 0 then .inl zt_I else .inr (some (.int (mi 27 x.toNatClampNeg)), mi, ml)
def p_begun (mi : zw_I) (ml : zw_L) (x : Int32) : zx_r := if p_isShare mi x = 0 then .inl zt_I else .inr (some (.int (mi 25 x.toNatClampNeg)), mi, ml)
def p_waited (mi : zw_I) (ml : zw_L) (x y : Int32) : zx_r := if p_isShare mi x = 0 then .inl zt_I else if p_isShare mi y = 0 then .inl zt_I else .inr (some (.int (mi (128 + x.toNatClampNeg) y.toNatClampNeg)), mi, ml)
end
section
abbrev Y_TS_share : zc_Y := (⟨R_TS, "share", "(IIIJ)I"⟩, prog_1_method_2_code, 6, (some FieldType.int))
abbrev Y_TS_need : zc_Y := (⟨R_TS, "need", "(IIII)I"⟩, prog_1_method_3_code, 5, (some FieldType.int))
abbrev Y_TS_free : zc_Y := (⟨R_TS, "free", "(I)I"⟩, prog_1_method_4_code, 3, (some FieldType.int))
abbrev Y_TS_failing : zc_Y := (⟨R_TS, "failing", "(IIII)I"⟩, prog_1_method_5_code, 5, (some FieldType.int))
abbrev Y_TS_stop : zc_Y := (⟨R_TS, "stop", "(I)I"⟩, prog_1_method_6_code, 3, (some FieldType.int))
abbrev Y_TS_at : zc_Y := (⟨R_TS, "at", "(I)J"⟩, prog_1_method_8_code, 2, (some FieldType.long))
abbrev Y_TS_order : zc_Y := (⟨R_TS, "order", "(I)I"⟩, prog_1_method_9_code, 2, (some FieldType.int))
abbrev Y_TS_begun : zc_Y := (⟨R_TS, "begun", "(I)I"⟩, prog_1_method_10_code, 2, (some FieldType.int))
abbrev Y_TS_waited : zc_Y := (⟨R_TS, "waited", "(II)I"⟩, prog_1_method_11_code, 3, (some FieldType.int))
abbrev Y_TS_run : zc_Y := (⟨R_TS, "run", "(IJ)I"⟩, prog_1_method_7_code, 5, (some FieldType.int))
theorem d_TS_share_0 : decode prog_1_method_2_code 0 = .ok (.aload_n 0, 1) := by decide +kernel
theorem d_TS_share_1 : decode prog_1_method_2_code 1 = .ok (.iload_n 1, 1) := by decide +kernel
theorem d_TS_share_2 : decode prog_1_method_2_code 2 = .ok (.invokevirtual 39, 3) := by decide +kernel
theorem d_TS_share_5 : decode prog_1_method_2_code 5 = .ok (.ifCond .ne 13, 3) := by decide +kernel
theorem d_TS_share_8 : decode prog_1_method_2_code 8 = .ok (.new 43, 3) := by decide +kernel
theorem d_TS_share_11 : decode prog_1_method_2_code 11 = .ok (.dup, 1) := by decide +kernel
theorem d_TS_share_12 : decode prog_1_method_2_code 12 = .ok (.ldc 45, 2) := by decide +kernel
theorem d_TS_share_14 : decode prog_1_method_2_code 14 = .ok (.invokespecial 47, 3) := by decide +kernel
theorem d_TS_share_17 : decode prog_1_method_2_code 17 = .ok (.athrow, 1) := by decide +kernel
theorem d_TS_share_18 : decode prog_1_method_2_code 18 = .ok (.iload_n 2, 1) := by decide +kernel
theorem d_TS_share_19 : decode prog_1_method_2_code 19 = .ok (.iconst 1, 1) := by decide +kernel
theorem d_TS_share_20 : decode prog_1_method_2_code 20 = .ok (.bipush 20, 2) := by decide +kernel
theorem d_TS_share_22 : decode prog_1_method_2_code 22 = .ok (.invokestatic 50, 3) := by decide +kernel
theorem d_TS_share_25 : decode prog_1_method_2_code 25 = .ok (.ifCond .eq 18, 3) := by decide +kernel
theorem d_TS_share_28 : decode prog_1_method_2_code 28 = .ok (.iload_n 3, 1) := by decide +kernel
theorem d_TS_share_29 : decode prog_1_method_2_code 29 = .ok (.iconst 1, 1) := by decide +kernel
theorem d_TS_share_30 : decode prog_1_method_2_code 30 = .ok (.aload_n 0, 1) := by decide +kernel
theorem d_TS_share_31 : decode prog_1_method_2_code 31 = .ok (.getfield 18, 3) := by decide +kernel
theorem d_TS_share_34 : decode prog_1_method_2_code 34 = .ok (.getfield 54, 3) := by decide +kernel
theorem d_TS_share_37 : decode prog_1_method_2_code 37 = .ok (.invokestatic 50, 3) := by decide +kernel
theorem d_TS_share_40 : decode prog_1_method_2_code 40 = .ok (.ifCond .ne 13, 3) := by decide +kernel
theorem d_TS_share_43 : decode prog_1_method_2_code 43 = .ok (.new 58, 3) := by decide +kernel
theorem d_TS_share_46 : decode prog_1_method_2_code 46 = .ok (.dup, 1) := by decide +kernel
theorem d_TS_share_47 : decode prog_1_method_2_code 47 = .ok (.ldc 60, 2) := by decide +kernel
theorem d_TS_share_49 : decode prog_1_method_2_code 49 = .ok (.invokespecial 62, 3) := by decide +kernel
theorem d_TS_share_52 : decode prog_1_method_2_code 52 = .ok (.athrow, 1) := by decide +kernel
theorem d_TS_share_53 : decode prog_1_method_2_code 53 = .ok (.aload_n 0, 1) := by decide +kernel
theorem d_TS_share_54 : decode prog_1_method_2_code 54 = .ok (.getfield 18, 3) := by decide +kernel
theorem d_TS_share_57 : decode prog_1_method_2_code 57 = .ok (.getfield 63, 3) := by decide +kernel
theorem d_TS_share_60 : decode prog_1_method_2_code 60 = .ok (.iload_n 1, 1) := by decide +kernel
theorem d_TS_share_61 : decode prog_1_method_2_code 61 = .ok (.iload_n 2, 1) := by decide +kernel
theorem d_TS_share_62 : decode prog_1_method_2_code 62 = .ok (.iastore, 1) := by decide +kernel
theorem d_TS_share_63 : decode prog_1_method_2_code 63 = .ok (.aload_n 0, 1) := by decide +kernel
theorem d_TS_share_64 : decode prog_1_method_2_code 64 = .ok (.getfield 18, 3) := by decide +kernel
theorem d_TS_share_67 : decode prog_1_method_2_code 67 = .ok (.getfield 67, 3) := by decide +kernel
theorem d_TS_share_70 : decode prog_1_method_2_code 70 = .ok (.iload_n 1, 1) := by decide +kernel
theorem d_TS_share_71 : decode prog_1_method_2_code 71 = .ok (.iload_n 3, 1) := by decide +kernel
theorem d_TS_share_72 : decode prog_1_method_2_code 72 = .ok (.iastore, 1) := by decide +kernel
theorem d_TS_share_73 : decode prog_1_method_2_code 73 = .ok (.aload_n 0, 1) := by decide +kernel
theorem d_TS_share_74 : decode prog_1_method_2_code 74 = .ok (.getfield 18, 3) := by decide +kernel
theorem d_TS_share_77 : decode prog_1_method_2_code 77 = .ok (.getfield 70, 3) := by decide +kernel
theorem d_TS_share_80 : decode prog_1_method_2_code 80 = .ok (.iload_n 1, 1) := by decide +kernel
theorem d_TS_share_81 : decode prog_1_method_2_code 81 = .ok (.lload 4, 2) := by decide +kernel
theorem d_TS_share_83 : decode prog_1_method_2_code 83 = .ok (.lastore, 1) := by decide +kernel
theorem d_TS_share_84 : decode prog_1_method_2_code 84 = .ok (.aload_n 0, 1) := by decide +kernel
theorem d_TS_share_85 : decode prog_1_method_2_code 85 = .ok (.getfield 18, 3) := by decide +kernel
theorem d_TS_share_88 : decode prog_1_method_2_code 88 = .ok (.getfield 73, 3) := by decide +kernel
theorem d_TS_share_91 : decode prog_1_method_2_code 91 = .ok (.getfield 77, 3) := by decide +kernel
theorem d_TS_share_94 : decode prog_1_method_2_code 94 = .ok (.iload_n 1, 1) := by decide +kernel
theorem d_TS_share_95 : decode prog_1_method_2_code 95 = .ok (.iaload, 1) := by decide +kernel
theorem d_TS_share_96 : decode prog_1_method_2_code 96 = .ok (.ireturn, 1) := by decide +kernel
theorem d_TS_need_0 : decode prog_1_method_3_code 0 = .ok (.aload_n 0, 1) := by decide +kernel
theorem d_TS_need_1 : decode prog_1_method_3_code 1 = .ok (.iload_n 1, 1) := by decide +kernel
theorem d_TS_need_2 : decode prog_1_method_3_code 2 = .ok (.invokevirtual 39, 3) := by decide +kernel
theorem d_TS_need_5 : decode prog_1_method_3_code 5 = .ok (.ifCond .eq 11, 3) := by decide +kernel
theorem d_TS_need_8 : decode prog_1_method_3_code 8 = .ok (.aload_n 0, 1) := by decide +kernel
theorem d_TS_need_9 : decode prog_1_method_3_code 9 = .ok (.iload_n 3, 1) := by decide +kernel
theorem d_TS_need_10 : decode prog_1_method_3_code 10 = .ok (.invokevirtual 39, 3) := by decide +kernel
theorem d_TS_need_13 : decode prog_1_method_3_code 13 = .ok (.ifCond .ne 13, 3) := by decide +kernel
theorem d_TS_need_16 : decode prog_1_method_3_code 16 = .ok (.new 43, 3) := by decide +kernel
theorem d_TS_need_19 : decode prog_1_method_3_code 19 = .ok (.dup, 1) := by decide +kernel
theorem d_TS_need_20 : decode prog_1_method_3_code 20 = .ok (.ldc 45, 2) := by decide +kernel
theorem d_TS_need_22 : decode prog_1_method_3_code 22 = .ok (.invokespecial 47, 3) := by decide +kernel
theorem d_TS_need_25 : decode prog_1_method_3_code 25 = .ok (.athrow, 1) := by decide +kernel
theorem d_TS_need_26 : decode prog_1_method_3_code 26 = .ok (.iload_n 2, 1) := by decide +kernel
theorem d_TS_need_27 : decode prog_1_method_3_code 27 = .ok (.invokestatic 82, 3) := by decide +kernel
theorem d_TS_need_30 : decode prog_1_method_3_code 30 = .ok (.ifCond .eq 19, 3) := by decide +kernel
theorem d_TS_need_33 : decode prog_1_method_3_code 33 = .ok (.iload 4, 2) := by decide +kernel
theorem d_TS_need_35 : decode prog_1_method_3_code 35 = .ok (.iconst 1, 1) := by decide +kernel
theorem d_TS_need_36 : decode prog_1_method_3_code 36 = .ok (.bipush 20, 2) := by decide +kernel
theorem d_TS_need_38 : decode prog_1_method_3_code 38 = .ok (.invokestatic 50, 3) := by decide +kernel
theorem d_TS_need_41 : decode prog_1_method_3_code 41 = .ok (.ifCond .eq 8, 3) := by decide +kernel
theorem d_TS_need_44 : decode prog_1_method_3_code 44 = .ok (.iload_n 3, 1) := by decide +kernel
theorem d_TS_need_45 : decode prog_1_method_3_code 45 = .ok (.iload_n 1, 1) := by decide +kernel
theorem d_TS_need_46 : decode prog_1_method_3_code 46 = .ok (.if_icmp .ne 13, 3) := by decide +kernel
theorem d_TS_need_49 : decode prog_1_method_3_code 49 = .ok (.new 58, 3) := by decide +kernel
theorem d_TS_need_52 : decode prog_1_method_3_code 52 = .ok (.dup, 1) := by decide +kernel
theorem d_TS_need_53 : decode prog_1_method_3_code 53 = .ok (.ldc 85, 2) := by decide +kernel
theorem d_TS_need_55 : decode prog_1_method_3_code 55 = .ok (.invokespecial 62, 3) := by decide +kernel
theorem d_TS_need_58 : decode prog_1_method_3_code 58 = .ok (.athrow, 1) := by decide +kernel
theorem d_TS_need_59 : decode prog_1_method_3_code 59 = .ok (.aload_n 0, 1) := by decide +kernel
theorem d_TS_need_60 : decode prog_1_method_3_code 60 = .ok (.getfield 18, 3) := by decide +kernel
theorem d_TS_need_63 : decode prog_1_method_3_code 63 = .ok (.getfield 73, 3) := by decide +kernel
theorem d_TS_need_66 : decode prog_1_method_3_code 66 = .ok (.getfield 77, 3) := by decide +kernel
theorem d_TS_need_69 : decode prog_1_method_3_code 69 = .ok (.iload_n 1, 1) := by decide +kernel
theorem d_TS_need_70 : decode prog_1_method_3_code 70 = .ok (.iaload, 1) := by decide +kernel
theorem d_TS_need_71 : decode prog_1_method_3_code 71 = .ok (.bipush 6, 2) := by decide +kernel
theorem d_TS_need_73 : decode prog_1_method_3_code 73 = .ok (.if_icmp .lt 13, 3) := by decide +kernel
theorem d_TS_need_76 : decode prog_1_method_3_code 76 = .ok (.new 87, 3) := by decide +kernel
theorem d_TS_need_79 : decode prog_1_method_3_code 79 = .ok (.dup, 1) := by decide +kernel
theorem d_TS_need_80 : decode prog_1_method_3_code 80 = .ok (.ldc 89, 2) := by decide +kernel
theorem d_TS_need_82 : decode prog_1_method_3_code 82 = .ok (.invokespecial 91, 3) := by decide +kernel
theorem d_TS_need_85 : decode prog_1_method_3_code 85 = .ok (.athrow, 1) := by decide +kernel
theorem d_TS_need_86 : decode prog_1_method_3_code 86 = .ok (.aload_n 0, 1) := by decide +kernel
theorem d_TS_need_87 : decode prog_1_method_3_code 87 = .ok (.getfield 18, 3) := by decide +kernel
theorem d_TS_need_90 : decode prog_1_method_3_code 90 = .ok (.getfield 73, 3) := by decide +kernel
theorem d_TS_need_93 : decode prog_1_method_3_code 93 = .ok (.iload_n 1, 1) := by decide +kernel
theorem d_TS_need_94 : decode prog_1_method_3_code 94 = .ok (.iload_n 2, 1) := by decide +kernel
theorem d_TS_need_95 : decode prog_1_method_3_code 95 = .ok (.iload_n 3, 1) := by decide +kernel
theorem d_TS_need_96 : decode prog_1_method_3_code 96 = .ok (.iload 4, 2) := by decide +kernel
theorem d_TS_need_98 : decode prog_1_method_3_code 98 = .ok (.invokevirtual 92, 3) := by decide +kernel
theorem d_TS_need_101 : decode prog_1_method_3_code 101 = .ok (.ireturn, 1) := by decide +kernel
theorem d_TS_free_0 : decode prog_1_method_4_code 0 = .ok (.aload_n 0, 1) := by decide +kernel
theorem d_TS_free_1 : decode prog_1_method_4_code 1 = .ok (.iload_n 1, 1) := by decide +kernel
theorem d_TS_free_2 : decode prog_1_method_4_code 2 = .ok (.invokevirtual 39, 3) := by decide +kernel
theorem d_TS_free_5 : decode prog_1_method_4_code 5 = .ok (.ifCond .ne 13, 3) := by decide +kernel
theorem d_TS_free_8 : decode prog_1_method_4_code 8 = .ok (.new 43, 3) := by decide +kernel
theorem d_TS_free_11 : decode prog_1_method_4_code 11 = .ok (.dup, 1) := by decide +kernel
theorem d_TS_free_12 : decode prog_1_method_4_code 12 = .ok (.ldc 45, 2) := by decide +kernel
theorem d_TS_free_14 : decode prog_1_method_4_code 14 = .ok (.invokespecial 47, 3) := by decide +kernel
theorem d_TS_free_17 : decode prog_1_method_4_code 17 = .ok (.athrow, 1) := by decide +kernel
theorem d_TS_free_18 : decode prog_1_method_4_code 18 = .ok (.aload_n 0, 1) := by decide +kernel
theorem d_TS_free_19 : decode prog_1_method_4_code 19 = .ok (.getfield 18, 3) := by decide +kernel
theorem d_TS_free_22 : decode prog_1_method_4_code 22 = .ok (.getfield 73, 3) := by decide +kernel
theorem d_TS_free_25 : decode prog_1_method_4_code 25 = .ok (.getfield 77, 3) := by decide +kernel
theorem d_TS_free_28 : decode prog_1_method_4_code 28 = .ok (.iload_n 1, 1) := by decide +kernel
theorem d_TS_free_29 : decode prog_1_method_4_code 29 = .ok (.iaload, 1) := by decide +kernel
theorem d_TS_free_30 : decode prog_1_method_4_code 30 = .ok (.istore_n 2, 1) := by decide +kernel
theorem d_TS_free_31 : decode prog_1_method_4_code 31 = .ok (.aload_n 0, 1) := by decide +kernel
theorem d_TS_free_32 : decode prog_1_method_4_code 32 = .ok (.getfield 18, 3) := by decide +kernel
theorem d_TS_free_35 : decode prog_1_method_4_code 35 = .ok (.getfield 73, 3) := by decide +kernel
theorem d_TS_free_38 : decode prog_1_method_4_code 38 = .ok (.getfield 77, 3) := by decide +kernel
theorem d_TS_free_41 : decode prog_1_method_4_code 41 = .ok (.iload_n 1, 1) := by decide +kernel
theorem d_TS_free_42 : decode prog_1_method_4_code 42 = .ok (.iconst 0, 1) := by decide +kernel
theorem d_TS_free_43 : decode prog_1_method_4_code 43 = .ok (.iastore, 1) := by decide +kernel
theorem d_TS_free_44 : decode prog_1_method_4_code 44 = .ok (.iload_n 2, 1) := by decide +kernel
theorem d_TS_free_45 : decode prog_1_method_4_code 45 = .ok (.ireturn, 1) := by decide +kernel
theorem d_TS_failing_0 : decode prog_1_method_5_code 0 = .ok (.aload_n 0, 1) := by decide +kernel
theorem d_TS_failing_1 : decode prog_1_method_5_code 1 = .ok (.iload_n 2, 1) := by decide +kernel
theorem d_TS_failing_2 : decode prog_1_method_5_code 2 = .ok (.invokevirtual 39, 3) := by decide +kernel
theorem d_TS_failing_5 : decode prog_1_method_5_code 5 = .ok (.ifCond .ne 13, 3) := by decide +kernel
theorem d_TS_failing_8 : decode prog_1_method_5_code 8 = .ok (.new 43, 3) := by decide +kernel
theorem d_TS_failing_11 : decode prog_1_method_5_code 11 = .ok (.dup, 1) := by decide +kernel
theorem d_TS_failing_12 : decode prog_1_method_5_code 12 = .ok (.ldc 45, 2) := by decide +kernel
theorem d_TS_failing_14 : decode prog_1_method_5_code 14 = .ok (.invokespecial 47, 3) := by decide +kernel
theorem d_TS_failing_17 : decode prog_1_method_5_code 17 = .ok (.athrow, 1) := by decide +kernel
theorem d_TS_failing_18 : decode prog_1_method_5_code 18 = .ok (.iload_n 1, 1) := by decide +kernel
theorem d_TS_failing_19 : decode prog_1_method_5_code 19 = .ok (.iconst 0, 1) := by decide +kernel
theorem d_TS_failing_20 : decode prog_1_method_5_code 20 = .ok (.bipush 15, 2) := by decide +kernel
theorem d_TS_failing_22 : decode prog_1_method_5_code 22 = .ok (.invokestatic 50, 3) := by decide +kernel
theorem d_TS_failing_25 : decode prog_1_method_5_code 25 = .ok (.ifCond .eq 21, 3) := by decide +kernel
theorem d_TS_failing_28 : decode prog_1_method_5_code 28 = .ok (.iload_n 3, 1) := by decide +kernel
theorem d_TS_failing_29 : decode prog_1_method_5_code 29 = .ok (.invokestatic 82, 3) := by decide +kernel
theorem d_TS_failing_32 : decode prog_1_method_5_code 32 = .ok (.ifCond .eq 14, 3) := by decide +kernel
theorem d_TS_failing_35 : decode prog_1_method_5_code 35 = .ok (.iload 4, 2) := by decide +kernel
theorem d_TS_failing_37 : decode prog_1_method_5_code 37 = .ok (.iconst 1, 1) := by decide +kernel
theorem d_TS_failing_38 : decode prog_1_method_5_code 38 = .ok (.bipush 9, 2) := by decide +kernel
theorem d_TS_failing_40 : decode prog_1_method_5_code 40 = .ok (.invokestatic 50, 3) := by decide +kernel
theorem d_TS_failing_43 : decode prog_1_method_5_code 43 = .ok (.ifCond .ne 13, 3) := by decide +kernel
theorem d_TS_failing_46 : decode prog_1_method_5_code 46 = .ok (.new 58, 3) := by decide +kernel
theorem d_TS_failing_49 : decode prog_1_method_5_code 49 = .ok (.dup, 1) := by decide +kernel
theorem d_TS_failing_50 : decode prog_1_method_5_code 50 = .ok (.ldc 96, 2) := by decide +kernel
theorem d_TS_failing_52 : decode prog_1_method_5_code 52 = .ok (.invokespecial 62, 3) := by decide +kernel
theorem d_TS_failing_55 : decode prog_1_method_5_code 55 = .ok (.athrow, 1) := by decide +kernel
theorem d_TS_failing_56 : decode prog_1_method_5_code 56 = .ok (.aload_n 0, 1) := by decide +kernel
theorem d_TS_failing_57 : decode prog_1_method_5_code 57 = .ok (.getfield 18, 3) := by decide +kernel
theorem d_TS_failing_60 : decode prog_1_method_5_code 60 = .ok (.getfield 98, 3) := by decide +kernel
theorem d_TS_failing_63 : decode prog_1_method_5_code 63 = .ok (.getfield 102, 3) := by decide +kernel
theorem d_TS_failing_66 : decode prog_1_method_5_code 66 = .ok (.bipush 8, 2) := by decide +kernel
theorem d_TS_failing_68 : decode prog_1_method_5_code 68 = .ok (.if_icmp .lt 13, 3) := by decide +kernel
theorem d_TS_failing_71 : decode prog_1_method_5_code 71 = .ok (.new 87, 3) := by decide +kernel
theorem d_TS_failing_74 : decode prog_1_method_5_code 74 = .ok (.dup, 1) := by decide +kernel
theorem d_TS_failing_75 : decode prog_1_method_5_code 75 = .ok (.ldc 106, 2) := by decide +kernel
theorem d_TS_failing_77 : decode prog_1_method_5_code 77 = .ok (.invokespecial 91, 3) := by decide +kernel
theorem d_TS_failing_80 : decode prog_1_method_5_code 80 = .ok (.athrow, 1) := by decide +kernel
theorem d_TS_failing_81 : decode prog_1_method_5_code 81 = .ok (.aload_n 0, 1) := by decide +kernel
theorem d_TS_failing_82 : decode prog_1_method_5_code 82 = .ok (.getfield 18, 3) := by decide +kernel
theorem d_TS_failing_85 : decode prog_1_method_5_code 85 = .ok (.getfield 98, 3) := by decide +kernel
theorem d_TS_failing_88 : decode prog_1_method_5_code 88 = .ok (.iload_n 1, 1) := by decide +kernel
theorem d_TS_failing_89 : decode prog_1_method_5_code 89 = .ok (.iload_n 2, 1) := by decide +kernel
theorem d_TS_failing_90 : decode prog_1_method_5_code 90 = .ok (.iload_n 3, 1) := by decide +kernel
theorem d_TS_failing_91 : decode prog_1_method_5_code 91 = .ok (.iload 4, 2) := by decide +kernel
theorem d_TS_failing_93 : decode prog_1_method_5_code 93 = .ok (.invokevirtual 108, 3) := by decide +kernel
theorem d_TS_failing_96 : decode prog_1_method_5_code 96 = .ok (.ireturn, 1) := by decide +kernel
theorem d_TS_stop_0 : decode prog_1_method_6_code 0 = .ok (.iload_n 1, 1) := by decide +kernel
theorem d_TS_stop_1 : decode prog_1_method_6_code 1 = .ok (.iconst (-1), 1) := by decide +kernel
theorem d_TS_stop_2 : decode prog_1_method_6_code 2 = .ok (.if_icmp .eq 21, 3) := by decide +kernel
theorem d_TS_stop_5 : decode prog_1_method_6_code 5 = .ok (.aload_n 0, 1) := by decide +kernel
theorem d_TS_stop_6 : decode prog_1_method_6_code 6 = .ok (.iload_n 1, 1) := by decide +kernel
theorem d_TS_stop_7 : decode prog_1_method_6_code 7 = .ok (.invokevirtual 39, 3) := by decide +kernel
theorem d_TS_stop_10 : decode prog_1_method_6_code 10 = .ok (.ifCond .ne 13, 3) := by decide +kernel
theorem d_TS_stop_13 : decode prog_1_method_6_code 13 = .ok (.new 43, 3) := by decide +kernel
theorem d_TS_stop_16 : decode prog_1_method_6_code 16 = .ok (.dup, 1) := by decide +kernel
theorem d_TS_stop_17 : decode prog_1_method_6_code 17 = .ok (.ldc 45, 2) := by decide +kernel
theorem d_TS_stop_19 : decode prog_1_method_6_code 19 = .ok (.invokespecial 47, 3) := by decide +kernel
theorem d_TS_stop_22 : decode prog_1_method_6_code 22 = .ok (.athrow, 1) := by decide +kernel
theorem d_TS_stop_23 : decode prog_1_method_6_code 23 = .ok (.aload_n 0, 1) := by decide +kernel
theorem d_TS_stop_24 : decode prog_1_method_6_code 24 = .ok (.getfield 18, 3) := by decide +kernel
theorem d_TS_stop_27 : decode prog_1_method_6_code 27 = .ok (.getfield 109, 3) := by decide +kernel
theorem d_TS_stop_30 : decode prog_1_method_6_code 30 = .ok (.istore_n 2, 1) := by decide +kernel
theorem d_TS_stop_31 : decode prog_1_method_6_code 31 = .ok (.aload_n 0, 1) := by decide +kernel
theorem d_TS_stop_32 : decode prog_1_method_6_code 32 = .ok (.getfield 18, 3) := by decide +kernel
theorem d_TS_stop_35 : decode prog_1_method_6_code 35 = .ok (.iload_n 1, 1) := by decide +kernel
theorem d_TS_stop_36 : decode prog_1_method_6_code 36 = .ok (.putfield 109, 3) := by decide +kernel
theorem d_TS_stop_39 : decode prog_1_method_6_code 39 = .ok (.iload_n 2, 1) := by decide +kernel
theorem d_TS_stop_40 : decode prog_1_method_6_code 40 = .ok (.ireturn, 1) := by decide +kernel
theorem d_TS_at_0 : decode prog_1_method_8_code 0 = .ok (.aload_n 0, 1) := by decide +kernel
theorem d_TS_at_1 : decode prog_1_method_8_code 1 = .ok (.iload_n 1, 1) := by decide +kernel
theorem d_TS_at_2 : decode prog_1_method_8_code 2 = .ok (.invokevirtual 39, 3) := by decide +kernel
theorem d_TS_at_5 : decode prog_1_method_8_code 5 = .ok (.ifCond .ne 13, 3) := by decide +kernel
theorem d_TS_at_8 : decode prog_1_method_8_code 8 = .ok (.new 43, 3) := by decide +kernel
theorem d_TS_at_11 : decode prog_1_method_8_code 11 = .ok (.dup, 1) := by decide +kernel
theorem d_TS_at_12 : decode prog_1_method_8_code 12 = .ok (.ldc 45, 2) := by decide +kernel
theorem d_TS_at_14 : decode prog_1_method_8_code 14 = .ok (.invokespecial 47, 3) := by decide +kernel
theorem d_TS_at_17 : decode prog_1_method_8_code 17 = .ok (.athrow, 1) := by decide +kernel
theorem d_TS_at_18 : decode prog_1_method_8_code 18 = .ok (.aload_n 0, 1) := by decide +kernel
theorem d_TS_at_19 : decode prog_1_method_8_code 19 = .ok (.getfield 31, 3) := by decide +kernel
theorem d_TS_at_22 : decode prog_1_method_8_code 22 = .ok (.iload_n 1, 1) := by decide +kernel
theorem d_TS_at_23 : decode prog_1_method_8_code 23 = .ok (.baload, 1) := by decide +kernel
theorem d_TS_at_24 : decode prog_1_method_8_code 24 = .ok (.ifCond .ne 13, 3) := by decide +kernel
theorem d_TS_at_27 : decode prog_1_method_8_code 27 = .ok (.new 121, 3) := by decide +kernel
theorem d_TS_at_30 : decode prog_1_method_8_code 30 = .ok (.dup, 1) := by decide +kernel
theorem d_TS_at_31 : decode prog_1_method_8_code 31 = .ok (.ldc 123, 2) := by decide +kernel
theorem d_TS_at_33 : decode prog_1_method_8_code 33 = .ok (.invokespecial 125, 3) := by decide +kernel
theorem d_TS_at_36 : decode prog_1_method_8_code 36 = .ok (.athrow, 1) := by decide +kernel
theorem d_TS_at_37 : decode prog_1_method_8_code 37 = .ok (.aload_n 0, 1) := by decide +kernel
theorem d_TS_at_38 : decode prog_1_method_8_code 38 = .ok (.getfield 35, 3) := by decide +kernel
theorem d_TS_at_41 : decode prog_1_method_8_code 41 = .ok (.iload_n 1, 1) := by decide +kernel
theorem d_TS_at_42 : decode prog_1_method_8_code 42 = .ok (.laload, 1) := by decide +kernel
theorem d_TS_at_43 : decode prog_1_method_8_code 43 = .ok (.lreturn, 1) := by decide +kernel
theorem d_TS_order_0 : decode prog_1_method_9_code 0 = .ok (.iload_n 1, 1) := by decide +kernel
theorem d_TS_order_1 : decode prog_1_method_9_code 1 = .ok (.iconst 0, 1) := by decide +kernel
theorem d_TS_order_2 : decode prog_1_method_9_code 2 = .ok (.aload_n 0, 1) := by decide +kernel
theorem d_TS_order_3 : decode prog_1_method_9_code 3 = .ok (.getfield 27, 3) := by decide +kernel
theorem d_TS_order_6 : decode prog_1_method_9_code 6 = .ok (.getfield 126, 3) := by decide +kernel
theorem d_TS_order_9 : decode prog_1_method_9_code 9 = .ok (.iconst 1, 1) := by decide +kernel
theorem d_TS_order_10 : decode prog_1_method_9_code 10 = .ok (.isub, 1) := by decide +kernel
theorem d_TS_order_11 : decode prog_1_method_9_code 11 = .ok (.invokestatic 50, 3) := by decide +kernel
theorem d_TS_order_14 : decode prog_1_method_9_code 14 = .ok (.ifCond .ne 13, 3) := by decide +kernel
theorem d_TS_order_17 : decode prog_1_method_9_code 17 = .ok (.new 43, 3) := by decide +kernel
theorem d_TS_order_20 : decode prog_1_method_9_code 20 = .ok (.dup, 1) := by decide +kernel
theorem d_TS_order_21 : decode prog_1_method_9_code 21 = .ok (.ldc 129, 2) := by decide +kernel
theorem d_TS_order_23 : decode prog_1_method_9_code 23 = .ok (.invokespecial 47, 3) := by decide +kernel
theorem d_TS_order_26 : decode prog_1_method_9_code 26 = .ok (.athrow, 1) := by decide +kernel
theorem d_TS_order_27 : decode prog_1_method_9_code 27 = .ok (.aload_n 0, 1) := by decide +kernel
theorem d_TS_order_28 : decode prog_1_method_9_code 28 = .ok (.getfield 27, 3) := by decide +kernel
theorem d_TS_order_31 : decode prog_1_method_9_code 31 = .ok (.getfield 131, 3) := by decide +kernel
theorem d_TS_order_34 : decode prog_1_method_9_code 34 = .ok (.iload_n 1, 1) := by decide +kernel
theorem d_TS_order_35 : decode prog_1_method_9_code 35 = .ok (.iaload, 1) := by decide +kernel
theorem d_TS_order_36 : decode prog_1_method_9_code 36 = .ok (.ireturn, 1) := by decide +kernel
theorem d_TS_begun_0 : decode prog_1_method_10_code 0 = .ok (.aload_n 0, 1) := by decide +kernel
theorem d_TS_begun_1 : decode prog_1_method_10_code 1 = .ok (.iload_n 1, 1) := by decide +kernel
theorem d_TS_begun_2 : decode prog_1_method_10_code 2 = .ok (.invokevirtual 39, 3) := by decide +kernel
theorem d_TS_begun_5 : decode prog_1_method_10_code 5 = .ok (.ifCond .ne 13, 3) := by decide +kernel
theorem d_TS_begun_8 : decode prog_1_method_10_code 8 = .ok (.new 43, 3) := by decide +kernel
theorem d_TS_begun_11 : decode prog_1_method_10_code 11 = .ok (.dup, 1) := by decide +kernel
theorem d_TS_begun_12 : decode prog_1_method_10_code 12 = .ok (.ldc 45, 2) := by decide +kernel
theorem d_TS_begun_14 : decode prog_1_method_10_code 14 = .ok (.invokespecial 47, 3) := by decide +kernel
theorem d_TS_begun_17 : decode prog_1_method_10_code 17 = .ok (.athrow, 1) := by decide +kernel
theorem d_TS_begun_18 : decode prog_1_method_10_code 18 = .ok (.aload_n 0, 1) := by decide +kernel
theorem d_TS_begun_19 : decode prog_1_method_10_code 19 = .ok (.getfield 27, 3) := by decide +kernel
theorem d_TS_begun_22 : decode prog_1_method_10_code 22 = .ok (.getfield 134, 3) := by decide +kernel
theorem d_TS_begun_25 : decode prog_1_method_10_code 25 = .ok (.iload_n 1, 1) := by decide +kernel
theorem d_TS_begun_26 : decode prog_1_method_10_code 26 = .ok (.iaload, 1) := by decide +kernel
theorem d_TS_begun_27 : decode prog_1_method_10_code 27 = .ok (.ireturn, 1) := by decide +kernel
theorem d_TS_waited_0 : decode prog_1_method_11_code 0 = .ok (.aload_n 0, 1) := by decide +kernel
theorem d_TS_waited_1 : decode prog_1_method_11_code 1 = .ok (.iload_n 1, 1) := by decide +kernel
theorem d_TS_waited_2 : decode prog_1_method_11_code 2 = .ok (.invokevirtual 39, 3) := by decide +kernel
theorem d_TS_waited_5 : decode prog_1_method_11_code 5 = .ok (.ifCond .eq 11, 3) := by decide +kernel
theorem d_TS_waited_8 : decode prog_1_method_11_code 8 = .ok (.aload_n 0, 1) := by decide +kernel
theorem d_TS_waited_9 : decode prog_1_method_11_code 9 = .ok (.iload_n 2, 1) := by decide +kernel
theorem d_TS_waited_10 : decode prog_1_method_11_code 10 = .ok (.invokevirtual 39, 3) := by decide +kernel
theorem d_TS_waited_13 : decode prog_1_method_11_code 13 = .ok (.ifCond .ne 13, 3) := by decide +kernel
theorem d_TS_waited_16 : decode prog_1_method_11_code 16 = .ok (.new 43, 3) := by decide +kernel
theorem d_TS_waited_19 : decode prog_1_method_11_code 19 = .ok (.dup, 1) := by decide +kernel
theorem d_TS_waited_20 : decode prog_1_method_11_code 20 = .ok (.ldc 45, 2) := by decide +kernel
theorem d_TS_waited_22 : decode prog_1_method_11_code 22 = .ok (.invokespecial 47, 3) := by decide +kernel
theorem d_TS_waited_25 : decode prog_1_method_11_code 25 = .ok (.athrow, 1) := by decide +kernel
theorem d_TS_waited_26 : decode prog_1_method_11_code 26 = .ok (.aload_n 0, 1) := by decide +kernel
theorem d_TS_waited_27 : decode prog_1_method_11_code 27 = .ok (.getfield 27, 3) := by decide +kernel
theorem d_TS_waited_30 : decode prog_1_method_11_code 30 = .ok (.getfield 137, 3) := by decide +kernel
theorem d_TS_waited_33 : decode prog_1_method_11_code 33 = .ok (.iload_n 1, 1) := by decide +kernel
theorem d_TS_waited_34 : decode prog_1_method_11_code 34 = .ok (.aaload, 1) := by decide +kernel
theorem d_TS_waited_35 : decode prog_1_method_11_code 35 = .ok (.iload_n 2, 1) := by decide +kernel
theorem d_TS_waited_36 : decode prog_1_method_11_code 36 = .ok (.iaload, 1) := by decide +kernel
theorem d_TS_waited_37 : decode prog_1_method_11_code 37 = .ok (.ireturn, 1) := by decide +kernel
theorem d_TS_run_0 : decode prog_1_method_7_code 0 = .ok (.iload_n 1, 1) := by decide +kernel
theorem d_TS_run_1 : decode prog_1_method_7_code 1 = .ok (.iconst 1, 1) := by decide +kernel
theorem d_TS_run_2 : decode prog_1_method_7_code 2 = .ok (.bipush 16, 2) := by decide +kernel
theorem d_TS_run_4 : decode prog_1_method_7_code 4 = .ok (.invokestatic 50, 3) := by decide +kernel
theorem d_TS_run_7 : decode prog_1_method_7_code 7 = .ok (.ifCond .ne 13, 3) := by decide +kernel
theorem d_TS_run_10 : decode prog_1_method_7_code 10 = .ok (.new 58, 3) := by decide +kernel
theorem d_TS_run_13 : decode prog_1_method_7_code 13 = .ok (.dup, 1) := by decide +kernel
theorem d_TS_run_14 : decode prog_1_method_7_code 14 = .ok (.ldc 112, 2) := by decide +kernel
theorem d_TS_run_16 : decode prog_1_method_7_code 16 = .ok (.invokespecial 62, 3) := by decide +kernel
theorem d_TS_run_19 : decode prog_1_method_7_code 19 = .ok (.athrow, 1) := by decide +kernel
theorem d_TS_run_20 : decode prog_1_method_7_code 20 = .ok (.aload_n 0, 1) := by decide +kernel
theorem d_TS_run_21 : decode prog_1_method_7_code 21 = .ok (.getfield 27, 3) := by decide +kernel
theorem d_TS_run_24 : decode prog_1_method_7_code 24 = .ok (.iload_n 1, 1) := by decide +kernel
theorem d_TS_run_25 : decode prog_1_method_7_code 25 = .ok (.lload_n 2, 1) := by decide +kernel
theorem d_TS_run_26 : decode prog_1_method_7_code 26 = .ok (.invokevirtual 114, 3) := by decide +kernel
theorem d_TS_run_29 : decode prog_1_method_7_code 29 = .ok (.istore 4, 2) := by decide +kernel
theorem d_TS_run_31 : decode prog_1_method_7_code 31 = .ok (.iload 4, 2) := by decide +kernel
theorem d_TS_run_33 : decode prog_1_method_7_code 33 = .ok (.ifCond .eq 9, 3) := by decide +kernel
theorem d_TS_run_36 : decode prog_1_method_7_code 36 = .ok (.iload 4, 2) := by decide +kernel
theorem d_TS_run_38 : decode prog_1_method_7_code 38 = .ok (.iconst 1, 1) := by decide +kernel
theorem d_TS_run_39 : decode prog_1_method_7_code 39 = .ok (.if_icmp .ne 7, 3) := by decide +kernel
theorem d_TS_run_42 : decode prog_1_method_7_code 42 = .ok (.aload_n 0, 1) := by decide +kernel
theorem d_TS_run_43 : decode prog_1_method_7_code 43 = .ok (.invokevirtual 118, 3) := by decide +kernel
theorem d_TS_run_46 : decode prog_1_method_7_code 46 = .ok (.iload 4, 2) := by decide +kernel
theorem d_TS_run_48 : decode prog_1_method_7_code 48 = .ok (.ireturn, 1) := by decide +kernel
theorem fl_TS_67 : zw_FL R_TS 67 5 3 := ⟨R_Plan, T_Plan, 8, rfl, by decide, ly_Plan, Or.inr ⟨"TileShares", (zw_in (List.mem_of_getElem? (i := 130) (by decide +kernel)) (by decide +kernel))⟩⟩
theorem fl_TS_70 : zw_FL R_TS 70 5 4 := ⟨R_Plan, T_Plan, 8, rfl, by decide, ly_Plan, Or.inr ⟨"TileShares", (zw_in (List.mem_of_getElem? (i := 134) (by decide +kernel)) (by decide +kernel))⟩⟩
theorem fl_TS_73 : zw_FL R_TS 73 5 5 := ⟨R_Plan, T_Plan, 8, rfl, by decide, ly_Plan, Or.inr ⟨"TileShares", (zw_in (List.mem_of_getElem? (i := 136) (by decide +kernel)) (by decide +kernel))⟩⟩
theorem fl_TS_77 : zw_FL R_TS 77 4 0 := ⟨R_Needs, T_Needs, 4, rfl, by decide, ly_Needs, Or.inr ⟨"TileShares", (zw_in (List.mem_of_getElem? (i := 74) (by decide +kernel)) (by decide +kernel))⟩⟩
theorem fl_TS_131 : zw_FL R_TS 131 0 7 := ⟨R_Course, T_Course, 15, rfl, by decide, ly_Course, Or.inr ⟨"TileShares", (zw_in (List.mem_of_getElem? (i := 218) (by decide +kernel)) (by decide +kernel))⟩⟩
theorem fl_TS_134 : zw_FL R_TS 134 0 5 := ⟨R_Course, T_Course, 15, rfl, by decide, ly_Course, Or.inr ⟨"TileShares", (zw_in (List.mem_of_getElem? (i := 214) (by decide +kernel)) (by decide +kernel))⟩⟩
theorem fl_TS_137 : zw_FL R_TS 137 0 6 := ⟨R_Course, T_Course, 15, rfl, by decide, ly_Course, Or.inr ⟨"TileShares", (zw_in (List.mem_of_getElem? (i := 216) (by decide +kernel)) (by decide +kernel))⟩⟩
theorem fp_TS_109 : zw_FP R_TS 109 5 7 (.int) false := ⟨R_Plan, T_Plan, 8, ty_Plan, rfl, by decide, ly_Plan, ty_Plan_ok, rfl, nm_Plan, rfl, Or.inr ⟨rfl, "TileShares", (zw_in (List.mem_of_getElem? (i := 143) (by decide +kernel)) (by decide +kernel))⟩⟩
theorem mv_TS_39 : zw_MV R_TS 39 Y_TS_isShare R_TS 1 := ⟨Or.inl (zw_in (List.mem_of_getElem? (i := 318) (by decide +kernel)) (by decide +kernel)), (zw_in (List.mem_of_getElem? (i := 320) (by decide +kernel)) (by decide +kernel)), (zw_in (List.mem_of_getElem? (i := 1) (by decide +kernel)) (by decide +kernel)), (zw_in (List.mem_of_getElem? (i := 321) (by decide +kernel)) (by decide +kernel)), (zw_in (List.mem_of_getElem? (i := 25) (by decide +kernel)) (by decide +kernel)), by decide +kernel, by decide +kernel⟩
theorem mv_TS_82 : zw_MS R_TS 82 Y_TS_isStep 1 := ⟨Or.inl (zw_in (List.mem_of_getElem? (i := 418) (by decide +kernel)) (by decide +kernel)), (zw_in (List.mem_of_getElem? (i := 419) (by decide +kernel)) (by decide +kernel)), (zw_in (List.mem_of_getElem? (i := 420) (by decide +kernel)) (by decide +kernel)), (zw_in (List.mem_of_getElem? (i := 25) (by decide +kernel)) (by decide +kernel)), by decide +kernel, by decide +kernel⟩
theorem mv_TS_92 : zw_MV R_TS 92 Y_Needs_add R_Needs 4 := ⟨Or.inl (zw_in (List.mem_of_getElem? (i := 438) (by decide +kernel)) (by decide +kernel)), (zw_in (List.mem_of_getElem? (i := 439) (by decide +kernel)) (by decide +kernel)), (zw_in (List.mem_of_getElem? (i := 440) (by decide +kernel)) (by decide +kernel)), (zw_in (List.mem_of_getElem? (i := 441) (by decide +kernel)) (by decide +kernel)), (zw_in (List.mem_of_getElem? (i := 28) (by decide +kernel)) (by decide +kernel)), by decide +kernel, by decide +kernel⟩
theorem mv_TS_108 : zw_MV R_TS 108 Y_Failings_add R_Failings 4 := ⟨Or.inl (zw_in (List.mem_of_getElem? (i := 458) (by decide +kernel)) (by decide +kernel)), (zw_in (List.mem_of_getElem? (i := 459) (by decide +kernel)) (by decide +kernel)), (zw_in (List.mem_of_getElem? (i := 460) (by decide +kernel)) (by decide +kernel)), (zw_in (List.mem_of_getElem? (i := 461) (by decide +kernel)) (by decide +kernel)), (zw_in (List.mem_of_getElem? (i := 29) (by decide +kernel)) (by decide +kernel)), by decide +kernel, by decide +kernel⟩
theorem mv_TS_114 : zw_MV R_TS 114 Y_Course_go R_Course 2 := ⟨Or.inl (zw_in (List.mem_of_getElem? (i := 477) (by decide +kernel)) (by decide +kernel)), (zw_in (List.mem_of_getElem? (i := 478) (by decide +kernel)) (by decide +kernel)), (zw_in (List.mem_of_getElem? (i := 479) (by decide +kernel)) (by decide +kernel)), (zw_in (List.mem_of_getElem? (i := 480) (by decide +kernel)) (by decide +kernel)), (zw_in (List.mem_of_getElem? (i := 30) (by decide +kernel)) (by decide +kernel)), by decide +kernel, by decide +kernel⟩
theorem mv_TS_118 : zw_MV R_TS 118 Y_TS_putValues R_TS 0 := ⟨Or.inl (zw_in (List.mem_of_getElem? (i := 557) (by decide +kernel)) (by decide +kernel)), (zw_in (List.mem_of_getElem? (i := 559) (by decide +kernel)) (by decide +kernel)), (zw_in (List.mem_of_getElem? (i := 12) (by decide +kernel)) (by decide +kernel)), (zw_in (List.mem_of_getElem? (i := 560) (by decide +kernel)) (by decide +kernel)), (zw_in (List.mem_of_getElem? (i := 25) (by decide +kernel)) (by decide +kernel)), by decide +kernel, by decide +kernel⟩
theorem xt_121_123 : zx_T "java/lang/IllegalStateException" 121 123 125 "the share has no value" := ⟨by decide +kernel, by decide +kernel, (zw_in (List.mem_of_getElem? (i := 570) (by decide +kernel)) (by decide +kernel)), (zw_in (List.mem_of_getElem? (i := 40) (by decide +kernel)) (by decide +kernel)), (zw_in (List.mem_of_getElem? (i := 571) (by decide +kernel)) (by decide +kernel)), by decide +kernel⟩
theorem xt_43_129 : zx_T "java/lang/IndexOutOfBoundsException" 43 129 47 "there is no such place" := ⟨by decide +kernel, by decide +kernel, (zw_in (List.mem_of_getElem? (i := 325) (by decide +kernel)) (by decide +kernel)), (zw_in (List.mem_of_getElem? (i := 37) (by decide +kernel)) (by decide +kernel)), (zw_in (List.mem_of_getElem? (i := 326) (by decide +kernel)) (by decide +kernel)), by decide +kernel⟩
theorem xt_43_45 : zx_T "java/lang/IndexOutOfBoundsException" 43 45 47 "there is no such share" := ⟨by decide +kernel, by decide +kernel, (zw_in (List.mem_of_getElem? (i := 325) (by decide +kernel)) (by decide +kernel)), (zw_in (List.mem_of_getElem? (i := 37) (by decide +kernel)) (by decide +kernel)), (zw_in (List.mem_of_getElem? (i := 326) (by decide +kernel)) (by decide +kernel)), by decide +kernel⟩
theorem xt_58_112 : zx_T "java/lang/IllegalArgumentException" 58 112 62 "workers" := ⟨by decide +kernel, by decide +kernel, (zw_in (List.mem_of_getElem? (i := 394) (by decide +kernel)) (by decide +kernel)), (zw_in (List.mem_of_getElem? (i := 38) (by decide +kernel)) (by decide +kernel)), (zw_in (List.mem_of_getElem? (i := 395) (by decide +kernel)) (by decide +kernel)), by decide +kernel⟩
theorem xt_58_60 : zx_T "java/lang/IllegalArgumentException" 58 60 62 "steps or cells" := ⟨by decide +kernel, by decide +kernel, (zw_in (List.mem_of_getElem? (i := 394) (by decide +kernel)) (by decide +kernel)), (zw_in (List.mem_of_getElem? (i := 38) (by decide +kernel)) (by decide +kernel)), (zw_in (List.mem_of_getElem? (i := 395) (by decide +kernel)) (by decide +kernel)), by decide +kernel⟩
theorem xt_58_85 : zx_T "java/lang/IllegalArgumentException" 58 85 62 "s, m, or the share itself" := ⟨by decide +kernel, by decide +kernel, (zw_in (List.mem_of_getElem? (i := 394) (by decide +kernel)) (by decide +kernel)), (zw_in (List.mem_of_getElem? (i := 38) (by decide +kernel)) (by decide +kernel)), (zw_in (List.mem_of_getElem? (i := 395) (by decide +kernel)) (by decide +kernel)), by decide +kernel⟩
theorem xt_58_96 : zx_T "java/lang/IllegalArgumentException" 58 96 62 "worker, s or times" := ⟨by decide +kernel, by decide +kernel, (zw_in (List.mem_of_getElem? (i := 394) (by decide +kernel)) (by decide +kernel)), (zw_in (List.mem_of_getElem? (i := 38) (by decide +kernel)) (by decide +kernel)), (zw_in (List.mem_of_getElem? (i := 395) (by decide +kernel)) (by decide +kernel)), by decide +kernel⟩
theorem xt_87_106 : zx_T "java/lang/UnsupportedOperationException" 87 106 91 "there are all failings" := ⟨by decide +kernel, by decide +kernel, (zw_in (List.mem_of_getElem? (i := 422) (by decide +kernel)) (by decide +kernel)), (zw_in (List.mem_of_getElem? (i := 39) (by decide +kernel)) (by decide +kernel)), (zw_in (List.mem_of_getElem? (i := 423) (by decide +kernel)) (by decide +kernel)), by decide +kernel⟩
theorem xt_87_89 : zx_T "java/lang/UnsupportedOperationException" 87 89 91 "the share has all its needs" := ⟨by decide +kernel, by decide +kernel, (zw_in (List.mem_of_getElem? (i := 422) (by decide +kernel)) (by decide +kernel)), (zw_in (List.mem_of_getElem? (i := 39) (by decide +kernel)) (by decide +kernel)), (zw_in (List.mem_of_getElem? (i := 423) (by decide +kernel)) (by decide +kernel)), by decide +kernel⟩
set_option maxHeartbeats 4000000 in
set_option maxRecDepth 100000 in
theorem c_TS_share {l : Launch} (hTr : l.stackTraces = false) {D : va_G} {cA : Nat → ClassId} {ad : Nat → Nat} {sh : zw_Sh} {n : Nat} (hn : n ≤ 16) (hs : ∀ (k : Nat) (q : zw_Sp), shX n k = some q → sh k = some q) {b : Nat} (z : Nat) (hA : ∀ q, zw_A ad sh z q → b ≤ q) (mi : zw_I) (ml : zw_L) (x : Int32) (st : Int32) (ce : Int32) (t : Int64) (h1 : ∀ x : Int32, ¬ p_isShare mi x = 0 → vp_in x n) :
    zx_M l D cA Y_TS_share 6 b ad sh z [.ref (ad 0), .int x, .int st, .int ce, .long t] mi ml (p_share mi ml x st ce t) := by
  refine zx_enter (own := R_TS) (by decide) rfl (Nat.le_of_ble_eq_true rfl) ?_
  intro p e s m below meth c X hr hlocks hB Zx Zz hno ls hl
  have X : zw_C D cA R_TS prog_1_method_2_code 6 p m c s := X
  have hr : meth.sig.returnType = (some FieldType.int) := hr
  have hx := X.1
  have hb := X.2.1
  have hl : lv_has ls 6 [(0, .ref (ad 0)), (1, .int x), (2, .int st), (3, .int ce), (4, .long t)] := hl
  unfold p_share
  refine lv_aload_n hx hb d_TS_share_0 rfl (lv_at hl 0 rfl) ?_
  refine lv_iload_n hx hb d_TS_share_1 rfl (lv_at hl 1 rfl) ?_
  refine zw_callVr X hB mv_TS_39 0 (hs 0 _ rfl) rfl (c_TS_isShare hn hs z mi ml x) rfl hl.1 ⟨Nat.le_of_ble_eq_true rfl, Nat.le_of_ble_eq_true rfl⟩ rfl (Nat.le_of_ble_eq_true rfl) ⟨Nat.le_of_ble_eq_true rfl, Nat.le_of_ble_eq_true rfl⟩ d_TS_share_2 (fun H locs hB => ?_)
  refine lv_if_ne (tgt := 18) hx hb d_TS_share_5 (by decide) (fun c_5 => ?_) (fun c_5 => ?_)
  · rw [if_neg c_5]
    refine lv_iload_n hx hb d_TS_share_18 rfl (lv_at hl 2 rfl) ?_
    refine lv_iconst (v := 1) hx hb d_TS_share_19 (by decide) ?_
    refine lv_bipush (v := 20) hx hb d_TS_share_20 (by decide) ?_
    refine zw_callSr X hB mv_TS_50 (c_TS_isWithin hn hs z mi ml st 1 20) rfl hl.1 ⟨Nat.le_of_ble_eq_true rfl, Nat.le_of_ble_eq_true rfl⟩ rfl (Nat.le_of_ble_eq_true rfl) ⟨Nat.le_of_ble_eq_true rfl, Nat.le_of_ble_eq_true rfl⟩ d_TS_share_22 (fun H locs hB => ?_)
    refine lv_if_eq (tgt := 43) hx hb d_TS_share_25 (by decide) (fun c_25 => ?_) (fun c_25 => ?_)
    · rw [if_pos c_25]
      exact zx_throw X hTr Zx Zz hA hB hno hlocks hl.1 xt_58_60 ⟨Nat.le_of_ble_eq_true rfl, Nat.le_of_ble_eq_true rfl, Nat.le_of_ble_eq_true rfl, Nat.le_of_ble_eq_true rfl⟩ rfl rfl rfl rfl rfl d_TS_share_43 d_TS_share_46 d_TS_share_47 d_TS_share_49 d_TS_share_52
    · rw [if_neg c_25]
      refine lv_iload_n hx hb d_TS_share_28 rfl (lv_at hl 3 rfl) ?_
      refine lv_iconst (v := 1) hx hb d_TS_share_29 (by decide) ?_
      refine lv_aload_n hx hb d_TS_share_30 rfl (lv_at hl 0 rfl) ?_
      refine zw_getR X hB fl_TS_18 0 (hs 0 _ rfl) rfl d_TS_share_31 ?_
      refine zw_getI X hB fl_TS_54 1 (hs 1 _ rfl) rfl d_TS_share_34 ?_
      refine zw_callSr X hB mv_TS_50 (c_TS_isWithin hn hs z mi ml ce 1 (mi 1 1)) rfl hl.1 ⟨Nat.le_of_ble_eq_true rfl, Nat.le_of_ble_eq_true rfl⟩ rfl (Nat.le_of_ble_eq_true rfl) ⟨Nat.le_of_ble_eq_true rfl, Nat.le_of_ble_eq_true rfl⟩ d_TS_share_37 (fun H locs hB => ?_)
      refine lv_if_ne (tgt := 53) hx hb d_TS_share_40 (by decide) (fun c_40 => ?_) (fun c_40 => ?_)
      · rw [if_neg c_40]
        refine lv_aload_n hx hb d_TS_share_53 rfl (lv_at hl 0 rfl) ?_
        refine zw_getR X hB fl_TS_18 0 (hs 0 _ rfl) rfl d_TS_share_54 ?_
        refine zw_getR X hB fl_TS_63 1 (hs 1 _ rfl) rfl d_TS_share_57 ?_
        refine lv_iload_n hx hb d_TS_share_60 rfl (lv_at hl 1 rfl) ?_
        refine lv_iload_n hx hb d_TS_share_61 rfl (lv_at hl 2 rfl) ?_
        refine zw_iast X hB 7 (hs 7 _ rfl) (h1 _ c_5) d_TS_share_62 (fun H locs hB => ?_)
        obtain ⟨mi_1, emi_1⟩ : ∃ y, y = zw_up mi 7 x.toNatClampNeg st := ⟨_, rfl⟩
        rw [← emi_1] at hB
        refine lv_aload_n hx hb d_TS_share_63 rfl (lv_at hl 0 rfl) ?_
        refine zw_getR X hB fl_TS_18 0 (hs 0 _ rfl) rfl d_TS_share_64 ?_
        refine zw_getR X hB fl_TS_67 1 (hs 1 _ rfl) rfl d_TS_share_67 ?_
        refine lv_iload_n hx hb d_TS_share_70 rfl (lv_at hl 1 rfl) ?_
        refine lv_iload_n hx hb d_TS_share_71 rfl (lv_at hl 3 rfl) ?_
        refine zw_iast X hB 8 (hs 8 _ rfl) (h1 _ c_5) d_TS_share_72 (fun H locs hB => ?_)
        obtain ⟨mi_2, emi_2⟩ : ∃ y, y = zw_up mi_1 8 x.toNatClampNeg ce := ⟨_, rfl⟩
        rw [← emi_2] at hB
        refine lv_aload_n hx hb d_TS_share_73 rfl (lv_at hl 0 rfl) ?_
        refine zw_getR X hB fl_TS_18 0 (hs 0 _ rfl) rfl d_TS_share_74 ?_
        refine zw_getR X hB fl_TS_70 1 (hs 1 _ rfl) rfl d_TS_share_77 ?_
        refine lv_iload_n hx hb d_TS_share_80 rfl (lv_at hl 1 rfl) ?_
        refine lv_lload hx hb d_TS_share_81 (lv_at hl 4 rfl) ?_
        refine zw_last X hB 9 (hs 9 _ rfl) (h1 _ c_5) d_TS_share_83 (fun H locs hB => ?_)
        obtain ⟨ml_3, eml_3⟩ : ∃ y, y = zw_up ml 9 x.toNatClampNeg t := ⟨_, rfl⟩
        rw [← eml_3] at hB
        refine lv_aload_n hx hb d_TS_share_84 rfl (lv_at hl 0 rfl) ?_
        refine zw_getR X hB fl_TS_18 0 (hs 0 _ rfl) rfl d_TS_share_85 ?_
        refine zw_getR X hB fl_TS_73 1 (hs 1 _ rfl) rfl d_TS_share_88 ?_
        refine zw_getR X hB fl_TS_77 2 (hs 2 _ rfl) rfl d_TS_share_91 ?_
        refine lv_iload_n hx hb d_TS_share_94 rfl (lv_at hl 1 rfl) ?_
        refine zw_iald X hB 10 (hs 10 _ rfl) (h1 _ c_5) d_TS_share_95 ?_
        exact zx_ret (by decide) (by decide) (zc_iret X hr hlocks hB (by subst eml_3; subst emi_2; subst emi_1; rfl) (by subst eml_3; subst emi_2; subst emi_1; rfl) (by subst eml_3; subst emi_2; subst emi_1; rfl) d_TS_share_96)
      · rw [if_pos c_40]
        exact zx_throw X hTr Zx Zz hA hB hno hlocks hl.1 xt_58_60 ⟨Nat.le_of_ble_eq_true rfl, Nat.le_of_ble_eq_true rfl, Nat.le_of_ble_eq_true rfl, Nat.le_of_ble_eq_true rfl⟩ rfl rfl rfl rfl rfl d_TS_share_43 d_TS_share_46 d_TS_share_47 d_TS_share_49 d_TS_share_52
  · rw [if_pos c_5]
    exact zx_throw X hTr Zx Zz hA hB hno hlocks hl.1 xt_43_45 ⟨Nat.le_of_ble_eq_true rfl, Nat.le_of_ble_eq_true rfl, Nat.le_of_ble_eq_true rfl, Nat.le_of_ble_eq_true rfl⟩ rfl rfl rfl rfl rfl d_TS_share_8 d_TS_share_11 d_TS_share_12 d_TS_share_14 d_TS_share_17

set_option maxHeartbeats 4000000 in
set_option maxRecDepth 100000 in
theorem c_TS_need {l : Launch} (hTr : l.stackTraces = false) {D : va_G} {cA : Nat → ClassId} {ad : Nat → Nat} {sh : zw_Sh} {n : Nat} (hn : n ≤ 16) (hs : ∀ (k : Nat) (q : zw_Sp), shX n k = some q → sh k = some q) {b : Nat} (z : Nat) (hA : ∀ q, zw_A ad sh z q → b ≤ q) (mi : zw_I) (ml : zw_L) (x : Int32) (s0 : Int32) (o : Int32) (m0 : Int32) (h1 : ∀ x : Int32, ¬ p_isShare mi x = 0 → vp_in x n) (h2 : ¬ p_isShare mi x = 0 → mi 10 x.toNatClampNeg < 6 → vp_in (mi 10 x.toNatClampNeg) 6) :
    zx_M l D cA Y_TS_need 6 b ad sh z [.ref (ad 0), .int x, .int s0, .int o, .int m0] mi ml (p_need mi ml x s0 o m0) := by
  refine zx_enter (own := R_TS) (by decide) rfl (Nat.le_of_ble_eq_true rfl) ?_
  intro p e s m below meth c X hr hlocks hB Zx Zz hno ls hl
  have X : zw_C D cA R_TS prog_1_method_3_code 5 p m c s := X
  have hr : meth.sig.returnType = (some FieldType.int) := hr
  have hx := X.1
  have hb := X.2.1
  have hl : lv_has ls 5 [(0, .ref (ad 0)), (1, .int x), (2, .int s0), (3, .int o), (4, .int m0)] := hl
  unfold p_need
  refine lv_aload_n hx hb d_TS_need_0 rfl (lv_at hl 0 rfl) ?_
  refine lv_iload_n hx hb d_TS_need_1 rfl (lv_at hl 1 rfl) ?_
  refine zw_callVr X hB mv_TS_39 0 (hs 0 _ rfl) rfl (c_TS_isShare hn hs z mi ml x) rfl hl.1 ⟨Nat.le_of_ble_eq_true rfl, Nat.le_of_ble_eq_true rfl⟩ rfl (Nat.le_of_ble_eq_true rfl) ⟨Nat.le_of_ble_eq_true rfl, Nat.le_of_ble_eq_true rfl⟩ d_TS_need_2 (fun H locs hB => ?_)
  refine lv_if_eq (tgt := 16) hx hb d_TS_need_5 (by decide) (fun c_5 => ?_) (fun c_5 => ?_)
  · rw [if_pos c_5]
    exact zx_throw X hTr Zx Zz hA hB hno hlocks hl.1 xt_43_45 ⟨Nat.le_of_ble_eq_true rfl, Nat.le_of_ble_eq_true rfl, Nat.le_of_ble_eq_true rfl, Nat.le_of_ble_eq_true rfl⟩ rfl rfl rfl rfl rfl d_TS_need_16 d_TS_need_19 d_TS_need_20 d_TS_need_22 d_TS_need_25
  · rw [if_neg c_5]
    refine lv_aload_n hx hb d_TS_need_8 rfl (lv_at hl 0 rfl) ?_
    refine lv_iload_n hx hb d_TS_need_9 rfl (lv_at hl 3 rfl) ?_
    refine zw_callVr X hB mv_TS_39 0 (hs 0 _ rfl) rfl (c_TS_isShare hn hs z mi ml o) rfl hl.1 ⟨Nat.le_of_ble_eq_true rfl, Nat.le_of_ble_eq_true rfl⟩ rfl (Nat.le_of_ble_eq_true rfl) ⟨Nat.le_of_ble_eq_true rfl, Nat.le_of_ble_eq_true rfl⟩ d_TS_need_10 (fun H locs hB => ?_)
    refine lv_if_ne (tgt := 26) hx hb d_TS_need_13 (by decide) (fun c_13 => ?_) (fun c_13 => ?_)
    · rw [if_neg c_13]
      refine lv_iload_n hx hb d_TS_need_26 rfl (lv_at hl 2 rfl) ?_
      refine zw_callSr X hB mv_TS_82 (c_TS_isStep hn hs z mi ml s0) rfl hl.1 ⟨Nat.le_of_ble_eq_true rfl, Nat.le_of_ble_eq_true rfl⟩ rfl (Nat.le_of_ble_eq_true rfl) ⟨Nat.le_of_ble_eq_true rfl, Nat.le_of_ble_eq_true rfl⟩ d_TS_need_27 (fun H locs hB => ?_)
      refine lv_if_eq (tgt := 49) hx hb d_TS_need_30 (by decide) (fun c_30 => ?_) (fun c_30 => ?_)
      · rw [if_pos c_30]
        exact zx_throw X hTr Zx Zz hA hB hno hlocks hl.1 xt_58_85 ⟨Nat.le_of_ble_eq_true rfl, Nat.le_of_ble_eq_true rfl, Nat.le_of_ble_eq_true rfl, Nat.le_of_ble_eq_true rfl⟩ rfl rfl rfl rfl rfl d_TS_need_49 d_TS_need_52 d_TS_need_53 d_TS_need_55 d_TS_need_58
      · rw [if_neg c_30]
        refine lv_iload hx hb d_TS_need_33 (lv_at hl 4 rfl) ?_
        refine lv_iconst (v := 1) hx hb d_TS_need_35 (by decide) ?_
        refine lv_bipush (v := 20) hx hb d_TS_need_36 (by decide) ?_
        refine zw_callSr X hB mv_TS_50 (c_TS_isWithin hn hs z mi ml m0 1 20) rfl hl.1 ⟨Nat.le_of_ble_eq_true rfl, Nat.le_of_ble_eq_true rfl⟩ rfl (Nat.le_of_ble_eq_true rfl) ⟨Nat.le_of_ble_eq_true rfl, Nat.le_of_ble_eq_true rfl⟩ d_TS_need_38 (fun H locs hB => ?_)
        refine lv_if_eq (tgt := 49) hx hb d_TS_need_41 (by decide) (fun c_41 => ?_) (fun c_41 => ?_)
        · rw [if_pos c_41]
          exact zx_throw X hTr Zx Zz hA hB hno hlocks hl.1 xt_58_85 ⟨Nat.le_of_ble_eq_true rfl, Nat.le_of_ble_eq_true rfl, Nat.le_of_ble_eq_true rfl, Nat.le_of_ble_eq_true rfl⟩ rfl rfl rfl rfl rfl d_TS_need_49 d_TS_need_52 d_TS_need_53 d_TS_need_55 d_TS_need_58
        · rw [if_neg c_41]
          refine lv_iload_n hx hb d_TS_need_44 rfl (lv_at hl 3 rfl) ?_
          refine lv_iload_n hx hb d_TS_need_45 rfl (lv_at hl 1 rfl) ?_
          refine lv_icmp_ne (tgt := 59) hx hb d_TS_need_46 (by decide) (fun c_46 => ?_) (fun c_46 => ?_)
          · rw [if_neg c_46]
            refine lv_aload_n hx hb d_TS_need_59 rfl (lv_at hl 0 rfl) ?_
            refine zw_getR X hB fl_TS_18 0 (hs 0 _ rfl) rfl d_TS_need_60 ?_
            refine zw_getR X hB fl_TS_73 1 (hs 1 _ rfl) rfl d_TS_need_63 ?_
            refine zw_getR X hB fl_TS_77 2 (hs 2 _ rfl) rfl d_TS_need_66 ?_
            refine lv_iload_n hx hb d_TS_need_69 rfl (lv_at hl 1 rfl) ?_
            refine zw_iald X hB 10 (hs 10 _ rfl) (h1 _ c_5) d_TS_need_70 ?_
            refine lv_bipush (v := 6) hx hb d_TS_need_71 (by decide) ?_
            refine lv_icmp_lt (tgt := 86) hx hb d_TS_need_73 (by decide) (fun c_73 => ?_) (fun c_73 => ?_)
            · rw [if_pos c_73]
              refine lv_aload_n hx hb d_TS_need_86 rfl (lv_at hl 0 rfl) ?_
              refine zw_getR X hB fl_TS_18 0 (hs 0 _ rfl) rfl d_TS_need_87 ?_
              refine zw_getR X hB fl_TS_73 1 (hs 1 _ rfl) rfl d_TS_need_90 ?_
              refine lv_iload_n hx hb d_TS_need_93 rfl (lv_at hl 1 rfl) ?_
              refine lv_iload_n hx hb d_TS_need_94 rfl (lv_at hl 2 rfl) ?_
              refine lv_iload_n hx hb d_TS_need_95 rfl (lv_at hl 3 rfl) ?_
              refine lv_iload hx hb d_TS_need_96 (lv_at hl 4 rfl) ?_
              refine zw_callVr X hB mv_TS_92 2 (hs 2 _ rfl) rfl (c_Needs_add hn hs z mi ml x s0 o m0 (h1 _ c_5) (h2 c_5 c_73)) rfl hl.1 ⟨Nat.le_of_ble_eq_true rfl, Nat.le_of_ble_eq_true rfl⟩ rfl (Nat.le_of_ble_eq_true rfl) ⟨Nat.le_of_ble_eq_true rfl, Nat.le_of_ble_eq_true rfl⟩ d_TS_need_98 (fun H locs hB => ?_)
              obtain ⟨mi_1, emi_1⟩ : ∃ y, y = p_nadd x s0 o m0 mi := ⟨_, rfl⟩
              rw [← emi_1] at hB
              exact zx_ret (by decide) (by decide) (zc_iret X hr hlocks hB (by subst emi_1; rfl) (by subst emi_1; rfl) (by subst emi_1; rfl) d_TS_need_101)
            · rw [if_neg c_73]
              exact zx_throw X hTr Zx Zz hA hB hno hlocks hl.1 xt_87_89 ⟨Nat.le_of_ble_eq_true rfl, Nat.le_of_ble_eq_true rfl, Nat.le_of_ble_eq_true rfl, Nat.le_of_ble_eq_true rfl⟩ rfl rfl rfl rfl rfl d_TS_need_76 d_TS_need_79 d_TS_need_80 d_TS_need_82 d_TS_need_85
          · rw [if_pos c_46]
            exact zx_throw X hTr Zx Zz hA hB hno hlocks hl.1 xt_58_85 ⟨Nat.le_of_ble_eq_true rfl, Nat.le_of_ble_eq_true rfl, Nat.le_of_ble_eq_true rfl, Nat.le_of_ble_eq_true rfl⟩ rfl rfl rfl rfl rfl d_TS_need_49 d_TS_need_52 d_TS_need_53 d_TS_need_55 d_TS_need_58
    · rw [if_pos c_13]
      exact zx_throw X hTr Zx Zz hA hB hno hlocks hl.1 xt_43_45 ⟨Nat.le_of_ble_eq_true rfl, Nat.le_of_ble_eq_true rfl, Nat.le_of_ble_eq_true rfl, Nat.le_of_ble_eq_true rfl⟩ rfl rfl rfl rfl rfl d_TS_need_16 d_TS_need_19 d_TS_need_20 d_TS_need_22 d_TS_need_25

set_option maxHeartbeats 4000000 in
set_option maxRecDepth 100000 in
theorem c_TS_free {l : Launch} (hTr : l.stackTraces = false) {D : va_G} {cA : Nat → ClassId} {ad : Nat → Nat} {sh : zw_Sh} {n : Nat} (hn : n ≤ 16) (hs : ∀ (k : Nat) (q : zw_Sp), shX n k = some q → sh k = some q) {b : Nat} (z : Nat) (hA : ∀ q, zw_A ad sh z q → b ≤ q) (mi : zw_I) (ml : zw_L) (x : Int32) (h1 : ∀ x : Int32, ¬ p_isShare mi x = 0 → vp_in x n) :
    zx_M l D cA Y_TS_free 6 b ad sh z [.ref (ad 0), .int x] mi ml (p_free mi ml x) := by
  refine zx_enter (own := R_TS) (by decide) rfl (Nat.le_of_ble_eq_true rfl) ?_
  intro p e s m below meth c X hr hlocks hB Zx Zz hno ls hl
  have X : zw_C D cA R_TS prog_1_method_4_code 3 p m c s := X
  have hr : meth.sig.returnType = (some FieldType.int) := hr
  have hx := X.1
  have hb := X.2.1
  have hl : lv_has ls 3 [(0, .ref (ad 0)), (1, .int x)] := hl
  unfold p_free
  refine lv_aload_n hx hb d_TS_free_0 rfl (lv_at hl 0 rfl) ?_
  refine lv_iload_n hx hb d_TS_free_1 rfl (lv_at hl 1 rfl) ?_
  refine zw_callVr X hB mv_TS_39 0 (hs 0 _ rfl) rfl (c_TS_isShare hn hs z mi ml x) rfl hl.1 ⟨Nat.le_of_ble_eq_true rfl, Nat.le_of_ble_eq_true rfl⟩ rfl (Nat.le_of_ble_eq_true rfl) ⟨Nat.le_of_ble_eq_true rfl, Nat.le_of_ble_eq_true rfl⟩ d_TS_free_2 (fun H locs hB => ?_)
  refine lv_if_ne (tgt := 18) hx hb d_TS_free_5 (by decide) (fun c_5 => ?_) (fun c_5 => ?_)
  · rw [if_neg c_5]
    refine lv_aload_n hx hb d_TS_free_18 rfl (lv_at hl 0 rfl) ?_
    refine zw_getR X hB fl_TS_18 0 (hs 0 _ rfl) rfl d_TS_free_19 ?_
    refine zw_getR X hB fl_TS_73 1 (hs 1 _ rfl) rfl d_TS_free_22 ?_
    refine zw_getR X hB fl_TS_77 2 (hs 2 _ rfl) rfl d_TS_free_25 ?_
    refine lv_iload_n hx hb d_TS_free_28 rfl (lv_at hl 1 rfl) ?_
    refine zw_iald X hB 10 (hs 10 _ rfl) (h1 _ c_5) d_TS_free_29 ?_
    refine lv_istore_n (lv' := [(2, .int (mi 10 x.toNatClampNeg)), (0, .ref (ad 0)), (1, .int x)]) hx hb d_TS_free_30 rfl hl (by decide) rfl (fun ls hl => ?_)
    refine lv_aload_n hx hb d_TS_free_31 rfl (lv_at hl 1 rfl) ?_
    refine zw_getR X hB fl_TS_18 0 (hs 0 _ rfl) rfl d_TS_free_32 ?_
    refine zw_getR X hB fl_TS_73 1 (hs 1 _ rfl) rfl d_TS_free_35 ?_
    refine zw_getR X hB fl_TS_77 2 (hs 2 _ rfl) rfl d_TS_free_38 ?_
    refine lv_iload_n hx hb d_TS_free_41 rfl (lv_at hl 2 rfl) ?_
    refine lv_iconst (v := 0) hx hb d_TS_free_42 (by decide) ?_
    refine zw_iast X hB 10 (hs 10 _ rfl) (h1 _ c_5) d_TS_free_43 (fun H locs hB => ?_)
    obtain ⟨mi_1, emi_1⟩ : ∃ y, y = zw_up mi 10 x.toNatClampNeg 0 := ⟨_, rfl⟩
    rw [← emi_1] at hB
    refine lv_iload_n hx hb d_TS_free_44 rfl (lv_at hl 0 rfl) ?_
    exact zx_ret (by decide) (by decide) (zc_iret X hr hlocks hB (by subst emi_1; rfl) (by subst emi_1; rfl) (by subst emi_1; rfl) d_TS_free_45)
  · rw [if_pos c_5]
    exact zx_throw X hTr Zx Zz hA hB hno hlocks hl.1 xt_43_45 ⟨Nat.le_of_ble_eq_true rfl, Nat.le_of_ble_eq_true rfl, Nat.le_of_ble_eq_true rfl, Nat.le_of_ble_eq_true rfl⟩ rfl rfl rfl rfl rfl d_TS_free_8 d_TS_free_11 d_TS_free_12 d_TS_free_14 d_TS_free_17

set_option maxHeartbeats 4000000 in
set_option maxRecDepth 100000 in
theorem c_TS_failing {l : Launch} (hTr : l.stackTraces = false) {D : va_G} {cA : Nat → ClassId} {ad : Nat → Nat} {sh : zw_Sh} {n : Nat} (hn : n ≤ 16) (hs : ∀ (k : Nat) (q : zw_Sp), shX n k = some q → sh k = some q) {b : Nat} (z : Nat) (hA : ∀ q, zw_A ad sh z q → b ≤ q) (mi : zw_I) (ml : zw_L) (w : Int32) (x : Int32) (s0 : Int32) (t : Int32) (h2 : mi 3 5 < 8 → vp_in (mi 3 5) 8) :
    zx_M l D cA Y_TS_failing 6 b ad sh z [.ref (ad 0), .int w, .int x, .int s0, .int t] mi ml (p_failing mi ml w x s0 t) := by
  refine zx_enter (own := R_TS) (by decide) rfl (Nat.le_of_ble_eq_true rfl) ?_
  intro p e s m below meth c X hr hlocks hB Zx Zz hno ls hl
  have X : zw_C D cA R_TS prog_1_method_5_code 5 p m c s := X
  have hr : meth.sig.returnType = (some FieldType.int) := hr
  have hx := X.1
  have hb := X.2.1
  have hl : lv_has ls 5 [(0, .ref (ad 0)), (1, .int w), (2, .int x), (3, .int s0), (4, .int t)] := hl
  unfold p_failing
  refine lv_aload_n hx hb d_TS_failing_0 rfl (lv_at hl 0 rfl) ?_
  refine lv_iload_n hx hb d_TS_failing_1 rfl (lv_at hl 2 rfl) ?_
  refine zw_callVr X hB mv_TS_39 0 (hs 0 _ rfl) rfl (c_TS_isShare hn hs z mi ml x) rfl hl.1 ⟨Nat.le_of_ble_eq_true rfl, Nat.le_of_ble_eq_true rfl⟩ rfl (Nat.le_of_ble_eq_true rfl) ⟨Nat.le_of_ble_eq_true rfl, Nat.le_of_ble_eq_true rfl⟩ d_TS_failing_2 (fun H locs hB => ?_)
  refine lv_if_ne (tgt := 18) hx hb d_TS_failing_5 (by decide) (fun c_5 => ?_) (fun c_5 => ?_)
  · rw [if_neg c_5]
    refine lv_iload_n hx hb d_TS_failing_18 rfl (lv_at hl 1 rfl) ?_
    refine lv_iconst (v := 0) hx hb d_TS_failing_19 (by decide) ?_
    refine lv_bipush (v := 15) hx hb d_TS_failing_20 (by decide) ?_
    refine zw_callSr X hB mv_TS_50 (c_TS_isWithin hn hs z mi ml w 0 15) rfl hl.1 ⟨Nat.le_of_ble_eq_true rfl, Nat.le_of_ble_eq_true rfl⟩ rfl (Nat.le_of_ble_eq_true rfl) ⟨Nat.le_of_ble_eq_true rfl, Nat.le_of_ble_eq_true rfl⟩ d_TS_failing_22 (fun H locs hB => ?_)
    refine lv_if_eq (tgt := 46) hx hb d_TS_failing_25 (by decide) (fun c_25 => ?_) (fun c_25 => ?_)
    · rw [if_pos c_25]
      exact zx_throw X hTr Zx Zz hA hB hno hlocks hl.1 xt_58_96 ⟨Nat.le_of_ble_eq_true rfl, Nat.le_of_ble_eq_true rfl, Nat.le_of_ble_eq_true rfl, Nat.le_of_ble_eq_true rfl⟩ rfl rfl rfl rfl rfl d_TS_failing_46 d_TS_failing_49 d_TS_failing_50 d_TS_failing_52 d_TS_failing_55
    · rw [if_neg c_25]
      refine lv_iload_n hx hb d_TS_failing_28 rfl (lv_at hl 3 rfl) ?_
      refine zw_callSr X hB mv_TS_82 (c_TS_isStep hn hs z mi ml s0) rfl hl.1 ⟨Nat.le_of_ble_eq_true rfl, Nat.le_of_ble_eq_true rfl⟩ rfl (Nat.le_of_ble_eq_true rfl) ⟨Nat.le_of_ble_eq_true rfl, Nat.le_of_ble_eq_true rfl⟩ d_TS_failing_29 (fun H locs hB => ?_)
      refine lv_if_eq (tgt := 46) hx hb d_TS_failing_32 (by decide) (fun c_32 => ?_) (fun c_32 => ?_)
      · rw [if_pos c_32]
        exact zx_throw X hTr Zx Zz hA hB hno hlocks hl.1 xt_58_96 ⟨Nat.le_of_ble_eq_true rfl, Nat.le_of_ble_eq_true rfl, Nat.le_of_ble_eq_true rfl, Nat.le_of_ble_eq_true rfl⟩ rfl rfl rfl rfl rfl d_TS_failing_46 d_TS_failing_49 d_TS_failing_50 d_TS_failing_52 d_TS_failing_55
      · rw [if_neg c_32]
        refine lv_iload hx hb d_TS_failing_35 (lv_at hl 4 rfl) ?_
        refine lv_iconst (v := 1) hx hb d_TS_failing_37 (by decide) ?_
        refine lv_bipush (v := 9) hx hb d_TS_failing_38 (by decide) ?_
        refine zw_callSr X hB mv_TS_50 (c_TS_isWithin hn hs z mi ml t 1 9) rfl hl.1 ⟨Nat.le_of_ble_eq_true rfl, Nat.le_of_ble_eq_true rfl⟩ rfl (Nat.le_of_ble_eq_true rfl) ⟨Nat.le_of_ble_eq_true rfl, Nat.le_of_ble_eq_true rfl⟩ d_TS_failing_40 (fun H locs hB => ?_)
        refine lv_if_ne (tgt := 56) hx hb d_TS_failing_43 (by decide) (fun c_43 => ?_) (fun c_43 => ?_)
        · rw [if_neg c_43]
          refine lv_aload_n hx hb d_TS_failing_56 rfl (lv_at hl 0 rfl) ?_
          refine zw_getR X hB fl_TS_18 0 (hs 0 _ rfl) rfl d_TS_failing_57 ?_
          refine zw_getR X hB fl_TS_98 1 (hs 1 _ rfl) rfl d_TS_failing_60 ?_
          refine zw_getI X hB fl_TS_102 3 (hs 3 _ rfl) rfl d_TS_failing_63 ?_
          refine lv_bipush (v := 8) hx hb d_TS_failing_66 (by decide) ?_
          refine lv_icmp_lt (tgt := 81) hx hb d_TS_failing_68 (by decide) (fun c_68 => ?_) (fun c_68 => ?_)
          · rw [if_pos c_68]
            refine lv_aload_n hx hb d_TS_failing_81 rfl (lv_at hl 0 rfl) ?_
            refine zw_getR X hB fl_TS_18 0 (hs 0 _ rfl) rfl d_TS_failing_82 ?_
            refine zw_getR X hB fl_TS_98 1 (hs 1 _ rfl) rfl d_TS_failing_85 ?_
            refine lv_iload_n hx hb d_TS_failing_88 rfl (lv_at hl 1 rfl) ?_
            refine lv_iload_n hx hb d_TS_failing_89 rfl (lv_at hl 2 rfl) ?_
            refine lv_iload_n hx hb d_TS_failing_90 rfl (lv_at hl 3 rfl) ?_
            refine lv_iload hx hb d_TS_failing_91 (lv_at hl 4 rfl) ?_
            refine zw_callVr X hB mv_TS_108 3 (hs 3 _ rfl) rfl (c_Failings_add hn hs z mi ml w x s0 t (h2 c_68)) rfl hl.1 ⟨Nat.le_of_ble_eq_true rfl, Nat.le_of_ble_eq_true rfl⟩ rfl (Nat.le_of_ble_eq_true rfl) ⟨Nat.le_of_ble_eq_true rfl, Nat.le_of_ble_eq_true rfl⟩ d_TS_failing_93 (fun H locs hB => ?_)
            obtain ⟨mi_1, emi_1⟩ : ∃ y, y = p_fadd w x s0 t mi := ⟨_, rfl⟩
            rw [← emi_1] at hB
            exact zx_ret (by decide) (by decide) (zc_iret X hr hlocks hB (by subst emi_1; rfl) (by subst emi_1; rfl) (by subst emi_1; rfl) d_TS_failing_96)
          · rw [if_neg c_68]
            exact zx_throw X hTr Zx Zz hA hB hno hlocks hl.1 xt_87_106 ⟨Nat.le_of_ble_eq_true rfl, Nat.le_of_ble_eq_true rfl, Nat.le_of_ble_eq_true rfl, Nat.le_of_ble_eq_true rfl⟩ rfl rfl rfl rfl rfl d_TS_failing_71 d_TS_failing_74 d_TS_failing_75 d_TS_failing_77 d_TS_failing_80
        · rw [if_pos c_43]
          exact zx_throw X hTr Zx Zz hA hB hno hlocks hl.1 xt_58_96 ⟨Nat.le_of_ble_eq_true rfl, Nat.le_of_ble_eq_true rfl, Nat.le_of_ble_eq_true rfl, Nat.le_of_ble_eq_true rfl⟩ rfl rfl rfl rfl rfl d_TS_failing_46 d_TS_failing_49 d_TS_failing_50 d_TS_failing_52 d_TS_failing_55
  · rw [if_pos c_5]
    exact zx_throw X hTr Zx Zz hA hB hno hlocks hl.1 xt_43_45 ⟨Nat.le_of_ble_eq_true rfl, Nat.le_of_ble_eq_true rfl, Nat.le_of_ble_eq_true rfl, Nat.le_of_ble_eq_true rfl⟩ rfl rfl rfl rfl rfl d_TS_failing_8 d_TS_failing_11 d_TS_failing_12 d_TS_failing_14 d_TS_failing_17

set_option maxHeartbeats 4000000 in
set_option maxRecDepth 100000 in
theorem c_TS_stop {l : Launch} (hTr : l.stackTraces = false) {D : va_G} {cA : Nat → ClassId} {ad : Nat → Nat} {sh : zw_Sh} {n : Nat} (hn : n ≤ 16) (hs : ∀ (k : Nat) (q : zw_Sp), shX n k = some q → sh k = some q) {b : Nat} (z : Nat) (hA : ∀ q, zw_A ad sh z q → b ≤ q) (mi : zw_I) (ml : zw_L) (x : Int32) :
    zx_M l D cA Y_TS_stop 6 b ad sh z [.ref (ad 0), .int x] mi ml (p_stop mi ml x) := by
  refine zx_enter (own := R_TS) (by decide) rfl (Nat.le_of_ble_eq_true rfl) ?_
  intro p e s m below meth c X hr hlocks hB Zx Zz hno ls hl
  have X : zw_C D cA R_TS prog_1_method_6_code 3 p m c s := X
  have hr : meth.sig.returnType = (some FieldType.int) := hr
  have hx := X.1
  have hb := X.2.1
  have hl : lv_has ls 3 [(0, .ref (ad 0)), (1, .int x)] := hl
  unfold p_stop
  refine lv_iload_n hx hb d_TS_stop_0 rfl (lv_at hl 1 rfl) ?_
  refine lv_iconst (v := (-1)) hx hb d_TS_stop_1 (by decide) ?_
  refine lv_icmp_eq (tgt := 23) hx hb d_TS_stop_2 (by decide) (fun c_2 => ?_) (fun c_2 => ?_)
  · rw [if_pos c_2]
    refine lv_aload_n hx hb d_TS_stop_23 rfl (lv_at hl 0 rfl) ?_
    refine zw_getR X hB fl_TS_18 0 (hs 0 _ rfl) rfl d_TS_stop_24 ?_
    refine zw_getI X hB fl_TS_109 1 (hs 1 _ rfl) rfl d_TS_stop_27 ?_
    refine lv_istore_n (lv' := [(2, .int (mi 1 7)), (0, .ref (ad 0)), (1, .int x)]) hx hb d_TS_stop_30 rfl hl (by decide) rfl (fun ls hl => ?_)
    refine lv_aload_n hx hb d_TS_stop_31 rfl (lv_at hl 1 rfl) ?_
    refine zw_getR X hB fl_TS_18 0 (hs 0 _ rfl) rfl d_TS_stop_32 ?_
    refine lv_iload_n hx hb d_TS_stop_35 rfl (lv_at hl 2 rfl) ?_
    refine zw_putI X hB fp_TS_109 (fun h => by cases h) 1 (hs 1 _ rfl) rfl d_TS_stop_36 (fun H locs hB => ?_)
    obtain ⟨mi_1, emi_1⟩ : ∃ y, y = zw_up mi 1 7 x := ⟨_, rfl⟩
    rw [← emi_1] at hB
    refine lv_iload_n hx hb d_TS_stop_39 rfl (lv_at hl 0 rfl) ?_
    exact zx_ret (by decide) (by decide) (zc_iret X hr hlocks hB (by subst emi_1; rfl) (by subst emi_1; rfl) (by subst emi_1; rfl) d_TS_stop_40)
  · rw [if_neg c_2]
    refine lv_aload_n hx hb d_TS_stop_5 rfl (lv_at hl 0 rfl) ?_
    refine lv_iload_n hx hb d_TS_stop_6 rfl (lv_at hl 1 rfl) ?_
    refine zw_callVr X hB mv_TS_39 0 (hs 0 _ rfl) rfl (c_TS_isShare hn hs z mi ml x) rfl hl.1 ⟨Nat.le_of_ble_eq_true rfl, Nat.le_of_ble_eq_true rfl⟩ rfl (Nat.le_of_ble_eq_true rfl) ⟨Nat.le_of_ble_eq_true rfl, Nat.le_of_ble_eq_true rfl⟩ d_TS_stop_7 (fun H locs hB => ?_)
    refine lv_if_ne (tgt := 23) hx hb d_TS_stop_10 (by decide) (fun c_10 => ?_) (fun c_10 => ?_)
    · rw [if_neg c_10]
      refine lv_aload_n hx hb d_TS_stop_23 rfl (lv_at hl 0 rfl) ?_
      refine zw_getR X hB fl_TS_18 0 (hs 0 _ rfl) rfl d_TS_stop_24 ?_
      refine zw_getI X hB fl_TS_109 1 (hs 1 _ rfl) rfl d_TS_stop_27 ?_
      refine lv_istore_n (lv' := [(2, .int (mi 1 7)), (0, .ref (ad 0)), (1, .int x)]) hx hb d_TS_stop_30 rfl hl (by decide) rfl (fun ls hl => ?_)
      refine lv_aload_n hx hb d_TS_stop_31 rfl (lv_at hl 1 rfl) ?_
      refine zw_getR X hB fl_TS_18 0 (hs 0 _ rfl) rfl d_TS_stop_32 ?_
      refine lv_iload_n hx hb d_TS_stop_35 rfl (lv_at hl 2 rfl) ?_
      refine zw_putI X hB fp_TS_109 (fun h => by cases h) 1 (hs 1 _ rfl) rfl d_TS_stop_36 (fun H locs hB => ?_)
      obtain ⟨mi_2, emi_2⟩ : ∃ y, y = zw_up mi 1 7 x := ⟨_, rfl⟩
      rw [← emi_2] at hB
      refine lv_iload_n hx hb d_TS_stop_39 rfl (lv_at hl 0 rfl) ?_
      exact zx_ret (by decide) (by decide) (zc_iret X hr hlocks hB (by subst emi_2; rfl) (by subst emi_2; rfl) (by subst emi_2; rfl) d_TS_stop_40)
    · rw [if_pos c_10]
      exact zx_throw X hTr Zx Zz hA hB hno hlocks hl.1 xt_43_45 ⟨Nat.le_of_ble_eq_true rfl, Nat.le_of_ble_eq_true rfl, Nat.le_of_ble_eq_true rfl, Nat.le_of_ble_eq_true rfl⟩ rfl rfl rfl rfl rfl d_TS_stop_13 d_TS_stop_16 d_TS_stop_17 d_TS_stop_19 d_TS_stop_22

set_option maxHeartbeats 4000000 in
set_option maxRecDepth 100000 in
theorem c_TS_at {l : Launch} (hTr : l.stackTraces = false) {D : va_G} {cA : Nat → ClassId} {ad : Nat → Nat} {sh : zw_Sh} {n : Nat} (hn : n ≤ 16) (hs : ∀ (k : Nat) (q : zw_Sp), shX n k = some q → sh k = some q) {b : Nat} (z : Nat) (hA : ∀ q, zw_A ad sh z q → b ≤ q) (mi : zw_I) (ml : zw_L) (x : Int32) (h1 : ∀ x : Int32, ¬ p_isShare mi x = 0 → vp_in x n) :
    zx_M l D cA Y_TS_at 6 b ad sh z [.ref (ad 0), .int x] mi ml (p_at mi ml x) := by
  refine zx_enter (own := R_TS) (by decide) rfl (Nat.le_of_ble_eq_true rfl) ?_
  intro p e s m below meth c X hr hlocks hB Zx Zz hno ls hl
  have X : zw_C D cA R_TS prog_1_method_8_code 2 p m c s := X
  have hr : meth.sig.returnType = (some FieldType.long) := hr
  have hx := X.1
  have hb := X.2.1
  have hl : lv_has ls 2 [(0, .ref (ad 0)), (1, .int x)] := hl
  unfold p_at
  refine lv_aload_n hx hb d_TS_at_0 rfl (lv_at hl 0 rfl) ?_
  refine lv_iload_n hx hb d_TS_at_1 rfl (lv_at hl 1 rfl) ?_
  refine zw_callVr X hB mv_TS_39 0 (hs 0 _ rfl) rfl (c_TS_isShare hn hs z mi ml x) rfl hl.1 ⟨Nat.le_of_ble_eq_true rfl, Nat.le_of_ble_eq_true rfl⟩ rfl (Nat.le_of_ble_eq_true rfl) ⟨Nat.le_of_ble_eq_true rfl, Nat.le_of_ble_eq_true rfl⟩ d_TS_at_2 (fun H locs hB => ?_)
  refine lv_if_ne (tgt := 18) hx hb d_TS_at_5 (by decide) (fun c_5 => ?_) (fun c_5 => ?_)
  · rw [if_neg c_5]
    refine lv_aload_n hx hb d_TS_at_18 rfl (lv_at hl 0 rfl) ?_
    refine zw_getR X hB fl_TS_31 0 (hs 0 _ rfl) rfl d_TS_at_19 ?_
    refine lv_iload_n hx hb d_TS_at_22 rfl (lv_at hl 1 rfl) ?_
    refine zw_zald X hB 20 (hs 20 _ rfl) (h1 _ c_5) d_TS_at_23 ?_
    refine lv_if_ne (tgt := 37) hx hb d_TS_at_24 (by decide) (fun c_24 => ?_) (fun c_24 => ?_)
    · rw [if_neg c_24]
      refine lv_aload_n hx hb d_TS_at_37 rfl (lv_at hl 0 rfl) ?_
      refine zw_getR X hB fl_TS_35 0 (hs 0 _ rfl) rfl d_TS_at_38 ?_
      refine lv_iload_n hx hb d_TS_at_41 rfl (lv_at hl 1 rfl) ?_
      refine zw_lald X hB 21 (hs 21 _ rfl) (h1 _ c_5) d_TS_at_42 ?_
      exact zx_ret (by decide) (by decide) (zc_lret X hr hlocks hB (by rfl) (by rfl) (by rfl) d_TS_at_43)
    · rw [if_pos c_24]
      exact zx_throw X hTr Zx Zz hA hB hno hlocks hl.1 xt_121_123 ⟨Nat.le_of_ble_eq_true rfl, Nat.le_of_ble_eq_true rfl, Nat.le_of_ble_eq_true rfl, Nat.le_of_ble_eq_true rfl⟩ rfl rfl rfl rfl rfl d_TS_at_27 d_TS_at_30 d_TS_at_31 d_TS_at_33 d_TS_at_36
  · rw [if_pos c_5]
    exact zx_throw X hTr Zx Zz hA hB hno hlocks hl.1 xt_43_45 ⟨Nat.le_of_ble_eq_true rfl, Nat.le_of_ble_eq_true rfl, Nat.le_of_ble_eq_true rfl, Nat.le_of_ble_eq_true rfl⟩ rfl rfl rfl rfl rfl d_TS_at_8 d_TS_at_11 d_TS_at_12 d_TS_at_14 d_TS_at_17

set_option maxHeartbeats 4000000 in
set_option maxRecDepth 100000 in
theorem c_TS_order {l : Launch} (hTr : l.stackTraces = false) {D : va_G} {cA : Nat → ClassId} {ad : Nat → Nat} {sh : zw_Sh} {n : Nat} (hn : n ≤ 16) (hs : ∀ (k : Nat) (q : zw_Sp), shX n k = some q → sh k = some q) {b : Nat} (z : Nat) (hA : ∀ q, zw_A ad sh z q → b ≤ q) (mi : zw_I) (ml : zw_L) (x : Int32) (h2 : ¬ p_within x 0 (mi 5 8 - 1) = 0 → vp_in x n) :
    zx_M l D cA Y_TS_order 6 b ad sh z [.ref (ad 0), .int x] mi ml (p_order mi ml x) := by
  refine zx_enter (own := R_TS) (by decide) rfl (Nat.le_of_ble_eq_true rfl) ?_
  intro p e s m below meth c X hr hlocks hB Zx Zz hno ls hl
  have X : zw_C D cA R_TS prog_1_method_9_code 2 p m c s := X
  have hr : meth.sig.returnType = (some FieldType.int) := hr
  have hx := X.1
  have hb := X.2.1
  have hl : lv_has ls 2 [(0, .ref (ad 0)), (1, .int x)] := hl
  unfold p_order
  refine lv_iload_n hx hb d_TS_order_0 rfl (lv_at hl 1 rfl) ?_
  refine lv_iconst (v := 0) hx hb d_TS_order_1 (by decide) ?_
  refine lv_aload_n hx hb d_TS_order_2 rfl (lv_at hl 0 rfl) ?_
  refine zw_getR X hB fl_TS_27 0 (hs 0 _ rfl) rfl d_TS_order_3 ?_
  refine zw_getI X hB fl_TS_126 5 (hs 5 _ rfl) rfl d_TS_order_6 ?_
  refine lv_iconst (v := 1) hx hb d_TS_order_9 (by decide) ?_
  refine lv_isub hx hb d_TS_order_10 ?_
  refine zw_callSr X hB mv_TS_50 (c_TS_isWithin hn hs z mi ml x 0 ((mi 5 8) - 1)) rfl hl.1 ⟨Nat.le_of_ble_eq_true rfl, Nat.le_of_ble_eq_true rfl⟩ rfl (Nat.le_of_ble_eq_true rfl) ⟨Nat.le_of_ble_eq_true rfl, Nat.le_of_ble_eq_true rfl⟩ d_TS_order_11 (fun H locs hB => ?_)
  refine lv_if_ne (tgt := 27) hx hb d_TS_order_14 (by decide) (fun c_14 => ?_) (fun c_14 => ?_)
  · rw [if_neg c_14]
    refine lv_aload_n hx hb d_TS_order_27 rfl (lv_at hl 0 rfl) ?_
    refine zw_getR X hB fl_TS_27 0 (hs 0 _ rfl) rfl d_TS_order_28 ?_
    refine zw_getR X hB fl_TS_131 5 (hs 5 _ rfl) rfl d_TS_order_31 ?_
    refine lv_iload_n hx hb d_TS_order_34 rfl (lv_at hl 1 rfl) ?_
    refine zw_iald X hB 27 (hs 27 _ rfl) (h2 c_14) d_TS_order_35 ?_
    exact zx_ret (by decide) (by decide) (zc_iret X hr hlocks hB (by rfl) (by rfl) (by rfl) d_TS_order_36)
  · rw [if_pos c_14]
    exact zx_throw X hTr Zx Zz hA hB hno hlocks hl.1 xt_43_129 ⟨Nat.le_of_ble_eq_true rfl, Nat.le_of_ble_eq_true rfl, Nat.le_of_ble_eq_true rfl, Nat.le_of_ble_eq_true rfl⟩ rfl rfl rfl rfl rfl d_TS_order_17 d_TS_order_20 d_TS_order_21 d_TS_order_23 d_TS_order_26

set_option maxHeartbeats 4000000 in
set_option maxRecDepth 100000 in
theorem c_TS_begun {l : Launch} (hTr : l.stackTraces = false) {D : va_G} {cA : Nat → ClassId} {ad : Nat → Nat} {sh : zw_Sh} {n : Nat} (hn : n ≤ 16) (hs : ∀ (k : Nat) (q : zw_Sp), shX n k = some q → sh k = some q) {b : Nat} (z : Nat) (hA : ∀ q, zw_A ad sh z q → b ≤ q) (mi : zw_I) (ml : zw_L) (x : Int32) (h1 : ∀ x : Int32, ¬ p_isShare mi x = 0 → vp_in x n) :
    zx_M l D cA Y_TS_begun 6 b ad sh z [.ref (ad 0), .int x] mi ml (p_begun mi ml x) := by
  refine zx_enter (own := R_TS) (by decide) rfl (Nat.le_of_ble_eq_true rfl) ?_
  intro p e s m below meth c X hr hlocks hB Zx Zz hno ls hl
  have X : zw_C D cA R_TS prog_1_method_10_code 2 p m c s := X
  have hr : meth.sig.returnType = (some FieldType.int) := hr
  have hx := X.1
  have hb := X.2.1
  have hl : lv_has ls 2 [(0, .ref (ad 0)), (1, .int x)] := hl
  unfold p_begun
  refine lv_aload_n hx hb d_TS_begun_0 rfl (lv_at hl 0 rfl) ?_
  refine lv_iload_n hx hb d_TS_begun_1 rfl (lv_at hl 1 rfl) ?_
  refine zw_callVr X hB mv_TS_39 0 (hs 0 _ rfl) rfl (c_TS_isShare hn hs z mi ml x) rfl hl.1 ⟨Nat.le_of_ble_eq_true rfl, Nat.le_of_ble_eq_true rfl⟩ rfl (Nat.le_of_ble_eq_true rfl) ⟨Nat.le_of_ble_eq_true rfl, Nat.le_of_ble_eq_true rfl⟩ d_TS_begun_2 (fun H locs hB => ?_)
  refine lv_if_ne (tgt := 18) hx hb d_TS_begun_5 (by decide) (fun c_5 => ?_) (fun c_5 => ?_)
  · rw [if_neg c_5]
    refine lv_aload_n hx hb d_TS_begun_18 rfl (lv_at hl 0 rfl) ?_
    refine zw_getR X hB fl_TS_27 0 (hs 0 _ rfl) rfl d_TS_begun_19 ?_
    refine zw_getR X hB fl_TS_134 5 (hs 5 _ rfl) rfl d_TS_begun_22 ?_
    refine lv_iload_n hx hb d_TS_begun_25 rfl (lv_at hl 1 rfl) ?_
    refine zw_iald X hB 25 (hs 25 _ rfl) (h1 _ c_5) d_TS_begun_26 ?_
    exact zx_ret (by decide) (by decide) (zc_iret X hr hlocks hB (by rfl) (by rfl) (by rfl) d_TS_begun_27)
  · rw [if_pos c_5]
    exact zx_throw X hTr Zx Zz hA hB hno hlocks hl.1 xt_43_45 ⟨Nat.le_of_ble_eq_true rfl, Nat.le_of_ble_eq_true rfl, Nat.le_of_ble_eq_true rfl, Nat.le_of_ble_eq_true rfl⟩ rfl rfl rfl rfl rfl d_TS_begun_8 d_TS_begun_11 d_TS_begun_12 d_TS_begun_14 d_TS_begun_17

set_option maxHeartbeats 4000000 in
set_option maxRecDepth 100000 in
theorem c_TS_waited {l : Launch} (hTr : l.stackTraces = false) {D : va_G} {cA : Nat → ClassId} {ad : Nat → Nat} {sh : zw_Sh} {n : Nat} (hn : n ≤ 16) (hs : ∀ (k : Nat) (q : zw_Sp), shX n k = some q → sh k = some q) {b : Nat} (z : Nat) (hA : ∀ q, zw_A ad sh z q → b ≤ q) (mi : zw_I) (ml : zw_L) (x : Int32) (y : Int32) (h1 : ∀ x : Int32, ¬ p_isShare mi x = 0 → vp_in x n) :
    zx_M l D cA Y_TS_waited 6 b ad sh z [.ref (ad 0), .int x, .int y] mi ml (p_waited mi ml x y) := by
  refine zx_enter (own := R_TS) (by decide) rfl (Nat.le_of_ble_eq_true rfl) ?_
  intro p e s m below meth c X hr hlocks hB Zx Zz hno ls hl
  have X : zw_C D cA R_TS prog_1_method_11_code 3 p m c s := X
  have hr : meth.sig.returnType = (some FieldType.int) := hr
  have hx := X.1
  have hb := X.2.1
  have hl : lv_has ls 3 [(0, .ref (ad 0)), (1, .int x), (2, .int y)] := hl
  unfold p_waited
  refine lv_aload_n hx hb d_TS_waited_0 rfl (lv_at hl 0 rfl) ?_
  refine lv_iload_n hx hb d_TS_waited_1 rfl (lv_at hl 1 rfl) ?_
  refine zw_callVr X hB mv_TS_39 0 (hs 0 _ rfl) rfl (c_TS_isShare hn hs z mi ml x) rfl hl.1 ⟨Nat.le_of_ble_eq_true rfl, Nat.le_of_ble_eq_true rfl⟩ rfl (Nat.le_of_ble_eq_true rfl) ⟨Nat.le_of_ble_eq_true rfl, Nat.le_of_ble_eq_true rfl⟩ d_TS_waited_2 (fun H locs hB => ?_)
  refine lv_if_eq (tgt := 16) hx hb d_TS_waited_5 (by decide) (fun c_5 => ?_) (fun c_5 => ?_)
  · rw [if_pos c_5]
    exact zx_throw X hTr Zx Zz hA hB hno hlocks hl.1 xt_43_45 ⟨Nat.le_of_ble_eq_true rfl, Nat.le_of_ble_eq_true rfl, Nat.le_of_ble_eq_true rfl, Nat.le_of_ble_eq_true rfl⟩ rfl rfl rfl rfl rfl d_TS_waited_16 d_TS_waited_19 d_TS_waited_20 d_TS_waited_22 d_TS_waited_25
  · rw [if_neg c_5]
    refine lv_aload_n hx hb d_TS_waited_8 rfl (lv_at hl 0 rfl) ?_
    refine lv_iload_n hx hb d_TS_waited_9 rfl (lv_at hl 2 rfl) ?_
    refine zw_callVr X hB mv_TS_39 0 (hs 0 _ rfl) rfl (c_TS_isShare hn hs z mi ml y) rfl hl.1 ⟨Nat.le_of_ble_eq_true rfl, Nat.le_of_ble_eq_true rfl⟩ rfl (Nat.le_of_ble_eq_true rfl) ⟨Nat.le_of_ble_eq_true rfl, Nat.le_of_ble_eq_true rfl⟩ d_TS_waited_10 (fun H locs hB => ?_)
    refine lv_if_ne (tgt := 26) hx hb d_TS_waited_13 (by decide) (fun c_13 => ?_) (fun c_13 => ?_)
    · rw [if_neg c_13]
      refine lv_aload_n hx hb d_TS_waited_26 rfl (lv_at hl 0 rfl) ?_
      refine zw_getR X hB fl_TS_27 0 (hs 0 _ rfl) rfl d_TS_waited_27 ?_
      refine zw_getR X hB fl_TS_137 5 (hs 5 _ rfl) rfl d_TS_waited_30 ?_
      refine lv_iload_n hx hb d_TS_waited_33 rfl (lv_at hl 1 rfl) ?_
      refine zw_aald X hB 26 (Or.inl rfl) (hs 26 _ rfl) (h1 _ c_5) d_TS_waited_34 ?_
      refine lv_iload_n hx hb d_TS_waited_35 rfl (lv_at hl 2 rfl) ?_
      refine zw_iald X hB (128 + x.toNatClampNeg) (hs _ _ (shr4 hn (vlt (h1 _ c_5)))) (h1 _ c_13) d_TS_waited_36 ?_
      exact zx_ret (by decide) (by decide) (zc_iret X hr hlocks hB (by rfl) (by rfl) (by rfl) d_TS_waited_37)
    · rw [if_pos c_13]
      exact zx_throw X hTr Zx Zz hA hB hno hlocks hl.1 xt_43_45 ⟨Nat.le_of_ble_eq_true rfl, Nat.le_of_ble_eq_true rfl, Nat.le_of_ble_eq_true rfl, Nat.le_of_ble_eq_true rfl⟩ rfl rfl rfl rfl rfl d_TS_waited_16 d_TS_waited_19 d_TS_waited_20 d_TS_waited_22 d_TS_waited_25

set_option maxHeartbeats 4000000 in
set_option maxRecDepth 100000 in
theorem c_TS_run {l : Launch} (hTr : l.stackTraces = false) {D : va_G} {cA : Nat → ClassId} {ad : Nat → Nat} {sh : zw_Sh} {n : Nat} (hn : n ≤ 16) (hs : ∀ (k : Nat) (q : zw_Sp), shX n k = some q → sh k = some q) {b : Nat} (z : Nat) (hA : ∀ q, zw_A ad sh z q → b ≤ q) (mi : zw_I) (ml : zw_L) (wk : Int32) (x : Int64) (w : Nat) (h1 : ¬ p_within wk 1 16 = 0 → w ≤ 16 ∧ wk = nI w) (hI : zi n mi) (G : zw_I → Prop) (hG : zg_K n G) (hG0 : ¬ p_within wk 1 16 = 0 → G (p_prep n wk mi ml).1) (ht0 : (p_prep n wk mi ml).1 5 11 = 0) (htk : ∀ (wk : Int32) (mi : zw_I) (ml : zw_L), (p_tick n wk mi ml).2.1 5 11 = mi 5 11) (h7 : ∀ i : Nat, i < n → vp_in ((p_go n wk x mi ml).2.1 7 i) 21) :
    zx_M l D cA Y_TS_run 6 b ad sh z [.ref (ad 0), .int wk, .long x] mi ml (p_run n mi ml wk x) := by
  refine zx_enter (own := R_TS) (by decide) rfl (Nat.le_of_ble_eq_true rfl) ?_
  intro p e s m below meth c X hr hlocks hB Zx Zz hno ls hl
  have X : zw_C D cA R_TS prog_1_method_7_code 5 p m c s := X
  have hr : meth.sig.returnType = (some FieldType.int) := hr
  have hx := X.1
  have hb := X.2.1
  have hl : lv_has ls 5 [(0, .ref (ad 0)), (1, .int wk), (2, .long x)] := hl
  unfold p_run
  refine lv_iload_n hx hb d_TS_run_0 rfl (lv_at hl 1 rfl) ?_
  refine lv_iconst (v := 1) hx hb d_TS_run_1 (by decide) ?_
  refine lv_bipush (v := 16) hx hb d_TS_run_2 (by decide) ?_
  refine zw_callSr X hB mv_TS_50 (c_TS_isWithin hn hs z mi ml wk 1 16) rfl hl.1 ⟨Nat.le_of_ble_eq_true rfl, Nat.le_of_ble_eq_true rfl⟩ rfl (Nat.le_of_ble_eq_true rfl) ⟨Nat.le_of_ble_eq_true rfl, Nat.le_of_ble_eq_true rfl⟩ d_TS_run_4 (fun H locs hB => ?_)
  refine lv_if_ne (tgt := 20) hx hb d_TS_run_7 (by decide) (fun c_7 => ?_) (fun c_7 => ?_)
  · rw [if_neg c_7]
    obtain ⟨hw, ew⟩ := h1 c_7
    have hG0 := hG0 c_7
    unfold p_runB
    refine lv_aload_n hx hb d_TS_run_20 rfl (lv_at hl 0 rfl) ?_
    refine zw_getR X hB fl_TS_27 0 (hs 0 _ rfl) rfl d_TS_run_21 ?_
    refine lv_iload_n hx hb d_TS_run_24 rfl (lv_at hl 1 rfl) ?_
    refine lv_lload_n hx hb d_TS_run_25 rfl (lv_at hl 2 rfl) ?_
    refine zw_callVr X hB mv_TS_114 5 (hs 5 _ rfl) rfl (c_Course_go hn hs z mi ml wk x w hw ew hI G hG hG0 ht0 htk) rfl hl.1 ⟨Nat.le_of_ble_eq_true rfl, Nat.le_of_ble_eq_true rfl⟩ rfl (Nat.le_of_ble_eq_true rfl) ⟨Nat.le_of_ble_eq_true rfl, Nat.le_of_ble_eq_true rfl⟩ d_TS_run_26 (fun H locs hB => ?_)
    refine lv_istore (lv' := [(4, .int (p_goE (p_go n wk x mi ml).1)), (0, .ref (ad 0)), (1, .int wk), (2, .long x)]) hx hb d_TS_run_29 hl (by decide) rfl (fun ls hl => ?_)
    refine lv_iload hx hb d_TS_run_31 (lv_at hl 0 rfl) ?_
    refine lv_if_eq (tgt := 42) hx hb d_TS_run_33 (by decide) (fun c_33 => ?_) (fun c_33 => ?_)
    · rw [if_pos c_33]
      refine lv_aload_n hx hb d_TS_run_42 rfl (lv_at hl 1 rfl) ?_
      refine zw_callVv X hB mv_TS_118 0 (hs 0 _ rfl) rfl (c_TS_putValues hn hs z ((p_go n wk x mi ml).2.1) ((p_go n wk x mi ml).2.2) h7) rfl hl.1 ⟨Nat.le_of_ble_eq_true rfl, Nat.le_of_ble_eq_true rfl⟩ rfl (Nat.le_of_ble_eq_true rfl) ⟨Nat.le_of_ble_eq_true rfl, Nat.le_of_ble_eq_true rfl⟩ d_TS_run_43 (fun H locs hB => ?_)
      refine lv_iload hx hb d_TS_run_46 (lv_at hl 0 rfl) ?_
      exact zx_ret (by decide) (by decide) (zc_iret X hr hlocks hB (by rfl) (by rfl) (by rfl) d_TS_run_48)
    · rw [if_neg c_33]
      refine lv_iload hx hb d_TS_run_36 (lv_at hl 0 rfl) ?_
      refine lv_iconst (v := 1) hx hb d_TS_run_38 (by decide) ?_
      refine lv_icmp_ne (tgt := 46) hx hb d_TS_run_39 (by decide) (fun c_39 => ?_) (fun c_39 => ?_)
      · rw [if_neg c_39]
        refine lv_iload hx hb d_TS_run_46 (lv_at hl 0 rfl) ?_
        exact zx_ret (by decide) (by decide) (zc_iret X hr hlocks hB (by rfl) (by rfl) (by rfl) d_TS_run_48)
      · rw [if_pos c_39]
        refine lv_aload_n hx hb d_TS_run_42 rfl (lv_at hl 1 rfl) ?_
        refine zw_callVv X hB mv_TS_118 0 (hs 0 _ rfl) rfl (c_TS_putValues hn hs z ((p_go n wk x mi ml).2.1) ((p_go n wk x mi ml).2.2) h7) rfl hl.1 ⟨Nat.le_of_ble_eq_true rfl, Nat.le_of_ble_eq_true rfl⟩ rfl (Nat.le_of_ble_eq_true rfl) ⟨Nat.le_of_ble_eq_true rfl, Nat.le_of_ble_eq_true rfl⟩ d_TS_run_43 (fun H locs hB => ?_)
        refine lv_iload hx hb d_TS_run_46 (lv_at hl 0 rfl) ?_
        exact zx_ret (by decide) (by decide) (zc_iret X hr hlocks hB (by rfl) (by rfl) (by rfl) d_TS_run_48)
  · rw [if_pos c_7]
    exact zx_throw X hTr Zx Zz hA hB hno hlocks hl.1 xt_58_112 ⟨Nat.le_of_ble_eq_true rfl, Nat.le_of_ble_eq_true rfl, Nat.le_of_ble_eq_true rfl, Nat.le_of_ble_eq_true rfl⟩ rfl rfl rfl rfl rfl d_TS_run_10 d_TS_run_13 d_TS_run_14 d_TS_run_16 d_TS_run_19
end
