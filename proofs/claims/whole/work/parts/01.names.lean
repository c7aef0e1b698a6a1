-- ===== PART A: goes FIRST, ahead of the names: the tables' words, and 'selects' of the private methods out of them =====
/-- a private method of a class that the tables say can be made, by its rows of tables_1 -/
def lw_okq (q : MethodName × Nat) : Prop := (q.1.cls ≠ "java/lang/invoke/MethodHandle" ∧ q.1.cls ≠ "java/lang/invoke/VarHandle") ∧ Cond.instantiable q.1.cls q.2 ∈ tables_1 ∧ Cond.privateMethod q.1 ∈ tables_1 ∧ Cond.instanceMethod q.1 ∈ tables_1
theorem lw_p0 : lw_okq (⟨"TileShares", "countValues", "()I"⟩, 4) := ⟨⟨by decide +kernel, by decide +kernel⟩, List.mem_of_getElem? (i := 18) (by decide +kernel), List.mem_of_getElem? (i := 258) (by decide +kernel), List.mem_of_getElem? (i := 259) (by decide +kernel)⟩
theorem lw_p1 : lw_okq (⟨"TileShares", "isShare", "(I)Z"⟩, 4) := ⟨⟨by decide +kernel, by decide +kernel⟩, List.mem_of_getElem? (i := 18) (by decide +kernel), List.mem_of_getElem? (i := 295) (by decide +kernel), List.mem_of_getElem? (i := 296) (by decide +kernel)⟩
theorem lw_p2 : lw_okq (⟨"java/lang/Throwable", "fillInStackTrace", "(I)Ljava/lang/Throwable;"⟩, 6) := ⟨⟨by decide +kernel, by decide +kernel⟩, List.mem_of_getElem? (i := 341) (by decide +kernel), List.mem_of_getElem? (i := 339) (by decide +kernel), List.mem_of_getElem? (i := 340) (by decide +kernel)⟩
theorem lw_p3 : lw_okq (⟨"TileShares$Course", "endByState", "()I"⟩, 15) := ⟨⟨by decide +kernel, by decide +kernel⟩, List.mem_of_getElem? (i := 138) (by decide +kernel), List.mem_of_getElem? (i := 459) (by decide +kernel), List.mem_of_getElem? (i := 460) (by decide +kernel)⟩
theorem lw_p4 : lw_okq (⟨"TileShares$Course", "isStuck", "()Z"⟩, 15) := ⟨⟨by decide +kernel, by decide +kernel⟩, List.mem_of_getElem? (i := 138) (by decide +kernel), List.mem_of_getElem? (i := 467) (by decide +kernel), List.mem_of_getElem? (i := 468) (by decide +kernel)⟩
theorem lw_p5 : lw_okq (⟨"TileShares$Course", "canTake", "()Z"⟩, 15) := ⟨⟨by decide +kernel, by decide +kernel⟩, List.mem_of_getElem? (i := 138) (by decide +kernel), List.mem_of_getElem? (i := 471) (by decide +kernel), List.mem_of_getElem? (i := 472) (by decide +kernel)⟩
theorem lw_p6 : lw_okq (⟨"TileShares$Course", "shareToWaitFor", "(I)I"⟩, 15) := ⟨⟨by decide +kernel, by decide +kernel⟩, List.mem_of_getElem? (i := 138) (by decide +kernel), List.mem_of_getElem? (i := 479) (by decide +kernel), List.mem_of_getElem? (i := 480) (by decide +kernel)⟩
theorem lw_p7 : lw_okq (⟨"TileShares$Course", "tick", "(I)Z"⟩, 15) := ⟨⟨by decide +kernel, by decide +kernel⟩, List.mem_of_getElem? (i := 138) (by decide +kernel), List.mem_of_getElem? (i := 493) (by decide +kernel), List.mem_of_getElem? (i := 494) (by decide +kernel)⟩
theorem lw_p8 : lw_okq (⟨"TileShares$Course", "take", "(I)Z"⟩, 15) := ⟨⟨by decide +kernel, by decide +kernel⟩, List.mem_of_getElem? (i := 138) (by decide +kernel), List.mem_of_getElem? (i := 497) (by decide +kernel), List.mem_of_getElem? (i := 498) (by decide +kernel)⟩
theorem lw_p9 : lw_okq (⟨"TileShares$Line", "wrapped", "(I)I"⟩, 3) := ⟨⟨by decide +kernel, by decide +kernel⟩, List.mem_of_getElem? (i := 144) (by decide +kernel), List.mem_of_getElem? (i := 505) (by decide +kernel), List.mem_of_getElem? (i := 506) (by decide +kernel)⟩
theorem lw_p10 : lw_okq (⟨"TileShares$Course", "fail", "(II)V"⟩, 15) := ⟨⟨by decide +kernel, by decide +kernel⟩, List.mem_of_getElem? (i := 138) (by decide +kernel), List.mem_of_getElem? (i := 514) (by decide +kernel), List.mem_of_getElem? (i := 515) (by decide +kernel)⟩
theorem lw_p11 : lw_okq (⟨"TileShares$Course", "doStep", "(II)V"⟩, 15) := ⟨⟨by decide +kernel, by decide +kernel⟩, List.mem_of_getElem? (i := 138) (by decide +kernel), List.mem_of_getElem? (i := 526) (by decide +kernel), List.mem_of_getElem? (i := 527) (by decide +kernel)⟩
theorem lw_p12 : lw_okq (⟨"TileShares", "putValues", "()V"⟩, 4) := ⟨⟨by decide +kernel, by decide +kernel⟩, List.mem_of_getElem? (i := 18) (by decide +kernel), List.mem_of_getElem? (i := 534) (by decide +kernel), List.mem_of_getElem? (i := 535) (by decide +kernel)⟩
theorem lw_p13 : lw_okq (⟨"TileSharesModel", "isShare", "(I)Z"⟩, 36) := ⟨⟨by decide +kernel, by decide +kernel⟩, List.mem_of_getElem? (i := 585) (by decide +kernel), List.mem_of_getElem? (i := 712) (by decide +kernel), List.mem_of_getElem? (i := 713) (by decide +kernel)⟩
theorem lw_p14 : lw_okq (⟨"TileSharesModel", "begin", "(I)V"⟩, 36) := ⟨⟨by decide +kernel, by decide +kernel⟩, List.mem_of_getElem? (i := 585) (by decide +kernel), List.mem_of_getElem? (i := 739) (by decide +kernel), List.mem_of_getElem? (i := 740) (by decide +kernel)⟩
theorem lw_p15 : lw_okq (⟨"TileSharesModel", "ending", "(I)I"⟩, 36) := ⟨⟨by decide +kernel, by decide +kernel⟩, List.mem_of_getElem? (i := 585) (by decide +kernel), List.mem_of_getElem? (i := 743) (by decide +kernel), List.mem_of_getElem? (i := 744) (by decide +kernel)⟩
def lw_privs_1 : List (MethodName × Nat) := [(⟨"TileShares", "countValues", "()I"⟩, 4), (⟨"TileShares", "isShare", "(I)Z"⟩, 4), (⟨"java/lang/Throwable", "fillInStackTrace", "(I)Ljava/lang/Throwable;"⟩, 6), (⟨"TileShares$Course", "endByState", "()I"⟩, 15), (⟨"TileShares$Course", "isStuck", "()Z"⟩, 15), (⟨"TileShares$Course", "canTake", "()Z"⟩, 15), (⟨"TileShares$Course", "shareToWaitFor", "(I)I"⟩, 15), (⟨"TileShares$Course", "tick", "(I)Z"⟩, 15), (⟨"TileShares$Course", "take", "(I)Z"⟩, 15), (⟨"TileShares$Line", "wrapped", "(I)I"⟩, 3), (⟨"TileShares$Course", "fail", "(II)V"⟩, 15), (⟨"TileShares$Course", "doStep", "(II)V"⟩, 15), (⟨"TileShares", "putValues", "()V"⟩, 4), (⟨"TileSharesModel", "isShare", "(I)Z"⟩, 36), (⟨"TileSharesModel", "begin", "(I)V"⟩, 36), (⟨"TileSharesModel", "ending", "(I)I"⟩, 36)]
theorem lw_r1 : ∀ q ∈ lw_privs_1, lw_okq q := List.forall_mem_cons.mpr ⟨lw_p0, List.forall_mem_cons.mpr ⟨lw_p1, List.forall_mem_cons.mpr ⟨lw_p2, List.forall_mem_cons.mpr ⟨lw_p3, List.forall_mem_cons.mpr ⟨lw_p4, List.forall_mem_cons.mpr ⟨lw_p5, List.forall_mem_cons.mpr ⟨lw_p6, List.forall_mem_cons.mpr ⟨lw_p7, List.forall_mem_cons.mpr ⟨lw_p8, List.forall_mem_cons.mpr ⟨lw_p9, List.forall_mem_cons.mpr ⟨lw_p10, List.forall_mem_cons.mpr ⟨lw_p11, List.forall_mem_cons.mpr ⟨lw_p12, List.forall_mem_cons.mpr ⟨lw_p13, List.forall_mem_cons.mpr ⟨lw_p14, List.forall_mem_cons.mpr ⟨lw_p15, fun _ h => absurd h List.not_mem_nil⟩⟩⟩⟩⟩⟩⟩⟩⟩⟩⟩⟩⟩⟩⟩⟩
theorem lw_p16 : lw_okq (⟨"TileSharesModel", "isFinished", "(I)Z"⟩, 36) := ⟨⟨by decide +kernel, by decide +kernel⟩, List.mem_of_getElem? (i := 585) (by decide +kernel), List.mem_of_getElem? (i := 747) (by decide +kernel), List.mem_of_getElem? (i := 748) (by decide +kernel)⟩
theorem lw_p17 : lw_okq (⟨"TileSharesModel", "isStuck", "(I)Z"⟩, 36) := ⟨⟨by decide +kernel, by decide +kernel⟩, List.mem_of_getElem? (i := 585) (by decide +kernel), List.mem_of_getElem? (i := 751) (by decide +kernel), List.mem_of_getElem? (i := 752) (by decide +kernel)⟩
theorem lw_p18 : lw_okq (⟨"TileSharesModel", "canTake", "()Z"⟩, 36) := ⟨⟨by decide +kernel, by decide +kernel⟩, List.mem_of_getElem? (i := 585) (by decide +kernel), List.mem_of_getElem? (i := 755) (by decide +kernel), List.mem_of_getElem? (i := 756) (by decide +kernel)⟩
theorem lw_p19 : lw_okq (⟨"TileSharesModel", "waitsFor", "(I)I"⟩, 36) := ⟨⟨by decide +kernel, by decide +kernel⟩, List.mem_of_getElem? (i := 585) (by decide +kernel), List.mem_of_getElem? (i := 759) (by decide +kernel), List.mem_of_getElem? (i := 760) (by decide +kernel)⟩
theorem lw_p20 : lw_okq (⟨"TileSharesModel", "tick", "(I)V"⟩, 36) := ⟨⟨by decide +kernel, by decide +kernel⟩, List.mem_of_getElem? (i := 585) (by decide +kernel), List.mem_of_getElem? (i := 765) (by decide +kernel), List.mem_of_getElem? (i := 766) (by decide +kernel)⟩
theorem lw_p21 : lw_okq (⟨"TileSharesModel", "take", "(I)V"⟩, 36) := ⟨⟨by decide +kernel, by decide +kernel⟩, List.mem_of_getElem? (i := 585) (by decide +kernel), List.mem_of_getElem? (i := 769) (by decide +kernel), List.mem_of_getElem? (i := 770) (by decide +kernel)⟩
theorem lw_p22 : lw_okq (⟨"TileSharesModel", "fails", "(II)Z"⟩, 36) := ⟨⟨by decide +kernel, by decide +kernel⟩, List.mem_of_getElem? (i := 585) (by decide +kernel), List.mem_of_getElem? (i := 773) (by decide +kernel), List.mem_of_getElem? (i := 774) (by decide +kernel)⟩
theorem lw_p23 : lw_okq (⟨"TileSharesModel", "doStep", "(II)V"⟩, 36) := ⟨⟨by decide +kernel, by decide +kernel⟩, List.mem_of_getElem? (i := 585) (by decide +kernel), List.mem_of_getElem? (i := 777) (by decide +kernel), List.mem_of_getElem? (i := 778) (by decide +kernel)⟩
def lw_privs_2 : List (MethodName × Nat) := [(⟨"TileSharesModel", "isFinished", "(I)Z"⟩, 36), (⟨"TileSharesModel", "isStuck", "(I)Z"⟩, 36), (⟨"TileSharesModel", "canTake", "()Z"⟩, 36), (⟨"TileSharesModel", "waitsFor", "(I)I"⟩, 36), (⟨"TileSharesModel", "tick", "(I)V"⟩, 36), (⟨"TileSharesModel", "take", "(I)V"⟩, 36), (⟨"TileSharesModel", "fails", "(II)Z"⟩, 36), (⟨"TileSharesModel", "doStep", "(II)V"⟩, 36)]
theorem lw_r2 : ∀ q ∈ lw_privs_2, lw_okq q := List.forall_mem_cons.mpr ⟨lw_p16, List.forall_mem_cons.mpr ⟨lw_p17, List.forall_mem_cons.mpr ⟨lw_p18, List.forall_mem_cons.mpr ⟨lw_p19, List.forall_mem_cons.mpr ⟨lw_p20, List.forall_mem_cons.mpr ⟨lw_p21, List.forall_mem_cons.mpr ⟨lw_p22, List.forall_mem_cons.mpr ⟨lw_p23, fun _ h => absurd h List.not_mem_nil⟩⟩⟩⟩⟩⟩⟩⟩
def lw_privs : List (MethodName × Nat) := lw_privs_1 ++ (lw_privs_2)
def lw_tbl : List Cond := k2_sels lw_privs ++ tables_1
theorem lw_privs_ok : ∀ q ∈ lw_privs, lw_okq q := by
  show ∀ q ∈ lw_privs_1 ++ (lw_privs_2), lw_okq q
  exact List.forall_mem_append.mpr ⟨lw_r1, lw_r2⟩
-- ===== end of PART A; names, written by a program of ours =====
def R_Course : String := "TileShares$Course"
def T_Course : u_T := fun k => match k with
  | 0 => ("TileShares$Course", "plan", "LTileShares$Plan;", true)
  | 1 => ("TileShares$Course", "line", "LTileShares$Line;", true)
  | 2 => ("TileShares$Course", "crew", "LTileShares$Crew;", true)
  | 3 => ("TileShares$Course", "done", "[I", true)
  | 4 => ("TileShares$Course", "values", "[[J", true)
  | 5 => ("TileShares$Course", "beginnings", "[I", true)
  | 6 => ("TileShares$Course", "waits", "[[I", true)
  | 7 => ("TileShares$Course", "finished", "[I", true)
  | 8 => ("TileShares$Course", "finishedCount", "I", false)
  | 9 => ("TileShares$Course", "cellsInUse", "I", false)
  | 10 => ("TileShares$Course", "mostCells", "I", false)
  | 11 => ("TileShares$Course", "ticks", "I", false)
  | 12 => ("TileShares$Course", "idleTicks", "I", false)
  | 13 => ("TileShares$Course", "waitTicks", "I", false)
  | _ => ("TileShares$Course", "stepsDone", "I", false)
def ty_Course : Nat → FieldType := fun k => match k with
  | 0 => .object "TileShares$Plan"
  | 1 => .object "TileShares$Line"
  | 2 => .object "TileShares$Crew"
  | 3 => .array .int
  | 4 => .array (.array .long)
  | 5 => .array .int
  | 6 => .array (.array .int)
  | 7 => .array .int
  | 8 => .int
  | 9 => .int
  | 10 => .int
  | 11 => .int
  | 12 => .int
  | 13 => .int
  | _ => .int
def R_Crew : String := "TileShares$Crew"
def T_Crew : u_T := fun k => match k with
  | 0 => ("TileShares$Crew", "living", "[I", true)
  | 1 => ("TileShares$Crew", "held", "[I", true)
  | _ => ("TileShares$Crew", "count", "I", false)
def ty_Crew : Nat → FieldType := fun k => match k with
  | 0 => .array .int
  | 1 => .array .int
  | _ => .int
def R_Failings : String := "TileShares$Failings"
def T_Failings : u_T := fun k => match k with
  | 0 => ("TileShares$Failings", "worker", "[I", true)
  | 1 => ("TileShares$Failings", "share", "[I", true)
  | 2 => ("TileShares$Failings", "step", "[I", true)
  | 3 => ("TileShares$Failings", "times", "[I", true)
  | 4 => ("TileShares$Failings", "timesLeft", "[I", true)
  | _ => ("TileShares$Failings", "count", "I", false)
def ty_Failings : Nat → FieldType := fun k => match k with
  | 0 => .array .int
  | 1 => .array .int
  | 2 => .array .int
  | 3 => .array .int
  | 4 => .array .int
  | _ => .int
def R_Line : String := "TileShares$Line"
def T_Line : u_T := fun k => match k with
  | 0 => ("TileShares$Line", "ring", "[I", true)
  | 1 => ("TileShares$Line", "head", "I", false)
  | _ => ("TileShares$Line", "length", "I", false)
def ty_Line : Nat → FieldType := fun k => match k with
  | 0 => .array .int
  | 1 => .int
  | _ => .int
def R_Needs : String := "TileShares$Needs"
def T_Needs : u_T := fun k => match k with
  | 0 => ("TileShares$Needs", "count", "[I", true)
  | 1 => ("TileShares$Needs", "step", "[[I", true)
  | 2 => ("TileShares$Needs", "other", "[[I", true)
  | _ => ("TileShares$Needs", "least", "[[I", true)
def ty_Needs : Nat → FieldType := fun k => match k with
  | 0 => .array .int
  | 1 => .array (.array .int)
  | 2 => .array (.array .int)
  | _ => .array (.array .int)
def R_Plan : String := "TileShares$Plan"
def T_Plan : u_T := fun k => match k with
  | 0 => ("TileShares$Plan", "shares", "I", true)
  | 1 => ("TileShares$Plan", "room", "I", true)
  | 2 => ("TileShares$Plan", "steps", "[I", true)
  | 3 => ("TileShares$Plan", "cells", "[I", true)
  | 4 => ("TileShares$Plan", "starts", "[J", true)
  | 5 => ("TileShares$Plan", "needs", "LTileShares$Needs;", true)
  | 6 => ("TileShares$Plan", "failings", "LTileShares$Failings;", true)
  | _ => ("TileShares$Plan", "stopAt", "I", false)
def ty_Plan : Nat → FieldType := fun k => match k with
  | 0 => .int
  | 1 => .int
  | 2 => .array .int
  | 3 => .array .int
  | 4 => .array .long
  | 5 => .object "TileShares$Needs"
  | 6 => .object "TileShares$Failings"
  | _ => .int
def R_TS : String := "TileShares"
def T_TS : u_T := fun k => match k with
  | 0 => ("TileShares", "plan", "LTileShares$Plan;", true)
  | 1 => ("TileShares", "course", "LTileShares$Course;", true)
  | 2 => ("TileShares", "hasValue", "[Z", true)
  | _ => ("TileShares", "putValue", "[J", true)
def ty_TS : Nat → FieldType := fun k => match k with
  | 0 => .object "TileShares$Plan"
  | 1 => .object "TileShares$Course"
  | 2 => .array .boolean
  | _ => .array .long
def R_Model : String := "TileSharesModel"
def T_Model : u_T := fun k => match k with
  | 0 => ("TileSharesModel", "code", "I", false)
  | 1 => ("TileSharesModel", "shares", "I", true)
  | 2 => ("TileSharesModel", "room", "I", true)
  | 3 => ("TileSharesModel", "steps", "[I", true)
  | 4 => ("TileSharesModel", "cells", "[I", true)
  | 5 => ("TileSharesModel", "starts", "[J", true)
  | 6 => ("TileSharesModel", "needCounts", "[I", true)
  | 7 => ("TileSharesModel", "needSteps", "[I", true)
  | 8 => ("TileSharesModel", "needOthers", "[I", true)
  | 9 => ("TileSharesModel", "needMany", "[I", true)
  | 10 => ("TileSharesModel", "failWorkers", "[I", true)
  | 11 => ("TileSharesModel", "failShares", "[I", true)
  | 12 => ("TileSharesModel", "failSteps", "[I", true)
  | 13 => ("TileSharesModel", "failTimes", "[I", true)
  | 14 => ("TileSharesModel", "failLeft", "[I", true)
  | 15 => ("TileSharesModel", "failings", "I", false)
  | 16 => ("TileSharesModel", "stop", "I", false)
  | 17 => ("TileSharesModel", "hasValue", "[Z", true)
  | 18 => ("TileSharesModel", "values", "[J", true)
  | 19 => ("TileSharesModel", "behind", "[J", true)
  | 20 => ("TileSharesModel", "done", "[I", true)
  | 21 => ("TileSharesModel", "works", "[I", true)
  | 22 => ("TileSharesModel", "queue", "[I", true)
  | 23 => ("TileSharesModel", "queued", "I", false)
  | 24 => ("TileSharesModel", "used", "I", false)
  | 25 => ("TileSharesModel", "living", "I", false)
  | 26 => ("TileSharesModel", "order", "[I", true)
  | 27 => ("TileSharesModel", "begun", "[I", true)
  | 28 => ("TileSharesModel", "waited", "[I", true)
  | 29 => ("TileSharesModel", "finished", "I", false)
  | 30 => ("TileSharesModel", "ticks", "I", false)
  | 31 => ("TileSharesModel", "idle", "I", false)
  | 32 => ("TileSharesModel", "waits", "I", false)
  | 33 => ("TileSharesModel", "stepsDone", "I", false)
  | 34 => ("TileSharesModel", "most", "I", false)
  | _ => ("TileSharesModel", "livedAtEnd", "I", false)
def ty_Model : Nat → FieldType := fun k => match k with
  | 0 => .int
  | 1 => .int
  | 2 => .int
  | 3 => .array .int
  | 4 => .array .int
  | 5 => .array .long
  | 6 => .array .int
  | 7 => .array .int
  | 8 => .array .int
  | 9 => .array .int
  | 10 => .array .int
  | 11 => .array .int
  | 12 => .array .int
  | 13 => .array .int
  | 14 => .array .int
  | 15 => .int
  | 16 => .int
  | 17 => .array .boolean
  | 18 => .array .long
  | 19 => .array .long
  | 20 => .array .int
  | 21 => .array .int
  | 22 => .array .int
  | 23 => .int
  | 24 => .int
  | 25 => .int
  | 26 => .array .int
  | 27 => .array .int
  | 28 => .array .int
  | 29 => .int
  | 30 => .int
  | 31 => .int
  | 32 => .int
  | 33 => .int
  | 34 => .int
  | _ => .int
def R_Law : String := "TileSharesLaw"
abbrev vwCl : List vw_C := [(R_Course, T_Course, 15), (R_Crew, T_Crew, 3), (R_Failings, T_Failings, 6), (R_Line, T_Line, 3), (R_Needs, T_Needs, 4), (R_Plan, T_Plan, 8), (R_TS, T_TS, 4), (R_Model, T_Model, 36)]
theorem nm_Course : ∀ a, a < 15 → ∀ b, b < 15 → a ≠ b → (T_Course a).2.1 ≠ (T_Course b).2.1 := by decide +kernel
theorem ty_Course_ok : ∀ k, k < 15 → parseFieldDescriptor (T_Course k).2.2.1 = some (ty_Course k) := by decide +kernel
theorem ly0_Course : ∀ w ∈ u_ws R_Course T_Course 15, w ∈ lw_tbl := by decide +kernel
theorem nm_Crew : ∀ a, a < 3 → ∀ b, b < 3 → a ≠ b → (T_Crew a).2.1 ≠ (T_Crew b).2.1 := by decide +kernel
theorem ty_Crew_ok : ∀ k, k < 3 → parseFieldDescriptor (T_Crew k).2.2.1 = some (ty_Crew k) := by decide +kernel
theorem ly0_Crew : ∀ w ∈ u_ws R_Crew T_Crew 3, w ∈ lw_tbl := by decide +kernel
theorem nm_Failings : ∀ a, a < 6 → ∀ b, b < 6 → a ≠ b → (T_Failings a).2.1 ≠ (T_Failings b).2.1 := by decide +kernel
theorem ty_Failings_ok : ∀ k, k < 6 → parseFieldDescriptor (T_Failings k).2.2.1 = some (ty_Failings k) := by decide +kernel
theorem ly0_Failings : ∀ w ∈ u_ws R_Failings T_Failings 6, w ∈ lw_tbl := by decide +kernel
theorem nm_Line : ∀ a, a < 3 → ∀ b, b < 3 → a ≠ b → (T_Line a).2.1 ≠ (T_Line b).2.1 := by decide +kernel
theorem ty_Line_ok : ∀ k, k < 3 → parseFieldDescriptor (T_Line k).2.2.1 = some (ty_Line k) := by decide +kernel
theorem ly0_Line : ∀ w ∈ u_ws R_Line T_Line 3, w ∈ lw_tbl := by decide +kernel
theorem nm_Needs : ∀ a, a < 4 → ∀ b, b < 4 → a ≠ b → (T_Needs a).2.1 ≠ (T_Needs b).2.1 := by decide +kernel
theorem ty_Needs_ok : ∀ k, k < 4 → parseFieldDescriptor (T_Needs k).2.2.1 = some (ty_Needs k) := by decide +kernel
theorem ly0_Needs : ∀ w ∈ u_ws R_Needs T_Needs 4, w ∈ lw_tbl := by decide +kernel
theorem nm_Plan : ∀ a, a < 8 → ∀ b, b < 8 → a ≠ b → (T_Plan a).2.1 ≠ (T_Plan b).2.1 := by decide +kernel
theorem ty_Plan_ok : ∀ k, k < 8 → parseFieldDescriptor (T_Plan k).2.2.1 = some (ty_Plan k) := by decide +kernel
theorem ly0_Plan : ∀ w ∈ u_ws R_Plan T_Plan 8, w ∈ lw_tbl := by decide +kernel
theorem nm_TS : ∀ a, a < 4 → ∀ b, b < 4 → a ≠ b → (T_TS a).2.1 ≠ (T_TS b).2.1 := by decide +kernel
theorem ty_TS_ok : ∀ k, k < 4 → parseFieldDescriptor (T_TS k).2.2.1 = some (ty_TS k) := by decide +kernel
theorem ly0_TS : ∀ w ∈ u_ws R_TS T_TS 4, w ∈ lw_tbl := by decide +kernel
theorem nm_Model : ∀ a, a < 36 → ∀ b, b < 36 → a ≠ b → (T_Model a).2.1 ≠ (T_Model b).2.1 := by decide +kernel
theorem ty_Model_ok : ∀ k, k < 36 → parseFieldDescriptor (T_Model k).2.2.1 = some (ty_Model k) := by decide +kernel
theorem ly0_Model : ∀ w ∈ u_ws R_Model T_Model 36, w ∈ lw_tbl := by decide +kernel
