section
-- ===== PART A: goes FIRST, ahead of the names: the tables' words, and 'selects' of the private methods out of them =====
/-- a private method of a class that the tables say can be made, by its rows of tables_1 -/
def lw_okq (q : MethodName × Nat) : Prop := (q.1.cls ≠ "java/lang/invoke/MethodHandle" ∧ q.1.cls ≠ "java/lang/invoke/VarHandle") ∧ Cond.instantiable q.1.cls q.2 ∈ tables_1 ∧ Cond.privateMethod q.1 ∈ tables_1 ∧ Cond.instanceMethod q.1 ∈ tables_1
theorem lw_p0 : lw_okq (⟨"ExamDesk", "dropPlan", "()V"⟩, 3) := ⟨⟨by decide +kernel, by decide +kernel⟩, List.mem_of_getElem? (i := 16) (by decide +kernel), List.mem_of_getElem? (i := 175) (by decide +kernel), List.mem_of_getElem? (i := 176) (by decide +kernel)⟩
theorem lw_p1 : lw_okq (⟨"ExamDesk$Planner", "gatherRules", "(LExamDesk$Timetable;)V"⟩, 6) := ⟨⟨by decide +kernel, by decide +kernel⟩, List.mem_of_getElem? (i := 32) (by decide +kernel), List.mem_of_getElem? (i := 211) (by decide +kernel), List.mem_of_getElem? (i := 212) (by decide +kernel)⟩
theorem lw_p2 : lw_okq (⟨"ExamDesk$Planner", "useSession", "(II)V"⟩, 6) := ⟨⟨by decide +kernel, by decide +kernel⟩, List.mem_of_getElem? (i := 32) (by decide +kernel), List.mem_of_getElem? (i := 229) (by decide +kernel), List.mem_of_getElem? (i := 230) (by decide +kernel)⟩
theorem lw_p3 : lw_okq (⟨"ExamDesk$Planner", "papersReady", "(I)I"⟩, 6) := ⟨⟨by decide +kernel, by decide +kernel⟩, List.mem_of_getElem? (i := 32) (by decide +kernel), List.mem_of_getElem? (i := 233) (by decide +kernel), List.mem_of_getElem? (i := 234) (by decide +kernel)⟩
theorem lw_p4 : lw_okq (⟨"ExamDesk$Planner", "addMeetings", "(III)V"⟩, 6) := ⟨⟨by decide +kernel, by decide +kernel⟩, List.mem_of_getElem? (i := 32) (by decide +kernel), List.mem_of_getElem? (i := 238) (by decide +kernel), List.mem_of_getElem? (i := 239) (by decide +kernel)⟩
theorem lw_p5 : lw_okq (⟨"ExamDesk$Planner", "mayMeet", "(I)Z"⟩, 6) := ⟨⟨by decide +kernel, by decide +kernel⟩, List.mem_of_getElem? (i := 32) (by decide +kernel), List.mem_of_getElem? (i := 248) (by decide +kernel), List.mem_of_getElem? (i := 249) (by decide +kernel)⟩
theorem lw_p6 : lw_okq (⟨"ExamDesk$Timetable", "readPlan", "(I)V"⟩, 10) := ⟨⟨by decide +kernel, by decide +kernel⟩, List.mem_of_getElem? (i := 24) (by decide +kernel), List.mem_of_getElem? (i := 254) (by decide +kernel), List.mem_of_getElem? (i := 255) (by decide +kernel)⟩
theorem lw_p7 : lw_okq (⟨"ExamDesk$Timetable", "sessionsOf", "(I)I"⟩, 10) := ⟨⟨by decide +kernel, by decide +kernel⟩, List.mem_of_getElem? (i := 24) (by decide +kernel), List.mem_of_getElem? (i := 266) (by decide +kernel), List.mem_of_getElem? (i := 267) (by decide +kernel)⟩
theorem lw_p8 : lw_okq (⟨"java/lang/Throwable", "fillInStackTrace", "(I)Ljava/lang/Throwable;"⟩, 6) := ⟨⟨by decide +kernel, by decide +kernel⟩, List.mem_of_getElem? (i := 327) (by decide +kernel), List.mem_of_getElem? (i := 325) (by decide +kernel), List.mem_of_getElem? (i := 326) (by decide +kernel)⟩
theorem lw_p9 : lw_okq (⟨"ExamDesk$Rooms", "firstPlace", "(III)I"⟩, 7) := ⟨⟨by decide +kernel, by decide +kernel⟩, List.mem_of_getElem? (i := 103) (by decide +kernel), List.mem_of_getElem? (i := 514) (by decide +kernel), List.mem_of_getElem? (i := 515) (by decide +kernel)⟩
theorem lw_p10 : lw_okq (⟨"ExamDesk$Rooms", "hasNeighbour", "(IIIII)Z"⟩, 7) := ⟨⟨by decide +kernel, by decide +kernel⟩, List.mem_of_getElem? (i := 103) (by decide +kernel), List.mem_of_getElem? (i := 519) (by decide +kernel), List.mem_of_getElem? (i := 520) (by decide +kernel)⟩
theorem lw_p11 : lw_okq (⟨"ExamDesk$Rooms", "isWritten", "(IIIII)Z"⟩, 7) := ⟨⟨by decide +kernel, by decide +kernel⟩, List.mem_of_getElem? (i := 103) (by decide +kernel), List.mem_of_getElem? (i := 523) (by decide +kernel), List.mem_of_getElem? (i := 524) (by decide +kernel)⟩
theorem lw_p12 : lw_okq (⟨"ExamDesk$Rota", "thoseWithTime", "()I"⟩, 5) := ⟨⟨by decide +kernel, by decide +kernel⟩, List.mem_of_getElem? (i := 136) (by decide +kernel), List.mem_of_getElem? (i := 581) (by decide +kernel), List.mem_of_getElem? (i := 582) (by decide +kernel)⟩
theorem lw_p13 : lw_okq (⟨"ExamDesk$Rota", "watchesOf", "(I)I"⟩, 5) := ⟨⟨by decide +kernel, by decide +kernel⟩, List.mem_of_getElem? (i := 136) (by decide +kernel), List.mem_of_getElem? (i := 585) (by decide +kernel), List.mem_of_getElem? (i := 586) (by decide +kernel)⟩
theorem lw_p14 : lw_okq (⟨"ExamDesk$Rota", "thoseWithout", "(I)I"⟩, 5) := ⟨⟨by decide +kernel, by decide +kernel⟩, List.mem_of_getElem? (i := 136) (by decide +kernel), List.mem_of_getElem? (i := 602) (by decide +kernel), List.mem_of_getElem? (i := 603) (by decide +kernel)⟩
theorem lw_p15 : lw_okq (⟨"ExamDesk$Rota", "areEnough", "(I)Z"⟩, 5) := ⟨⟨by decide +kernel, by decide +kernel⟩, List.mem_of_getElem? (i := 136) (by decide +kernel), List.mem_of_getElem? (i := 606) (by decide +kernel), List.mem_of_getElem? (i := 607) (by decide +kernel)⟩
def lw_privs_1 : List (MethodName × Nat) := [(⟨"ExamDesk", "dropPlan", "()V"⟩, 3), (⟨"ExamDesk$Planner", "gatherRules", "(LExamDesk$Timetable;)V"⟩, 6), (⟨"ExamDesk$Planner", "useSession", "(II)V"⟩, 6), (⟨"ExamDesk$Planner", "papersReady", "(I)I"⟩, 6), (⟨"ExamDesk$Planner", "addMeetings", "(III)V"⟩, 6), (⟨"ExamDesk$Planner", "mayMeet", "(I)Z"⟩, 6), (⟨"ExamDesk$Timetable", "readPlan", "(I)V"⟩, 10), (⟨"ExamDesk$Timetable", "sessionsOf", "(I)I"⟩, 10), (⟨"java/lang/Throwable", "fillInStackTrace", "(I)Ljava/lang/Throwable;"⟩, 6), (⟨"ExamDesk$Rooms", "firstPlace", "(III)I"⟩, 7), (⟨"ExamDesk$Rooms", "hasNeighbour", "(IIIII)Z"⟩, 7), (⟨"ExamDesk$Rooms", "isWritten", "(IIIII)Z"⟩, 7), (⟨"ExamDesk$Rota", "thoseWithTime", "()I"⟩, 5), (⟨"ExamDesk$Rota", "watchesOf", "(I)I"⟩, 5), (⟨"ExamDesk$Rota", "thoseWithout", "(I)I"⟩, 5), (⟨"ExamDesk$Rota", "areEnough", "(I)Z"⟩, 5)]
theorem lw_r1 : ∀ q ∈ lw_privs_1, lw_okq q := List.forall_mem_cons.mpr ⟨lw_p0, List.forall_mem_cons.mpr ⟨lw_p1, List.forall_mem_cons.mpr ⟨lw_p2, List.forall_mem_cons.mpr ⟨lw_p3, List.forall_mem_cons.mpr ⟨lw_p4, List.forall_mem_cons.mpr ⟨lw_p5, List.forall_mem_cons.mpr ⟨lw_p6, List.forall_mem_cons.mpr ⟨lw_p7, List.forall_mem_cons.mpr ⟨lw_p8, List.forall_mem_cons.mpr ⟨lw_p9, List.forall_mem_cons.mpr ⟨lw_p10, List.forall_mem_cons.mpr ⟨lw_p11, List.forall_mem_cons.mpr ⟨lw_p12, List.forall_mem_cons.mpr ⟨lw_p13, List.forall_mem_cons.mpr ⟨lw_p14, List.forall_mem_cons.mpr ⟨lw_p15, fun _ h => absurd h List.not_mem_nil⟩⟩⟩⟩⟩⟩⟩⟩⟩⟩⟩⟩⟩⟩⟩⟩
theorem lw_p16 : lw_okq (⟨"ExamDesk$Rota", "staffRoom", "(III)I"⟩, 5) := ⟨⟨by decide +kernel, by decide +kernel⟩, List.mem_of_getElem? (i := 136) (by decide +kernel), List.mem_of_getElem? (i := 611) (by decide +kernel), List.mem_of_getElem? (i := 612) (by decide +kernel)⟩
theorem lw_p17 : lw_okq (⟨"ExamDeskModel", "goes", "(ZZ)Z"⟩, 25) := ⟨⟨by decide +kernel, by decide +kernel⟩, List.mem_of_getElem? (i := 649) (by decide +kernel), List.mem_of_getElem? (i := 746) (by decide +kernel), List.mem_of_getElem? (i := 747) (by decide +kernel)⟩
theorem lw_p18 : lw_okq (⟨"ExamDeskModel", "forget", "()V"⟩, 25) := ⟨⟨by decide +kernel, by decide +kernel⟩, List.mem_of_getElem? (i := 649) (by decide +kernel), List.mem_of_getElem? (i := 750) (by decide +kernel), List.mem_of_getElem? (i := 751) (by decide +kernel)⟩
theorem lw_p19 : lw_okq (⟨"ExamDeskModel", "common", "(II)I"⟩, 25) := ⟨⟨by decide +kernel, by decide +kernel⟩, List.mem_of_getElem? (i := 649) (by decide +kernel), List.mem_of_getElem? (i := 784) (by decide +kernel), List.mem_of_getElem? (i := 785) (by decide +kernel)⟩
theorem lw_p20 : lw_okq (⟨"ExamDeskModel", "held", "()I"⟩, 25) := ⟨⟨by decide +kernel, by decide +kernel⟩, List.mem_of_getElem? (i := 649) (by decide +kernel), List.mem_of_getElem? (i := 792) (by decide +kernel), List.mem_of_getElem? (i := 793) (by decide +kernel)⟩
theorem lw_p21 : lw_okq (⟨"ExamDeskModel", "fits", "(III)Z"⟩, 25) := ⟨⟨by decide +kernel, by decide +kernel⟩, List.mem_of_getElem? (i := 649) (by decide +kernel), List.mem_of_getElem? (i := 796) (by decide +kernel), List.mem_of_getElem? (i := 797) (by decide +kernel)⟩
theorem lw_p22 : lw_okq (⟨"ExamDeskModel", "least", "(I)I"⟩, 25) := ⟨⟨by decide +kernel, by decide +kernel⟩, List.mem_of_getElem? (i := 649) (by decide +kernel), List.mem_of_getElem? (i := 803) (by decide +kernel), List.mem_of_getElem? (i := 804) (by decide +kernel)⟩
theorem lw_p23 : lw_okq (⟨"ExamDeskModel", "keeps", "(II)Z"⟩, 25) := ⟨⟨by decide +kernel, by decide +kernel⟩, List.mem_of_getElem? (i := 649) (by decide +kernel), List.mem_of_getElem? (i := 807) (by decide +kernel), List.mem_of_getElem? (i := 808) (by decide +kernel)⟩
theorem lw_p24 : lw_okq (⟨"ExamDeskModel", "follows", "(III)Z"⟩, 25) := ⟨⟨by decide +kernel, by decide +kernel⟩, List.mem_of_getElem? (i := 649) (by decide +kernel), List.mem_of_getElem? (i := 811) (by decide +kernel), List.mem_of_getElem? (i := 812) (by decide +kernel)⟩
theorem lw_p25 : lw_okq (⟨"ExamDeskModel", "paperOf", "(II)I"⟩, 25) := ⟨⟨by decide +kernel, by decide +kernel⟩, List.mem_of_getElem? (i := 649) (by decide +kernel), List.mem_of_getElem? (i := 823) (by decide +kernel), List.mem_of_getElem? (i := 824) (by decide +kernel)⟩
theorem lw_p26 : lw_okq (⟨"ExamDeskModel", "isSeat", "(III)Z"⟩, 25) := ⟨⟨by decide +kernel, by decide +kernel⟩, List.mem_of_getElem? (i := 649) (by decide +kernel), List.mem_of_getElem? (i := 838) (by decide +kernel), List.mem_of_getElem? (i := 839) (by decide +kernel)⟩
theorem lw_p27 : lw_okq (⟨"ExamDeskModel", "place", "(II)I"⟩, 25) := ⟨⟨by decide +kernel, by decide +kernel⟩, List.mem_of_getElem? (i := 649) (by decide +kernel), List.mem_of_getElem? (i := 846) (by decide +kernel), List.mem_of_getElem? (i := 847) (by decide +kernel)⟩
theorem lw_p28 : lw_okq (⟨"ExamDeskModel", "seatFor", "(III)I"⟩, 25) := ⟨⟨by decide +kernel, by decide +kernel⟩, List.mem_of_getElem? (i := 649) (by decide +kernel), List.mem_of_getElem? (i := 850) (by decide +kernel), List.mem_of_getElem? (i := 851) (by decide +kernel)⟩
theorem lw_p29 : lw_okq (⟨"ExamDeskModel", "sitsFor", "(IIIII)Z"⟩, 25) := ⟨⟨by decide +kernel, by decide +kernel⟩, List.mem_of_getElem? (i := 649) (by decide +kernel), List.mem_of_getElem? (i := 854) (by decide +kernel), List.mem_of_getElem? (i := 855) (by decide +kernel)⟩
theorem lw_p30 : lw_okq (⟨"ExamDeskModel", "sitting", "(II)I"⟩, 25) := ⟨⟨by decide +kernel, by decide +kernel⟩, List.mem_of_getElem? (i := 649) (by decide +kernel), List.mem_of_getElem? (i := 888) (by decide +kernel), List.mem_of_getElem? (i := 889) (by decide +kernel)⟩
theorem lw_p31 : lw_okq (⟨"ExamDeskModel", "mayWatch", "(III)Z"⟩, 25) := ⟨⟨by decide +kernel, by decide +kernel⟩, List.mem_of_getElem? (i := 649) (by decide +kernel), List.mem_of_getElem? (i := 892) (by decide +kernel), List.mem_of_getElem? (i := 893) (by decide +kernel)⟩
def lw_privs_2 : List (MethodName × Nat) := [(⟨"ExamDesk$Rota", "staffRoom", "(III)I"⟩, 5), (⟨"ExamDeskModel", "goes", "(ZZ)Z"⟩, 25), (⟨"ExamDeskModel", "forget", "()V"⟩, 25), (⟨"ExamDeskModel", "common", "(II)I"⟩, 25), (⟨"ExamDeskModel", "held", "()I"⟩, 25), (⟨"ExamDeskModel", "fits", "(III)Z"⟩, 25), (⟨"ExamDeskModel", "least", "(I)I"⟩, 25), (⟨"ExamDeskModel", "keeps", "(II)Z"⟩, 25), (⟨"ExamDeskModel", "follows", "(III)Z"⟩, 25), (⟨"ExamDeskModel", "paperOf", "(II)I"⟩, 25), (⟨"ExamDeskModel", "isSeat", "(III)Z"⟩, 25), (⟨"ExamDeskModel", "place", "(II)I"⟩, 25), (⟨"ExamDeskModel", "seatFor", "(III)I"⟩, 25), (⟨"ExamDeskModel", "sitsFor", "(IIIII)Z"⟩, 25), (⟨"ExamDeskModel", "sitting", "(II)I"⟩, 25), (⟨"ExamDeskModel", "mayWatch", "(III)Z"⟩, 25)]
theorem lw_r2 : ∀ q ∈ lw_privs_2, lw_okq q := List.forall_mem_cons.mpr ⟨lw_p16, List.forall_mem_cons.mpr ⟨lw_p17, List.forall_mem_cons.mpr ⟨lw_p18, List.forall_mem_cons.mpr ⟨lw_p19, List.forall_mem_cons.mpr ⟨lw_p20, List.forall_mem_cons.mpr ⟨lw_p21, List.forall_mem_cons.mpr ⟨lw_p22, List.forall_mem_cons.mpr ⟨lw_p23, List.forall_mem_cons.mpr ⟨lw_p24, List.forall_mem_cons.mpr ⟨lw_p25, List.forall_mem_cons.mpr ⟨lw_p26, List.forall_mem_cons.mpr ⟨lw_p27, List.forall_mem_cons.mpr ⟨lw_p28, List.forall_mem_cons.mpr ⟨lw_p29, List.forall_mem_cons.mpr ⟨lw_p30, List.forall_mem_cons.mpr ⟨lw_p31, fun _ h => absurd h List.not_mem_nil⟩⟩⟩⟩⟩⟩⟩⟩⟩⟩⟩⟩⟩⟩⟩⟩
theorem lw_p32 : lw_okq (⟨"ExamDeskModel", "sessionsOf", "(I)I"⟩, 25) := ⟨⟨by decide +kernel, by decide +kernel⟩, List.mem_of_getElem? (i := 649) (by decide +kernel), List.mem_of_getElem? (i := 896) (by decide +kernel), List.mem_of_getElem? (i := 897) (by decide +kernel)⟩
theorem lw_p33 : lw_okq (⟨"ExamDeskModel", "given", "(II)Z"⟩, 25) := ⟨⟨by decide +kernel, by decide +kernel⟩, List.mem_of_getElem? (i := 649) (by decide +kernel), List.mem_of_getElem? (i := 900) (by decide +kernel), List.mem_of_getElem? (i := 901) (by decide +kernel)⟩
theorem lw_p34 : lw_okq (⟨"ExamDeskModel", "used", "()I"⟩, 25) := ⟨⟨by decide +kernel, by decide +kernel⟩, List.mem_of_getElem? (i := 649) (by decide +kernel), List.mem_of_getElem? (i := 912) (by decide +kernel), List.mem_of_getElem? (i := 913) (by decide +kernel)⟩
def lw_privs_3 : List (MethodName × Nat) := [(⟨"ExamDeskModel", "sessionsOf", "(I)I"⟩, 25), (⟨"ExamDeskModel", "given", "(II)Z"⟩, 25), (⟨"ExamDeskModel", "used", "()I"⟩, 25)]
theorem lw_r3 : ∀ q ∈ lw_privs_3, lw_okq q := List.forall_mem_cons.mpr ⟨lw_p32, List.forall_mem_cons.mpr ⟨lw_p33, List.forall_mem_cons.mpr ⟨lw_p34, fun _ h => absurd h List.not_mem_nil⟩⟩⟩
def lw_privs : List (MethodName × Nat) := lw_privs_1 ++ (lw_privs_2 ++ (lw_privs_3))
def lw_tbl : List Cond := k2_sels lw_privs ++ tables_1
theorem lw_privs_ok : ∀ q ∈ lw_privs, lw_okq q := by
  show ∀ q ∈ lw_privs_1 ++ (lw_privs_2 ++ (lw_privs_3)), lw_okq q
  exact List.forall_mem_append.mpr ⟨lw_r1, List.forall_mem_append.mpr ⟨lw_r2, lw_r3⟩⟩
end
section
/-! ===== the tables' words that every call keeps; the words of nest mates and of casts ===== -/
def gw : List Cond := lw_tbl.filter goodWord
theorem gw_of {w : Cond} (h : w ∈ lw_tbl) (hg : goodWord w = true) : w ∈ gw := List.mem_filter.mpr ⟨h, hg⟩
theorem gw_tbl {w : Cond} (h : w ∈ gw) : w ∈ lw_tbl := (List.mem_filter.mp h).1
theorem gw_good {w : Cond} (h : w ∈ gw) : (w.onTables && w.keeps) = true ∨ ∃ ty, w = .arrayClass ty := good_of_word (List.mem_filter.mp h).2
theorem gw_in {ws : List Cond} (h : ∀ w ∈ ws, w ∈ gw) : GoodIn gw ws := fun w hw => ⟨h w hw, gw_good (h w hw)⟩
theorem gw_one {w : Cond} (h : w ∈ gw) : GoodIn gw [w] := gw_in (fun v hv => by rw [List.mem_singleton.mp hv]; exact h)
theorem tb_0 {w : Cond} (h : w ∈ k2_sels lw_privs) : w ∈ lw_tbl := List.mem_append_left _ h
theorem tb_1 {w : Cond} (h : w ∈ tables_1_1) : w ∈ lw_tbl := List.mem_append_right _ (List.mem_append_left _ h)
theorem tb_2 {w : Cond} (h : w ∈ tables_1_2) : w ∈ lw_tbl := List.mem_append_right _ (List.mem_append_right _ (List.mem_append_left _ h))
theorem tb_3 {w : Cond} (h : w ∈ tables_1_3) : w ∈ lw_tbl := List.mem_append_right _ (List.mem_append_right _ (List.mem_append_right _ (List.mem_append_left _ h)))
theorem tb_4 {w : Cond} (h : w ∈ tables_1_4) : w ∈ lw_tbl := List.mem_append_right _ (List.mem_append_right _ (List.mem_append_right _ (List.mem_append_right _ h)))
theorem sl_of {q : MethodName × Nat} (h : q ∈ lw_privs) : Cond.selects q.1.cls q.1 q.1 ∈ gw := gw_of (tb_0 (List.mem_map.mpr ⟨q, h, rfl⟩)) rfl
/-- links to nest mates: own class, index, method; the host is ExamDesk -/
def nl_all : List (String × Nat × MethodName) := [("ExamDesk", 25, ⟨"ExamDesk$Rota", "<init>", "()V"⟩), ("ExamDesk$Timetable", 61, ⟨"ExamDesk", "with", "(IIZ)I"⟩), ("ExamDesk$Timetable", 57, ⟨"ExamDesk", "has", "(II)Z"⟩), ("ExamDesk$Planner", 71, ⟨"ExamDesk", "with", "(IIZ)I"⟩), ("ExamDesk$Rooms", 46, ⟨"ExamDesk", "isBelow", "(II)Z"⟩), ("ExamDesk$Rooms", 54, ⟨"ExamDesk", "placeAt", "(III)I"⟩), ("ExamDesk$Rota", 70, ⟨"ExamDesk", "has", "(II)Z"⟩), ("ExamDesk$Rota", 66, ⟨"ExamDesk", "with", "(IIZ)I"⟩)]
def cs_all : List (String × String) := [("java/util/NoSuchElementException", "java/util/NoSuchElementException"), ("java/lang/IllegalArgumentException", "java/lang/IllegalArgumentException"), ("java/lang/IllegalStateException", "java/lang/IllegalStateException")]
def evT (U : State) : Prop := (∀ w ∈ gw, ∀ a : Array Value, w.before a U = true) ∧ (∀ q ∈ nl_all, va_Nw (.methodLinkNest q.1 q.2.1 q.2.2 "ExamDesk") U) ∧ (∀ q ∈ cs_all, va_Nw (.castable q.1 q.2) U)
theorem evT.warm {s U : State} (hW : s.WarmedH U.vm) (h : evT s) : evT U :=
  ⟨fun w hw a => word_at hW (gw_good hw) (h.1 w hw #[]), fun q hq => va_Nw.warmM hW (h.2.1 q hq), fun q hq => va_Nw.warmC hW (h.2.2 q hq)⟩
theorem evT.calling {U : State} {g : JFrame} {mk : MethodId} {a : Array Value} (h : evT U) : evT (U.calling g mk a) := evT.warm (State.WarmedH.refl U) h
theorem evT.hts {s : State} (h : evT s) (args : Array Value) : ∀ w ∈ gw, w.before args s = true := fun w hw => h.1 w hw args

/-! ===== a memory: which cell, which place ===== -/
abbrev Mem : Type := Nat → Nat → Int32
def up2 (M : Mem) (k i : Nat) (x : Int32) : Mem := fun j => if j = k then upd (M j) i x else M j
theorem up2_same (M : Mem) (k i : Nat) (x : Int32) : up2 M k i x k = upd (M k) i x := if_pos rfl
theorem up2_ne {M : Mem} {k i j : Nat} {x : Int32} (h : j ≠ k) : up2 M k i x j = M j := if_neg h
theorem up2_at (M : Mem) (k i : Nat) (x : Int32) : up2 M k i x k i = x := by rw [up2_same]; exact pk_us
theorem up2_off {M : Mem} {k i j n : Nat} {x : Int32} (h : ¬ (j = k ∧ n = i)) : up2 M k i x j n = M j n := by
  by_cases hj : j = k
  · subst hj; rw [up2_same]; exact pk_un (fun e => h ⟨rfl, e⟩)
  · rw [up2_ne hj]
/-- a cell's kind: (0, n, _) ints; (1, n, _) booleans; (2, n, _) references to the n cells behind it; (3, c, fields) an object of class c: a field is a reference to a cell (inl) or a number (inr) -/
abbrev Kd : Type := Nat × Nat × List (Nat ⊕ Nat)
def wfld (ad : Nat → Nat) (f : Nat → Int32) : Nat ⊕ Nat → Value
  | .inl j => .ref (ad j)
  | .inr i => .int (f i)
def wcell (c3 : ClassId × ClassId × ClassId) (ad : Nat → Nat) (f : Nat → Int32) (k : Nat) (d : Kd) : va_E := match d with
  | (0, n, _) => .inl (c3.1, n, .inl f)
  | (1, n, _) => .inl (c3.2.1, n, .inl f)
  | (2, n, _) => .inl (c3.2.2, n, .inr (.inr (.inr (.inr (fun i => if i < n then some (ad (k + 1 + i)) else none)))))
  | (_, ci, fl) => .inr (ci, fl.map (wfld ad f))
def wd (S : List Kd) (c3 : ClassId × ClassId × ClassId) (ad : Nat → Nat) (M : Mem) : va_W := (List.range S.length).map (fun k => (ad k, wcell c3 ad (M k) k (S.getD k (0, 0, []))))
abbrev ty3 (c3 : ClassId × ClassId × ClassId) : List (ClassId × FieldType) := [(c3.1, .int), (c3.2.1, .boolean), (c3.2.2, .array .int)]
def adA (S : List Kd) (ad : Nat → Nat) : Nat → Prop := fun q => ∃ k, k < S.length ∧ q = ad k
def adI (S : List Kd) (ad : Nat → Nat) : Prop := ∀ i j, i < S.length → j < S.length → ad i = ad j → i = j
theorem wd_len (S : List Kd) (c3 : ClassId × ClassId × ClassId) (ad : Nat → Nat) (M : Mem) : (wd S c3 ad M).length = S.length := by simp [wd]
theorem wd_at {S : List Kd} {c3 : ClassId × ClassId × ClassId} {ad : Nat → Nat} {M : Mem} {k : Nat} {d : Kd} (h : S[k]? = some d) : (wd S c3 ad M)[k]? = some (ad k, wcell c3 ad (M k) k d) := by
  have hk : k < S.length := (List.getElem?_eq_some_iff.mp h).1
  have hd : S.getD k (0, 0, []) = d := by rw [List.getD_eq_getElem?_getD, h]; rfl
  unfold wd
  rw [List.getElem?_map, List.getElem?_range hk, Option.map_some, hd]
theorem wd_get {S : List Kd} {c3 : ClassId × ClassId × ClassId} {ad : Nat → Nat} {M : Mem} {k : Nat} {q : Nat × va_E} (h : (wd S c3 ad M)[k]? = some q) : k < S.length ∧ q.1 = ad k := by
  have hk : k < S.length := by rw [← wd_len S c3 ad M]; exact (List.getElem?_eq_some_iff.mp h).1
  unfold wd at h
  rw [List.getElem?_map, List.getElem?_range hk, Option.map_some] at h
  exact ⟨hk, by rw [← Option.some.inj h]⟩
theorem wd_set {S : List Kd} {c3 : ClassId × ClassId × ClassId} {ad : Nat → Nat} {M M' : Mem} {k : Nat} {d : Kd} (h : S[k]? = some d) (hM : ∀ j, j ≠ k → M' j = M j) : (wd S c3 ad M).set k (ad k, wcell c3 ad (M' k) k d) = wd S c3 ad M' := by
  apply List.ext_getElem?
  intro j
  by_cases hj : j < S.length
  · have hd : S[j]? = some (S.getD j (0, 0, [])) := by rw [List.getD_eq_getElem?_getD, List.getElem?_eq_getElem hj]; rfl
    by_cases hjk : j = k
    · subst hjk
      rw [List.getElem?_set_self (by rw [wd_len]; exact hj), wd_at h]
    · rw [List.getElem?_set_ne (Ne.symm hjk), wd_at hd, wd_at hd, hM j hjk]
  · rw [List.getElem?_eq_none (by rw [List.length_set, wd_len]; omega), List.getElem?_eq_none (by rw [wd_len]; omega)]
theorem wd_D {S : List Kd} {c3 : ClassId × ClassId × ClassId} {ad : Nat → Nat} {M : Mem} (h : adI S ad) : va_D (adA S ad) (wd S c3 ad M) := by
  refine ⟨fun i j p q hi hj e => ?_, fun k q hk => ?_⟩
  · obtain ⟨h1, e1⟩ := wd_get hi
    obtain ⟨h2, e2⟩ := wd_get hj
    exact h i j h1 h2 (by rw [← e1, ← e2]; exact e)
  · obtain ⟨h1, e1⟩ := wd_get hk
    exact ⟨k, h1, e1⟩
theorem up2_o {M : Mem} {k i : Nat} {x : Int32} : ∀ j, j ≠ k → up2 M k i x j = M j := fun _ h => up2_ne h

/-! ===== pure programs: guards, names, loops ===== -/
noncomputable def xgd {α : Type} (c : Prop) (x : Option α) : Option α := @ite _ c (Classical.propDecidable c) x none
theorem xgd_some {α : Type} {c : Prop} {x : Option α} {r : α} (h : xgd c x = some r) : c ∧ x = some r := by
  unfold xgd at h
  by_cases hc : c
  · rw [if_pos hc] at h; exact ⟨hc, h⟩
  · rw [if_neg hc] at h; cases h
theorem xgd_pos {α : Type} {c : Prop} (hc : c) (x : Option α) : xgd c x = x := if_pos hc
def xlt {α β : Type} (x : α) (k : α → β) : β := k x
theorem xlt_some {α β : Type} {x : α} {k : α → β} {r : β} (h : xlt x k = r) : ∃ y, x = y ∧ k y = r := ⟨x, rfl, h⟩
theorem xlt_eq {α β : Type} (x : α) (k : α → β) : xlt x k = k x := rfl
def xbd {α β : Type} (x : Option α) (k : α → Option β) : Option β := x.bind k
theorem xbd_some {α β : Type} {x : Option α} {k : α → Option β} {r : β} (h : xbd x k = some r) : ∃ y, x = some y ∧ k y = some r := by
  cases x with
  | none => cases h
  | some y => exact ⟨y, rfl, h⟩
theorem xbd_eq {α β : Type} (y : α) (k : α → Option β) : xbd (some y) k = k y := rfl
theorem ite_t {α : Type} {c : Prop} [Decidable c] {x y r : α} (hc : c) (h : (if c then x else y) = r) : x = r := by rw [if_pos hc] at h; exact h
theorem ite_f {α : Type} {c : Prop} [Decidable c] {x y r : α} (hc : ¬ c) (h : (if c then x else y) = r) : y = r := by rw [if_neg hc] at h; exact h
def xwh {σ ρ : Type} (b : σ → Option (ρ ⊕ σ)) : Nat → σ → Option ρ
  | 0, _ => none
  | n + 1, s => (b s).bind (fun o => Sum.elim (fun r => some r) (fun s' => xwh b n s') o)
noncomputable def xlp {σ ρ : Type} (b : σ → Option (ρ ⊕ σ)) (s : σ) : Option ρ := @dite _ (∃ r, ∃ n, xwh b n s = some r) (Classical.propDecidable _) (fun h => some (Classical.choose h)) (fun _ => none)
theorem xwh_s {σ ρ : Type} {b : σ → Option (ρ ⊕ σ)} {n : Nat} {s : σ} {r : ρ} (h : xwh b (n + 1) s = some r) : ∃ o, b s = some o ∧ Sum.elim (fun r' => some r') (fun s' => xwh b n s') o = some r := by
  unfold xwh at h
  cases hb : b s with
  | none => rw [hb] at h; cases h
  | some o => rw [hb] at h; exact ⟨o, rfl, h⟩
theorem xwh_det {σ ρ : Type} {b : σ → Option (ρ ⊕ σ)} : ∀ {n m : Nat} {s : σ} {r r' : ρ}, xwh b n s = some r → xwh b m s = some r' → r = r'
  | 0, _, _, _, _, h, _ => by cases h
  | _ + 1, 0, _, _, _, _, h => by cases h
  | n + 1, m + 1, s, r, r', h, h' => by
    obtain ⟨o, h1, h2⟩ := xwh_s h
    obtain ⟨o', h1', h2'⟩ := xwh_s h'
    rw [h1] at h1'
    cases h1'
    cases o with
    | inl x => exact Option.some.inj (h2.symm.trans h2')
    | inr x => exact xwh_det h2 h2'
theorem xlp_n {σ ρ : Type} {b : σ → Option (ρ ⊕ σ)} {s : σ} {r : ρ} (h : xlp b s = some r) : ∃ n, xwh b n s = some r := by
  unfold xlp at h
  by_cases hc : ∃ r, ∃ n, xwh b n s = some r
  · rw [dif_pos hc] at h
    obtain ⟨n, hn⟩ := Classical.choose_spec hc
    exact ⟨n, by rw [hn]; exact h⟩
  · rw [dif_neg hc] at h; cases h
theorem xlp_of {σ ρ : Type} {b : σ → Option (ρ ⊕ σ)} {n : Nat} {s : σ} {r : ρ} (h : xwh b n s = some r) : xlp b s = some r := by
  have hc : ∃ r, ∃ n, xwh b n s = some r := ⟨r, n, h⟩
  unfold xlp
  rw [dif_pos hc]
  obtain ⟨n', hn⟩ := Classical.choose_spec hc
  rw [xwh_det hn h]
theorem xwh_1 {σ ρ : Type} {b : σ → Option (ρ ⊕ σ)} {n : Nat} {s : σ} {o : ρ ⊕ σ} (h : b s = some o) : xwh b (n + 1) s = Sum.elim (fun r => some r) (fun s' => xwh b n s') o := by
  show (b s).bind _ = _
  rw [h]
  rfl
/-- a loop runs through the states I i .. I K, and leaves with r -/
theorem xlp_run {σ ρ : Type} {b : σ → Option (ρ ⊕ σ)} {r : ρ} (I : Nat → σ) (K : Nat) (hs : ∀ i, i < K → b (I i) = some (.inr (I (i + 1)))) (he : b (I K) = some (.inl r)) : ∀ i, i ≤ K → xlp b (I i) = some r := by
  have key : ∀ d i, i + d = K → xwh b (d + 1) (I i) = some r := by
    intro d
    induction d with
    | zero => intro i hi; have : i = K := by omega
              subst this; rw [xwh_1 he]; rfl
    | succ d ih => intro i hi; rw [xwh_1 (hs i (by omega))]; exact ih (i + 1) (by omega)
  intro i hi
  exact xlp_of (key (K - i) i (by omega))
/-- one turn -/
theorem xlp_go {σ ρ : Type} {b : σ → Option (ρ ⊕ σ)} {s s' : σ} (h : b s = some (.inr s')) : xlp b s = xlp b s' := by
  cases h2 : xlp b s' with
  | some r => obtain ⟨n, hn⟩ := xlp_n h2; exact xlp_of (n := n + 1) (by rw [xwh_1 h]; exact hn)
  | none =>
    cases h3 : xlp b s with
    | none => rfl
    | some r =>
      obtain ⟨n, hn⟩ := xlp_n h3
      cases n with
      | zero => cases hn
      | succ n => rw [xwh_1 h] at hn; have := xlp_of (b := b) (s := s') hn; rw [h2] at this; cases this
theorem xlp_end {σ ρ : Type} {b : σ → Option (ρ ⊕ σ)} {s : σ} {r : ρ} (h : b s = some (.inl r)) : xlp b s = some r := xlp_of (n := 1) (by rw [xwh_1 h]; rfl)
end
section
/-! ===== rows over a memory ===== -/
def okU (G : va_G) (cl : List vw_C) (S : List Kd) (c3 : ClassId × ClassId × ClassId) (ad : Nat → Nat) (M : Mem) (U : State) : Prop := evT U ∧ va_K G cl (ty3 c3) U ∧ va_P G cl (wd S c3 ad M) U.heap
theorem okU.blind {G : va_G} {cl : List vw_C} {S : List Kd} {c3 : ClassId × ClassId × ClassId} {ad : Nat → Nat} {M : Mem} {As : List Value} : FrameBlind (va_Pc As (okU G cl S c3 ad M)) :=
  fun a U g mk h => ⟨h.1, h.2.1.calling, va_K.moved (u := U) (U := U.calling g mk a) (Vm.Alike.refl U.vm) h.2.2.1, h.2.2.2⟩
def QW (G : va_G) (cl : List vw_C) (S : List Kd) (c3 : ClassId × ClassId × ClassId) (ad : Nat → Nat) (v : Option Value) (M' : Mem) : Array Value → State → Outcome → State → Prop := fun _ st o t => o = .returned v ∧ va_P G cl (wd S c3 ad M') t.heap ∧ va_F (adA S ad) st t
def RMet (l : Launch) (y : MethodName) (b : ByteArray) (nL : Nat) (ret : Option FieldType) (rm : Room) (G : va_G) (cl : List vw_C) (S : List Kd) (c3 : ClassId × ClassId × ClassId) (ad : Nat → Nat) (M : Mem) (As : List Value) (v : Int32) : Prop :=
  Met l y [.code y b nL ret] rm (va_Pc As (okU G cl S c3 ad M)) (QcRead v) 0 0 (fun _ => False)
def WMet (l : Launch) (y : MethodName) (b : ByteArray) (nL : Nat) (ret : Option FieldType) (rm : Room) (G : va_G) (cl : List vw_C) (S : List Kd) (c3 : ClassId × ClassId × ClassId) (ad : Nat → Nat) (M : Mem) (As : List Value) (v : Option Value) (M' : Mem) : Prop :=
  Met l y [.code y b nL ret] rm (va_Pc As (okU G cl S c3 ad M)) (QW G cl S c3 ad v M') 0 0 (adA S ad)
abbrev rm0_ (f n : Nat) : Room := { frames := f, cells := 0, slots := 0, locals := n }
theorem RMet.of {l : Launch} {y : MethodName} {b : ByteArray} {nL : Nat} {ret : Option FieldType} {rm : Room} {G : va_G} {cl : List vw_C} {S : List Kd} {c3 : ClassId × ClassId × ClassId} {ad : Nat → Nat} {M : Mem} {As : List Value} {v : Int32}
    (hy : plainName y.cls = true) (hn : (lg_sl As).length ≤ nL)
    (body : ∀ (p : Program) (e : Env) (s : State) (m : MethodId) (args : Array Value) (below : List Frame) (meth : Method) (c : Code) (ls : Array Slot), CallFix p m c b nL s args gw y.cls → evT s → va_K G cl (ty3 c3) s → va_P G cl (wd S c3 ad M) s.heap → meth.sig.returnType = ret → meth.locks = false → lv_has ls nL (lv_args 0 As) →
      W p l e rm s m args below meth c s.heap [] 0 0 (MQ below (QcRead v) args s 0 0 (fun _ => False)) (F0 m 0 ls [])) : RMet l y b nL ret rm G cl S c3 ad M As v := by
  refine Met.ofW (cc := b) (maxL := nL) (ret := ret) hy rfl ?_
  intro p e s m args below meth c s₁ B hml hv
  obtain ⟨rfl, hT, hK, hP⟩ := hv
  have hl := lv_entry As (n := nL) hn
  rw [lg_entry_eq]
  exact body p e s m _ below meth c _ ⟨B.exec, B.bytes, hml, findClass_of_methodNamed B.named, hT.hts _⟩ hT hK hP B.returns B.notSynchronized hl
theorem WMet.of {l : Launch} {y : MethodName} {b : ByteArray} {nL : Nat} {ret : Option FieldType} {rm : Room} {G : va_G} {cl : List vw_C} {S : List Kd} {c3 : ClassId × ClassId × ClassId} {ad : Nat → Nat} {M M' : Mem} {As : List Value} {v : Option Value}
    (hy : plainName y.cls = true) (hn : (lg_sl As).length ≤ nL)
    (body : ∀ (p : Program) (e : Env) (s : State) (m : MethodId) (args : Array Value) (below : List Frame) (meth : Method) (c : Code) (ls : Array Slot), CallFix p m c b nL s args gw y.cls → evT s → va_K G cl (ty3 c3) s → va_P G cl (wd S c3 ad M) s.heap → meth.sig.returnType = ret → meth.locks = false → lv_has ls nL (lv_args 0 As) → va_S (adA S ad) s.heap s.heap [] →
      W p l e rm s m args below meth c s.heap [] 0 0 (MQ below (QW G cl S c3 ad v M') args s 0 0 (adA S ad)) (F0 m 0 ls [])) : WMet l y b nL ret rm G cl S c3 ad M As v M' := by
  refine Met.ofW (cc := b) (maxL := nL) (ret := ret) hy rfl ?_
  intro p e s m args below meth c s₁ B hml hv
  obtain ⟨rfl, hT, hK, hP⟩ := hv
  have hl := lv_entry As (n := nL) hn
  rw [lg_entry_eq]
  exact body p e s m _ below meth c _ ⟨B.exec, B.bytes, hml, findClass_of_methodNamed B.named, hT.hts _⟩ hT hK hP B.returns B.notSynchronized hl va_S.rf
section XR
variable {p : Program} {l : Launch} {e : Env} {R : Room} {s : State} {m : MethodId} {args : Array Value} {below : List Frame} {meth : Method} {c : Code} {H : Heap} {locs : List Loc} {cells slots : Nat} {Q : State → Prop}
variable {cc : ByteArray} {pc : Nat} {ls : Array Slot} {rest : List Value} {G : va_G} {cl : List vw_C} {S : List Kd} {c3 : ClassId × ClassId × ClassId} {ad : Nat → Nat} {M M' : Mem} {A : Nat → Prop} {H0 : Heap}
theorem xr_name {x v : Int32} (h : x = v) (k : W p l e R s m args below meth c H locs cells slots Q (F0 m pc ls (.int v :: rest))) : W p l e R s m args below meth c H locs cells slots Q (F0 m pc ls (.int x :: rest)) := h ▸ k
theorem xr_iald (hx : p.tables.exec = Jvm.exec) (hb : c.code = cc) (hK : va_K G cl (ty3 c3) s) (hP : va_P G cl (wd S c3 ad M) H) {k n : Nat} {q : List (Nat ⊕ Nat)} (hk : S[k]? = some (0, n, q)) {i : Int32} (hin : vp_in i n) (hdg : decode cc pc = .ok (.iaload, 1))
    (kk : W p l e R s m args below meth c H locs cells slots Q (F0 m (pc + 1) ls (.int (M k i.toNatClampNeg) :: rest))) : W p l e R s m args below meth c H locs cells slots Q (F0 m pc ls (.int i :: .ref (ad k) :: rest)) :=
  va_iald hx hb hK hP k 0 (wd_at hk) rfl hin hdg kk
theorem xr_zald (hx : p.tables.exec = Jvm.exec) (hb : c.code = cc) (hK : va_K G cl (ty3 c3) s) (hP : va_P G cl (wd S c3 ad M) H) {k n : Nat} {q : List (Nat ⊕ Nat)} (hk : S[k]? = some (1, n, q)) {i : Int32} (hin : vp_in i n) (hdg : decode cc pc = .ok (.baload, 1))
    (kk : W p l e R s m args below meth c H locs cells slots Q (F0 m (pc + 1) ls (.int (M k i.toNatClampNeg) :: rest))) : W p l e R s m args below meth c H locs cells slots Q (F0 m pc ls (.int i :: .ref (ad k) :: rest)) :=
  va_zald hx hb hK hP k 1 (wd_at hk) rfl hin hdg kk
theorem xr_aald (hx : p.tables.exec = Jvm.exec) (hb : c.code = cc) (hK : va_K G cl (ty3 c3) s) (hP : va_P G cl (wd S c3 ad M) H) {k n : Nat} {q : List (Nat ⊕ Nat)} (hk : S[k]? = some (2, n, q)) {i : Int32} (hin : vp_in i n) (hdg : decode cc pc = .ok (.aaload, 1))
    (kk : W p l e R s m args below meth c H locs cells slots Q (F0 m (pc + 1) ls (.ref (ad (k + 1 + i.toNatClampNeg)) :: rest))) : W p l e R s m args below meth c H locs cells slots Q (F0 m pc ls (.int i :: .ref (ad k) :: rest)) := by
  have hlt : i.toNatClampNeg < n := Nat.not_le.mp fun q => hin (Or.inr q)
  refine W.aald (v := .ref (ad (k + 1 + i.toNatClampNeg))) (ty := .array .int) hx hb (hP k _ (wd_at hk)) ((hK.2 2 _ rfl).1 n (fun j => va_rf (if j < n then some (ad (k + 1 + j)) else none))) rfl (fun q => by cases q) (by show ¬ (i < 0 ∨ (arrV _ _ _).slots.size ≤ _); rw [arrV_size]; exact hin) (by show (arrV _ _ _).slots[_]? = _; rw [arrV_read _ _ hlt]; show some (va_rf (if i.toNatClampNeg < n then some (ad (k + 1 + i.toNatClampNeg)) else none)) = _; rw [if_pos hlt]; rfl) rfl rfl hdg kk
theorem xr_iast (hx : p.tables.exec = Jvm.exec) (hb : c.code = cc) (hd : adI S ad) (hK : va_K G cl (ty3 c3) s) (hP : va_P G cl (wd S c3 ad M) H) (hS : va_S (adA S ad) H0 H locs) {k n : Nat} {q : List (Nat ⊕ Nat)} (hk : S[k]? = some (0, n, q)) {i x : Int32} (hin : vp_in i n) (hdg : decode cc pc = .ok (.iastore, 1))
    (kk : ∀ (H1 : Heap) (locs1 : List Loc), va_P G cl (wd S c3 ad (up2 M k i.toNatClampNeg x)) H1 → va_S (adA S ad) H0 H1 locs1 → W p l e R s m args below meth c H1 locs1 cells slots Q (F0 m (pc + 1) ls rest)) : W p l e R s m args below meth c H locs cells slots Q (F0 m pc ls (.int x :: .int i :: .ref (ad k) :: rest)) := by
  refine va_iast hx hb hK hP (wd_D hd) hS k 0 (wd_at hk) rfl hin hdg (fun H1 locs1 h1 _ h3 => kk H1 locs1 ?_ h3)
  rw [← wd_set hk up2_o, up2_same]
  exact h1
theorem xr_zast (hx : p.tables.exec = Jvm.exec) (hb : c.code = cc) (hd : adI S ad) (hK : va_K G cl (ty3 c3) s) (hP : va_P G cl (wd S c3 ad M) H) (hS : va_S (adA S ad) H0 H locs) {k n : Nat} {q : List (Nat ⊕ Nat)} (hk : S[k]? = some (1, n, q)) {i x : Int32} (hin : vp_in i n) (hdg : decode cc pc = .ok (.bastore, 1))
    (kk : ∀ (H1 : Heap) (locs1 : List Loc), va_P G cl (wd S c3 ad (up2 M k i.toNatClampNeg (vp_nar .boolean x))) H1 → va_S (adA S ad) H0 H1 locs1 → W p l e R s m args below meth c H1 locs1 cells slots Q (F0 m (pc + 1) ls rest)) : W p l e R s m args below meth c H locs cells slots Q (F0 m pc ls (.int x :: .int i :: .ref (ad k) :: rest)) := by
  refine va_zast hx hb hK hP (wd_D hd) hS k 1 (wd_at hk) rfl hin hdg (fun H1 locs1 h1 _ h3 => kk H1 locs1 ?_ h3)
  rw [← wd_set hk up2_o, up2_same]
  exact h1
theorem xr_getr (hx : p.tables.exec = Jvm.exec) (hb : c.code = cc) {own : String} (hT : evT s) (hown : s.vm.findClass own = some m.cls) (hK : va_K G cl (ty3 c3) s) (hP : va_P G cl (wd S c3 ad M) H) {k ci : Nat} {fl : List (Nat ⊕ Nat)} (hk : S[k]? = some (3, ci, fl)) {C : String} {T : u_T} {N : Nat} (hc : cl[ci]? = some (C, T, N)) (hin : ∀ w ∈ u_ws C T N, w ∈ gw) (f : Nat) (hf : f < N) {index : Nat} (hlink : Cond.fieldLink own index (T f).1 (T f).2.1 (T f).2.2.1 ∈ gw) {j : Nat} (hj : fl[f]? = some (.inl j)) (hdg : decode cc pc = .ok (.getfield index, 3))
    (kk : W p l e R s m args below meth c H locs cells slots Q (F0 m (pc + 3) ls (.ref (ad j) :: rest))) : W p l e R s m args below meth c H locs cells slots Q (F0 m pc ls (.ref (ad k) :: rest)) :=
  va_get hx hb (hT.hts args) hin hown hK hP k (wd_at hk) hc f hf (hT.1 _ hlink _) (fun _ h => h) (v := .ref (ad j)) (by rw [List.getElem?_map, hj]; rfl) hdg kk
theorem xr_geti (hx : p.tables.exec = Jvm.exec) (hb : c.code = cc) {own : String} (hT : evT s) (hown : s.vm.findClass own = some m.cls) (hK : va_K G cl (ty3 c3) s) (hP : va_P G cl (wd S c3 ad M) H) {k ci : Nat} {fl : List (Nat ⊕ Nat)} (hk : S[k]? = some (3, ci, fl)) {C : String} {T : u_T} {N : Nat} (hc : cl[ci]? = some (C, T, N)) (hin : ∀ w ∈ u_ws C T N, w ∈ gw) (f : Nat) (hf : f < N) {index : Nat} (hlink : Cond.fieldLink own index (T f).1 (T f).2.1 (T f).2.2.1 ∈ gw) {j : Nat} (hj : fl[f]? = some (.inr j)) (hdg : decode cc pc = .ok (.getfield index, 3))
    (kk : W p l e R s m args below meth c H locs cells slots Q (F0 m (pc + 3) ls (.int (M k j) :: rest))) : W p l e R s m args below meth c H locs cells slots Q (F0 m pc ls (.ref (ad k) :: rest)) :=
  va_get hx hb (hT.hts args) hin hown hK hP k (wd_at hk) hc f hf (hT.1 _ hlink _) (fun _ h => h) (v := .int (M k j)) (by rw [List.getElem?_map, hj]; rfl) hdg kk
/-- the numbers of an object: no field but the f-th is the number f -/
def fldI (fl : List (Nat ⊕ Nat)) (f : Nat) : Prop := fl[f]? = some (.inr f) ∧ ∀ j, j ≠ f → fl[j]? ≠ some (.inr f)
theorem fldI_set {ad : Nat → Nat} {g : Nat → Int32} {fl : List (Nat ⊕ Nat)} {f : Nat} {x : Int32} (h : fldI fl f) : (fl.map (wfld ad g)).set f (.int x) = fl.map (wfld ad (upd g f x)) := by
  apply List.ext_getElem?
  intro j
  have hl : f < fl.length := (List.getElem?_eq_some_iff.mp h.1).1
  by_cases hj : j = f
  · subst hj
    rw [List.getElem?_set_self (by rw [List.length_map]; exact hl), List.getElem?_map, h.1]
    show some _ = some (Value.int (upd g j x j))
    rw [pk_us]
  · rw [List.getElem?_set_ne (Ne.symm hj), List.getElem?_map, List.getElem?_map]
    cases hv : fl[j]? with
    | none => rfl
    | some q =>
      cases q with
      | inl a => rfl
      | inr i =>
        have hi : i ≠ f := fun e => h.2 j hj (by rw [hv, e])
        show some (Value.int (g i)) = some (Value.int (upd g f x i))
        rw [pk_un hi]
theorem xr_puti (hx : p.tables.exec = Jvm.exec) (hb : c.code = cc) {own : String} (hT : evT s) (hown : s.vm.findClass own = some m.cls) (hd : adI S ad) (hK : va_K G cl (ty3 c3) s) (hP : va_P G cl (wd S c3 ad M) H) (hS : va_S (adA S ad) H0 H locs) {k ci : Nat} {fl : List (Nat ⊕ Nat)} (hk : S[k]? = some (3, ci, fl)) {C : String} {T : u_T} {N : Nat} (hc : cl[ci]? = some (C, T, N)) (hin : ∀ w ∈ u_ws C T N, w ∈ gw) (ty0 : Nat → FieldType) (hty : ∀ k, k < N → parseFieldDescriptor (T k).2.2.1 = some (ty0 k)) (hnm : ∀ a, a < N → ∀ b, b < N → a ≠ b → (T a).2.1 ≠ (T b).2.1) (f : Nat) (hf : f < N) {index : Nat} (hlink : Cond.fieldLink own index (T f).1 (T f).2.1 (T f).2.2.1 ∈ gw) (hfin : (T f).2.2.2 = false) (hj : fldI fl f) {ty : FieldType} {x : Int32} (hp : parseFieldDescriptor (T f).2.2.1 = some ty) (hn : narrow ty (.int x) = .int x) (hfit : fits ty (.int x) = true) (hdg : decode cc pc = .ok (.putfield index, 3))
    (kk : ∀ (H1 : Heap) (locs1 : List Loc), va_P G cl (wd S c3 ad (up2 M k f x)) H1 → va_S (adA S ad) H0 H1 locs1 → W p l e R s m args below meth c H1 locs1 cells slots Q (F0 m (pc + 3) ls rest)) : W p l e R s m args below meth c H locs cells slots Q (F0 m pc ls (.int x :: .ref (ad k) :: rest)) := by
  refine va_put hx hb (hT.hts args) hin ty0 hty hnm hown hK hP (wd_D hd) hS k (wd_at hk) hc f hf (hT.1 _ hlink _) (fun _ h => h) hfin (v := .int x) hp hn hfit (by rw [List.length_map]; exact (List.getElem?_eq_some_iff.mp hj.1).1) hdg (fun H1 locs1 h1 _ h3 => kk H1 locs1 ?_ h3)
  rw [← wd_set hk up2_o, up2_same]
  rw [fldI_set hj] at h1
  exact h1
/-! answers -/
theorem xr_iret (hx : p.tables.exec = Jvm.exec) (hb : c.code = cc) (hr : meth.sig.returnType = some .int) (hlocks : meth.locks = false) {x v : Int32} (hv : x = v) (hdg : decode cc pc = .ok (.ireturn, 1)) : W p l e R s m args below meth c s.heap [] 0 0 (MQ below (QcRead v) args s 0 0 (fun _ => False)) (F0 m pc ls [.int x]) := by
  subst hv
  exact W.iret hx hb hr (fun t ht _ => ⟨rfl, ht⟩) (fun q h => by cases h) hdg hlocks
theorem nz_of {x : Int32} (h : x = 0 ∨ x = 1) : narrow .boolean (.int x) = .int x := by rcases h with rfl | rfl <;> rfl
theorem xr_zret (hx : p.tables.exec = Jvm.exec) (hb : c.code = cc) (hr : meth.sig.returnType = some .boolean) (hlocks : meth.locks = false) {x v : Int32} (hz : x = 0 ∨ x = 1) (hv : x = v) (hdg : decode cc pc = .ok (.ireturn, 1)) : W p l e R s m args below meth c s.heap [] 0 0 (MQ below (QcRead v) args s 0 0 (fun _ => False)) (F0 m pc ls [.int x]) := by
  subst hv
  exact W.zret hx hb hr (nz_of hz) (fun t ht _ => ⟨rfl, ht⟩) (fun q h => by cases h) hdg hlocks
theorem xw_iret (hx : p.tables.exec = Jvm.exec) (hb : c.code = cc) (hr : meth.sig.returnType = some .int) (hlocks : meth.locks = false) (hP : va_P G cl (wd S c3 ad M) H) (hS : va_S (adA S ad) s.heap H locs) {x v : Int32} (hv : (x, M) = (v, M')) (hdg : decode cc pc = .ok (.ireturn, 1)) : W p l e R s m args below meth c H locs 0 0 (MQ below (QW G cl S c3 ad (some (.int v)) M') args s 0 0 (adA S ad)) (F0 m pc ls [.int x]) := by
  cases hv
  exact W.iret hx hb hr (fun t ht _ => ⟨rfl, by rw [ht]; exact hP, hS.F ht⟩) hS.2.2 hdg hlocks
theorem xw_zret (hx : p.tables.exec = Jvm.exec) (hb : c.code = cc) (hr : meth.sig.returnType = some .boolean) (hlocks : meth.locks = false) (hP : va_P G cl (wd S c3 ad M) H) (hS : va_S (adA S ad) s.heap H locs) {x v : Int32} (hz : x = 0 ∨ x = 1) (hv : (x, M) = (v, M')) (hdg : decode cc pc = .ok (.ireturn, 1)) : W p l e R s m args below meth c H locs 0 0 (MQ below (QW G cl S c3 ad (some (.int v)) M') args s 0 0 (adA S ad)) (F0 m pc ls [.int x]) := by
  cases hv
  exact W.zret hx hb hr (nz_of hz) (fun t ht _ => ⟨rfl, by rw [ht]; exact hP, hS.F ht⟩) hS.2.2 hdg hlocks
theorem xw_vret (hx : p.tables.exec = Jvm.exec) (hb : c.code = cc) (hr : meth.sig.returnType = none) (hlocks : meth.locks = false) (hP : va_P G cl (wd S c3 ad M) H) (hS : va_S (adA S ad) s.heap H locs) (hv : M = M') (hdg : decode cc pc = .ok (.return_, 1)) : W p l e R s m args below meth c H locs 0 0 (MQ below (QW G cl S c3 ad none M') args s 0 0 (adA S ad)) (F0 m pc ls []) := by
  subst hv
  exact W.vret hx hb hr (fun t ht _ => ⟨rfl, by rw [ht]; exact hP, hS.F ht⟩) hS.2.2 hdg hlocks
/-! calls: what the tables say of a callee -/
def ckN (y : MethodName) (n : Nat) : Prop := y.cls ≠ "java/lang/invoke/MethodHandle" ∧ y.cls ≠ "java/lang/invoke/VarHandle" ∧ (parseMethodDescriptor y.desc).map (fun d => d.parameters.length) = some n
theorem mkB {own : String} {index nY n : Nat} {y : MethodName} {b : ByteArray} {ret : Option FieldType} {rm : Room} (hT : evT s) (h1 : Cond.methodLink own index y ∈ gw) (h4 : Cond.initialized y.cls ∈ gw) (h5 : Cond.code y b nY ret ∈ gw) (hd : ckN y n) (hm : rm.cells = 0 ∧ rm.slots = 0) (hR : rm.frames + 1 ≤ R.frames ∧ 8 + (nY + 11) + rm.locals ≤ R.locals) : CallB R s args own index y b nY ret [.code y b nY ret] rm 0 0 n :=
  callB_of n (hT.hts args) (gw_one h5) rfl hm.1 hm.2 (hT.1 _ h4 _) (hT.1 _ h1 _) hd hR
theorem okU.at {s : State} {H : Heap} (hT : evT s) (hK : va_K G cl (ty3 c3) s) (hP : va_P G cl (wd S c3 ad M) H) (As : List Value) : ∀ U : State, U.heap = H → s.WarmedH U.vm → va_Pc As (okU G cl S c3 ad M) As.toArray U :=
  fun U hU hW => ⟨rfl, hT.warm hW, va_K.moved hW.alike hK, by rw [hU]; exact hP⟩
/-- a reading method, invokevirtual -/
theorem xc_rv {own : String} {nL : Nat} (F : CallFix p m c cc nL s args gw own) (hT : evT s) (hK : va_K G cl (ty3 c3) s) (hP : va_P G cl (wd S c3 ad M) H) {y : MethodName} {b : ByteArray} {nY : Nat} {ret : Option FieldType} {rm : Room} {k : Nat} {As : List Value} {v : Int32} (hM : RMet l y b nY ret rm G cl S c3 ad M (.ref (ad k) :: As) v) {ci : Nat} {fl : List (Nat ⊕ Nat)} (hk : S[k]? = some (3, ci, fl)) {T : u_T} {N : Nat} (hc : cl[ci]? = some (y.cls, T, N)) {index : Nat} (h1 : Cond.methodLink own index y ∈ gw) (h2 : Cond.instanceMethod y ∈ gw) (h3 : Cond.selects y.cls y y ∈ gw) (h4 : Cond.initialized y.cls ∈ gw) (h5 : Cond.code y b nY ret ∈ gw) (hd : ckN y As.length) (hm : rm.cells = 0 ∧ rm.slots = 0) (hR : rm.frames + 1 ≤ R.frames ∧ 8 + (nY + 11) + rm.locals ≤ R.locals) (hf : cells ≤ R.cells ∧ slots ≤ R.slots) (hsz : ls.size = nL) {st0 : List Value} (hst : st0 = As.reverse ++ .ref (ad k) :: rest) (hw : (rest.map fun v => v.category).sum ≤ 8) (hdg : decode cc pc = .ok (.invokevirtual index, 3))
    (kk : W p l e R s m args below meth c H locs cells slots Q (F0 m (pc + 3) ls (.int v :: rest))) : W p l e R s m args below meth c H locs cells slots Q (F0 m pc ls st0) := by
  refine W.callR (W.runV (n := As.length) (C := y.cls) (b := ad k) (As := As) (rest := rest) F hM ⟨mkB hT h1 h4 h5 hd hm hR, hT.1 _ h2 _, hT.1 _ h3 _⟩ ⟨okU.blind, va_recv hK hP hc (wd_at hk), okU.at hT hK hP _⟩ rfl rfl hsz hst (lv_room hw) hdg hf) kk
theorem xc_rs {own : String} {nL : Nat} (F : CallFix p m c cc nL s args gw own) (hT : evT s) (hK : va_K G cl (ty3 c3) s) (hP : va_P G cl (wd S c3 ad M) H) {y : MethodName} {b : ByteArray} {nY : Nat} {ret : Option FieldType} {rm : Room} {As : List Value} {v : Int32} (hM : RMet l y b nY ret rm G cl S c3 ad M As v) {index : Nat} (h1 : Cond.methodLink own index y ∈ gw) (h2 : Cond.static y ∈ gw) (h4 : Cond.initialized y.cls ∈ gw) (h5 : Cond.code y b nY ret ∈ gw) (hd : ckN y As.length) (hm : rm.cells = 0 ∧ rm.slots = 0) (hR : rm.frames + 1 ≤ R.frames ∧ 8 + (nY + 11) + rm.locals ≤ R.locals) (hf : cells ≤ R.cells ∧ slots ≤ R.slots) (hsz : ls.size = nL) {st0 : List Value} (hst : st0 = As.reverse ++ rest) (hw : (rest.map fun v => v.category).sum ≤ 8) (hdg : decode cc pc = .ok (.invokestatic index, 3))
    (kk : W p l e R s m args below meth c H locs cells slots Q (F0 m (pc + 3) ls (.int v :: rest))) : W p l e R s m args below meth c H locs cells slots Q (F0 m pc ls st0) := by
  refine W.callR (W.runS (n := As.length) (As := As) (rest := rest) F hM ⟨mkB hT h1 h4 h5 hd hm hR, hT.1 _ h2 _⟩ ⟨okU.blind, okU.at hT hK hP _⟩ rfl rfl hsz hst (lv_room hw) hdg hf) kk
/-- a run of a call that changes nothing -/
theorem xc_back {mc ms : Nat} {g : JFrame} {Qa : State → Outcome → State → Prop} {free : Addr → Prop} (h : va_Run p l e R s m args below meth c H locs cells slots mc ms g rest Qa free) : CallRun p l e R s m args below meth c H locs cells slots mc ms g rest Qa free := by
  intro T hT X
  obtain ⟨v, st₀, t, T', L, h0, X', hL, e1, _, hq, st⟩ := h T hT X
  exact ⟨v, st₀, t, T', L, h0, X', hL, e1, hq, st⟩
theorem mkN {own : String} {index nY n : Nat} {y : MethodName} {b : ByteArray} {ret : Option FieldType} {rm : Room} (hT : evT s) (h1 : (own, index, y) ∈ nl_all) (h4 : Cond.initialized y.cls ∈ gw) (h5 : Cond.code y b nY ret ∈ gw) (hd : ckN y n) (hm : rm.cells = 0 ∧ rm.slots = 0) (hR : rm.frames + 1 ≤ R.frames ∧ 8 + (nY + 11) + rm.locals ≤ R.locals) : va_CN R s args own index y "ExamDesk" b nY ret [.code y b nY ret] rm 0 0 n :=
  va_cnB n (hT.hts args) (gw_one h5) rfl hm.1 hm.2 (hT.2.1 _ h1) (hT.1 _ h4 _) hd hR
theorem xc_rn {own : String} {nL : Nat} (F : CallFix p m c cc nL s args gw own) (hT : evT s) (hK : va_K G cl (ty3 c3) s) (hP : va_P G cl (wd S c3 ad M) H) {y : MethodName} {b : ByteArray} {nY : Nat} {ret : Option FieldType} {rm : Room} {As : List Value} {v : Int32} (hM : RMet l y b nY ret rm G cl S c3 ad M As v) {index : Nat} (h1 : (own, index, y) ∈ nl_all) (h2 : Cond.static y ∈ gw) (h4 : Cond.initialized y.cls ∈ gw) (h5 : Cond.code y b nY ret ∈ gw) (hd : ckN y As.length) (hm : rm.cells = 0 ∧ rm.slots = 0) (hR : rm.frames + 1 ≤ R.frames ∧ 8 + (nY + 11) + rm.locals ≤ R.locals) (hf : cells ≤ R.cells ∧ slots ≤ R.slots) (hsz : ls.size = nL) {st0 : List Value} (hst : st0 = As.reverse ++ rest) (hw : (rest.map fun v => v.category).sum ≤ 8) (hdg : decode cc pc = .ok (.invokestatic index, 3))
    (kk : W p l e R s m args below meth c H locs cells slots Q (F0 m (pc + 3) ls (.int v :: rest))) : W p l e R s m args below meth c H locs cells slots Q (F0 m pc ls st0) := by
  refine W.callR (xc_back (va_runSN (n := As.length) (As := As) (rest := rest) F hM ⟨mkN hT h1 h4 h5 hd hm hR, hT.1 _ h2 _, trivial⟩ ⟨okU.blind, okU.at hT hK hP _⟩ rfl rfl hsz hst (lv_room hw) hdg hf)) kk
/-- a writing method -/
theorem xc_w {v : Option Value} {a : Array Value} {st0 : List Value} (hr : va_Run p l e R s m args below meth c H locs cells slots 0 0 (F0 m pc ls st0) rest (QW G cl S c3 ad v M' a) (adA S ad)) (hS : va_S A H0 H locs) (hA : ∀ q, adA S ad q → A q)
    (kk : ∀ (H1 : Heap) (locs1 : List Loc), va_P G cl (wd S c3 ad M') H1 → va_S A H0 H1 locs1 → (∀ q : Nat, q < H.size → ¬ adA S ad q → H1[q]? = H[q]?) → W p l e R s m args below meth c H1 locs1 cells slots Q (F0 m (pc + 3) ls (v.toList ++ rest))) : W p l e R s m args below meth c H locs cells slots Q (F0 m pc ls st0) := by
  intro T hT X
  obtain ⟨v1, st₀, t, T', L, h0, X', hL, e1, e2, ⟨hv, hp, hz, hk⟩, st⟩ := hr T hT X
  cases hv
  rw [h0] at hz hk
  obtain ⟨t2, a1, b1⟩ := kk T'.heap (locs ++ L) (by rw [e1]; exact hp)
    ⟨Nat.le_trans hS.1 (by rw [e1]; exact hz), fun q h1 h2 => by rw [e1, hk q (Nat.lt_of_lt_of_le h1 hS.1) (fun z => h2 (hA q z))]; exact hS.2.1 q h1 h2, fun q hq => by
      rcases List.mem_append.mp hq with h | h
      · exact hS.2.2 q h
      · exact hA _ (hL q h)⟩ (fun q h1 h2 => by rw [e1]; exact hk q h1 h2) T' rfl X'
  exact ⟨t2, st t2 a1, b1⟩
theorem xc_wv {own : String} {nL : Nat} (F : CallFix p m c cc nL s args gw own) (hT : evT s) (hK : va_K G cl (ty3 c3) s) (hP : va_P G cl (wd S c3 ad M) H) (hS : va_S A H0 H locs) (hA : ∀ q, adA S ad q → A q) {y : MethodName} {b : ByteArray} {nY : Nat} {ret : Option FieldType} {rm : Room} {k : Nat} {As : List Value} {v : Option Value} (hM : WMet l y b nY ret rm G cl S c3 ad M (.ref (ad k) :: As) v M') {ci : Nat} {fl : List (Nat ⊕ Nat)} (hk : S[k]? = some (3, ci, fl)) {T : u_T} {N : Nat} (hc : cl[ci]? = some (y.cls, T, N)) {index : Nat} (h1 : Cond.methodLink own index y ∈ gw) (h2 : Cond.instanceMethod y ∈ gw) (h3 : Cond.selects y.cls y y ∈ gw) (h4 : Cond.initialized y.cls ∈ gw) (h5 : Cond.code y b nY ret ∈ gw) (hd : ckN y As.length) (hm : rm.cells = 0 ∧ rm.slots = 0) (hR : rm.frames + 1 ≤ R.frames ∧ 8 + (nY + 11) + rm.locals ≤ R.locals) (hf : cells ≤ R.cells ∧ slots ≤ R.slots) (hsz : ls.size = nL) {st0 : List Value} (hst : st0 = As.reverse ++ .ref (ad k) :: rest) (hw : (rest.map fun v => v.category).sum ≤ 8) (hdg : decode cc pc = .ok (.invokevirtual index, 3))
    (kk : ∀ (H1 : Heap) (locs1 : List Loc), va_P G cl (wd S c3 ad M') H1 → va_S A H0 H1 locs1 → (∀ q : Nat, q < H.size → ¬ adA S ad q → H1[q]? = H[q]?) → W p l e R s m args below meth c H1 locs1 cells slots Q (F0 m (pc + 3) ls (v.toList ++ rest))) : W p l e R s m args below meth c H locs cells slots Q (F0 m pc ls st0) :=
  xc_w (va_runV (n := As.length) (C := y.cls) (b := ad k) (As := As) (rest := rest) F hM ⟨mkB hT h1 h4 h5 hd hm hR, hT.1 _ h2 _, hT.1 _ h3 _⟩ ⟨okU.blind, va_recv hK hP hc (wd_at hk), okU.at hT hK hP _⟩ rfl rfl hsz hst (lv_room hw) hdg hf) hS hA kk
theorem xc_ws {own : String} {nL : Nat} (F : CallFix p m c cc nL s args gw own) (hT : evT s) (hK : va_K G cl (ty3 c3) s) (hP : va_P G cl (wd S c3 ad M) H) (hS : va_S A H0 H locs) (hA : ∀ q, adA S ad q → A q) {y : MethodName} {b : ByteArray} {nY : Nat} {ret : Option FieldType} {rm : Room} {As : List Value} {v : Option Value} (hM : WMet l y b nY ret rm G cl S c3 ad M As v M') {index : Nat} (h1 : Cond.methodLink own index y ∈ gw) (h2 : Cond.static y ∈ gw) (h4 : Cond.initialized y.cls ∈ gw) (h5 : Cond.code y b nY ret ∈ gw) (hd : ckN y As.length) (hm : rm.cells = 0 ∧ rm.slots = 0) (hR : rm.frames + 1 ≤ R.frames ∧ 8 + (nY + 11) + rm.locals ≤ R.locals) (hf : cells ≤ R.cells ∧ slots ≤ R.slots) (hsz : ls.size = nL) {st0 : List Value} (hst : st0 = As.reverse ++ rest) (hw : (rest.map fun v => v.category).sum ≤ 8) (hdg : decode cc pc = .ok (.invokestatic index, 3))
    (kk : ∀ (H1 : Heap) (locs1 : List Loc), va_P G cl (wd S c3 ad M') H1 → va_S A H0 H1 locs1 → (∀ q : Nat, q < H.size → ¬ adA S ad q → H1[q]? = H[q]?) → W p l e R s m args below meth c H1 locs1 cells slots Q (F0 m (pc + 3) ls (v.toList ++ rest))) : W p l e R s m args below meth c H locs cells slots Q (F0 m pc ls st0) :=
  xc_w (va_runS (n := As.length) (As := As) (rest := rest) F hM ⟨mkB hT h1 h4 h5 hd hm hR, hT.1 _ h2 _⟩ ⟨okU.blind, okU.at hT hK hP _⟩ rfl rfl hsz hst (lv_room hw) hdg hf) hS hA kk
end XR
end
