def RE : String := "ExamDesk"
def RT : String := "ExamDesk$Timetable"
def RP : String := "ExamDesk$Planner"
def RR : String := "ExamDesk$Rooms"
def RO : String := "ExamDesk$Rota"
def RM : String := "ExamDeskModel"
def RL : String := "ExamDeskLaw"
def RJA : String := "java/util/Arrays"
def RJI : String := "java/lang/Integer"
def RJT : String := "java/lang/Throwable"
def RJX : String := "java/lang/Exception"
def RJR : String := "java/lang/RuntimeException"
def RJN : String := "java/util/NoSuchElementException"
def RJG : String := "java/lang/IllegalArgumentException"
def RJS : String := "java/lang/IllegalStateException"
def RJO : String := "java/lang/Object"
def TP : u_T := fun k => match k with
  | 0 => ("ExamDesk$Planner", "digits", "[I", true)
  | 1 => ("ExamDesk$Planner", "best", "[I", true)
  | 2 => ("ExamDesk$Planner", "foes", "[I", true)
  | 3 => ("ExamDesk$Planner", "mates", "[I", true)
  | 4 => ("ExamDesk$Planner", "before", "[I", true)
  | _ => ("ExamDesk$Planner", "held", "I", false)
def tyP : Nat → FieldType := fun k => match k with
  | 0 => (.array .int)
  | 1 => (.array .int)
  | 2 => (.array .int)
  | 3 => (.array .int)
  | 4 => (.array .int)
  | _ => .int
theorem nmP : ∀ a, a < 6 → ∀ b, b < 6 → a ≠ b → (TP a).2.1 ≠ (TP b).2.1 := by decide +kernel
theorem tkP : ∀ k, k < 6 → parseFieldDescriptor (TP k).2.2.1 = some (tyP k) := by decide +kernel
theorem wy_P_0 : u_lay RP TP 0 ∈ gw := gw_of (tb_1 (List.mem_of_getElem? (i := 44) rfl)) rfl
theorem wy_P_1 : u_lay RP TP 1 ∈ gw := gw_of (tb_1 (List.mem_of_getElem? (i := 46) rfl)) rfl
theorem wy_P_2 : u_lay RP TP 2 ∈ gw := gw_of (tb_1 (List.mem_of_getElem? (i := 48) rfl)) rfl
theorem wy_P_3 : u_lay RP TP 3 ∈ gw := gw_of (tb_1 (List.mem_of_getElem? (i := 50) rfl)) rfl
theorem wy_P_4 : u_lay RP TP 4 ∈ gw := gw_of (tb_1 (List.mem_of_getElem? (i := 52) rfl)) rfl
theorem wy_P_5 : u_lay RP TP 5 ∈ gw := gw_of (tb_1 (List.mem_of_getElem? (i := 54) rfl)) rfl
theorem inP : ∀ w ∈ u_ws RP TP 6, w ∈ gw := by
  intro w hw
  obtain ⟨k, hk, rfl⟩ := List.mem_map.mp hw
  have hk := List.mem_range.mp hk
  match k, hk with
  | 0, _ => exact wy_P_0
  | 1, _ => exact wy_P_1
  | 2, _ => exact wy_P_2
  | 3, _ => exact wy_P_3
  | 4, _ => exact wy_P_4
  | 5, _ => exact wy_P_5
  | n + 6, h => exact absurd h (by omega)
def TR : u_T := fun k => match k with
  | 0 => ("ExamDesk$Rooms", "rows", "[I", true)
  | 1 => ("ExamDesk$Rooms", "columns", "[I", true)
  | 2 => ("ExamDesk$Rooms", "forExtra", "[Z", true)
  | 3 => ("ExamDesk$Rooms", "blocked", "[Z", true)
  | 4 => ("ExamDesk$Rooms", "sitter", "[[I", true)
  | 5 => ("ExamDesk$Rooms", "paperAt", "[[I", true)
  | _ => ("ExamDesk$Rooms", "placeOf", "[[I", true)
def tyR : Nat → FieldType := fun k => match k with
  | 0 => (.array .int)
  | 1 => (.array .int)
  | 2 => (.array .boolean)
  | 3 => (.array .boolean)
  | 4 => (.array (.array .int))
  | 5 => (.array (.array .int))
  | _ => (.array (.array .int))
theorem nmR : ∀ a, a < 7 → ∀ b, b < 7 → a ≠ b → (TR a).2.1 ≠ (TR b).2.1 := by decide +kernel
theorem tkR : ∀ k, k < 7 → parseFieldDescriptor (TR k).2.2.1 = some (tyR k) := by decide +kernel
theorem wy_R_0 : u_lay RR TR 0 ∈ gw := gw_of (tb_1 (List.mem_of_getElem? (i := 120) rfl)) rfl
theorem wy_R_1 : u_lay RR TR 1 ∈ gw := gw_of (tb_1 (List.mem_of_getElem? (i := 122) rfl)) rfl
theorem wy_R_2 : u_lay RR TR 2 ∈ gw := gw_of (tb_1 (List.mem_of_getElem? (i := 124) rfl)) rfl
theorem wy_R_3 : u_lay RR TR 3 ∈ gw := gw_of (tb_1 (List.mem_of_getElem? (i := 126) rfl)) rfl
theorem wy_R_4 : u_lay RR TR 4 ∈ gw := gw_of (tb_1 (List.mem_of_getElem? (i := 128) rfl)) rfl
theorem wy_R_5 : u_lay RR TR 5 ∈ gw := gw_of (tb_1 (List.mem_of_getElem? (i := 130) rfl)) rfl
theorem wy_R_6 : u_lay RR TR 6 ∈ gw := gw_of (tb_1 (List.mem_of_getElem? (i := 132) rfl)) rfl
theorem inR : ∀ w ∈ u_ws RR TR 7, w ∈ gw := by
  intro w hw
  obtain ⟨k, hk, rfl⟩ := List.mem_map.mp hw
  have hk := List.mem_range.mp hk
  match k, hk with
  | 0, _ => exact wy_R_0
  | 1, _ => exact wy_R_1
  | 2, _ => exact wy_R_2
  | 3, _ => exact wy_R_3
  | 4, _ => exact wy_R_4
  | 5, _ => exact wy_R_5
  | 6, _ => exact wy_R_6
  | n + 7, h => exact absurd h (by omega)
def TO : u_T := fun k => match k with
  | 0 => ("ExamDesk$Rota", "mostSessions", "[I", true)
  | 1 => ("ExamDesk$Rota", "ownPapers", "[I", true)
  | 2 => ("ExamDesk$Rota", "watching", "[[I", true)
  | 3 => ("ExamDesk$Rota", "missing", "[I", true)
  | _ => ("ExamDesk$Rota", "suited", "[I", true)
def tyO : Nat → FieldType := fun k => match k with
  | 0 => (.array .int)
  | 1 => (.array .int)
  | 2 => (.array (.array .int))
  | 3 => (.array .int)
  | _ => (.array .int)
theorem nmO : ∀ a, a < 5 → ∀ b, b < 5 → a ≠ b → (TO a).2.1 ≠ (TO b).2.1 := by decide +kernel
theorem tkO : ∀ k, k < 5 → parseFieldDescriptor (TO k).2.2.1 = some (tyO k) := by decide +kernel
theorem wy_O_0 : u_lay RO TO 0 ∈ gw := gw_of (tb_1 (List.mem_of_getElem? (i := 149) rfl)) rfl
theorem wy_O_1 : u_lay RO TO 1 ∈ gw := gw_of (tb_1 (List.mem_of_getElem? (i := 151) rfl)) rfl
theorem wy_O_2 : u_lay RO TO 2 ∈ gw := gw_of (tb_1 (List.mem_of_getElem? (i := 153) rfl)) rfl
theorem wy_O_3 : u_lay RO TO 3 ∈ gw := gw_of (tb_1 (List.mem_of_getElem? (i := 155) rfl)) rfl
theorem wy_O_4 : u_lay RO TO 4 ∈ gw := gw_of (tb_1 (List.mem_of_getElem? (i := 157) rfl)) rfl
theorem inO : ∀ w ∈ u_ws RO TO 5, w ∈ gw := by
  intro w hw
  obtain ⟨k, hk, rfl⟩ := List.mem_map.mp hw
  have hk := List.mem_range.mp hk
  match k, hk with
  | 0, _ => exact wy_O_0
  | 1, _ => exact wy_O_1
  | 2, _ => exact wy_O_2
  | 3, _ => exact wy_O_3
  | 4, _ => exact wy_O_4
  | n + 5, h => exact absurd h (by omega)
def TT : u_T := fun k => match k with
  | 0 => ("ExamDesk$Timetable", "paperMinutes", "[I", true)
  | 1 => ("ExamDesk$Timetable", "sessionMinutes", "[I", true)
  | 2 => ("ExamDesk$Timetable", "enrolled", "[I", true)
  | 3 => ("ExamDesk$Timetable", "hasExtra", "[Z", true)
  | 4 => ("ExamDesk$Timetable", "rules", "[[I", true)
  | 5 => ("ExamDesk$Timetable", "fixedIn", "[I", true)
  | 6 => ("ExamDesk$Timetable", "plannedIn", "[I", true)
  | 7 => ("ExamDesk$Timetable", "hasPlan", "Z", false)
  | 8 => ("ExamDesk$Timetable", "sessionsUsed", "I", false)
  | _ => ("ExamDesk$Timetable", "planner", "LExamDesk$Planner;", true)
def tyT : Nat → FieldType := fun k => match k with
  | 0 => (.array .int)
  | 1 => (.array .int)
  | 2 => (.array .int)
  | 3 => (.array .boolean)
  | 4 => (.array (.array .int))
  | 5 => (.array .int)
  | 6 => (.array .int)
  | 7 => .boolean
  | 8 => .int
  | _ => (.object "ExamDesk$Planner")
theorem nmT : ∀ a, a < 10 → ∀ b, b < 10 → a ≠ b → (TT a).2.1 ≠ (TT b).2.1 := by decide +kernel
theorem tkT : ∀ k, k < 10 → parseFieldDescriptor (TT k).2.2.1 = some (tyT k) := by decide +kernel
theorem wy_T_0 : u_lay RT TT 0 ∈ gw := gw_of (tb_1 (List.mem_of_getElem? (i := 81) rfl)) rfl
theorem wy_T_1 : u_lay RT TT 1 ∈ gw := gw_of (tb_1 (List.mem_of_getElem? (i := 83) rfl)) rfl
theorem wy_T_2 : u_lay RT TT 2 ∈ gw := gw_of (tb_1 (List.mem_of_getElem? (i := 85) rfl)) rfl
theorem wy_T_3 : u_lay RT TT 3 ∈ gw := gw_of (tb_1 (List.mem_of_getElem? (i := 87) rfl)) rfl
theorem wy_T_4 : u_lay RT TT 4 ∈ gw := gw_of (tb_1 (List.mem_of_getElem? (i := 89) rfl)) rfl
theorem wy_T_5 : u_lay RT TT 5 ∈ gw := gw_of (tb_1 (List.mem_of_getElem? (i := 91) rfl)) rfl
theorem wy_T_6 : u_lay RT TT 6 ∈ gw := gw_of (tb_1 (List.mem_of_getElem? (i := 93) rfl)) rfl
theorem wy_T_7 : u_lay RT TT 7 ∈ gw := gw_of (tb_1 (List.mem_of_getElem? (i := 95) rfl)) rfl
theorem wy_T_8 : u_lay RT TT 8 ∈ gw := gw_of (tb_1 (List.mem_of_getElem? (i := 97) rfl)) rfl
theorem wy_T_9 : u_lay RT TT 9 ∈ gw := gw_of (tb_1 (List.mem_of_getElem? (i := 99) rfl)) rfl
theorem inT : ∀ w ∈ u_ws RT TT 10, w ∈ gw := by
  intro w hw
  obtain ⟨k, hk, rfl⟩ := List.mem_map.mp hw
  have hk := List.mem_range.mp hk
  match k, hk with
  | 0, _ => exact wy_T_0
  | 1, _ => exact wy_T_1
  | 2, _ => exact wy_T_2
  | 3, _ => exact wy_T_3
  | 4, _ => exact wy_T_4
  | 5, _ => exact wy_T_5
  | 6, _ => exact wy_T_6
  | 7, _ => exact wy_T_7
  | 8, _ => exact wy_T_8
  | 9, _ => exact wy_T_9
  | n + 10, h => exact absurd h (by omega)
def TE : u_T := fun k => match k with
  | 0 => ("ExamDesk", "timetable", "LExamDesk$Timetable;", true)
  | 1 => ("ExamDesk", "rooms", "LExamDesk$Rooms;", true)
  | _ => ("ExamDesk", "rota", "LExamDesk$Rota;", true)
def tyE : Nat → FieldType := fun k => match k with
  | 0 => (.object "ExamDesk$Timetable")
  | 1 => (.object "ExamDesk$Rooms")
  | _ => (.object "ExamDesk$Rota")
theorem nmE : ∀ a, a < 3 → ∀ b, b < 3 → a ≠ b → (TE a).2.1 ≠ (TE b).2.1 := by decide +kernel
theorem tkE : ∀ k, k < 3 → parseFieldDescriptor (TE k).2.2.1 = some (tyE k) := by decide +kernel
theorem wy_E_0 : u_lay RE TE 0 ∈ gw := gw_of (tb_1 (List.mem_of_getElem? (i := 163) rfl)) rfl
theorem wy_E_1 : u_lay RE TE 1 ∈ gw := gw_of (tb_1 (List.mem_of_getElem? (i := 165) rfl)) rfl
theorem wy_E_2 : u_lay RE TE 2 ∈ gw := gw_of (tb_1 (List.mem_of_getElem? (i := 167) rfl)) rfl
theorem inE : ∀ w ∈ u_ws RE TE 3, w ∈ gw := by
  intro w hw
  obtain ⟨k, hk, rfl⟩ := List.mem_map.mp hw
  have hk := List.mem_range.mp hk
  match k, hk with
  | 0, _ => exact wy_E_0
  | 1, _ => exact wy_E_1
  | 2, _ => exact wy_E_2
  | n + 3, h => exact absurd h (by omega)
def TM : u_T := fun k => match k with
  | 0 => ("ExamDeskModel", "thrown", "I", false)
  | 1 => ("ExamDeskModel", "minutes", "[I", true)
  | 2 => ("ExamDeskModel", "open", "[I", true)
  | 3 => ("ExamDeskModel", "fixed", "[I", true)
  | 4 => ("ExamDeskModel", "enrolled", "[Z", true)
  | 5 => ("ExamDeskModel", "extras", "[Z", true)
  | 6 => ("ExamDeskModel", "rules", "[Z", true)
  | 7 => ("ExamDeskModel", "isPlan", "Z", false)
  | 8 => ("ExamDeskModel", "plans", "[I", true)
  | 9 => ("ExamDeskModel", "needs", "[I", true)
  | 10 => ("ExamDeskModel", "bound", "[I", true)
  | 11 => ("ExamDeskModel", "may", "[Z", true)
  | 12 => ("ExamDeskModel", "good", "[Z", true)
  | 13 => ("ExamDeskModel", "clashes", "[Z", true)
  | 14 => ("ExamDeskModel", "rows", "[I", true)
  | 15 => ("ExamDeskModel", "columns", "[I", true)
  | 16 => ("ExamDeskModel", "forExtra", "[Z", true)
  | 17 => ("ExamDeskModel", "blocked", "[Z", true)
  | 18 => ("ExamDeskModel", "seated", "[I", true)
  | 19 => ("ExamDeskModel", "forPaper", "[I", true)
  | 20 => ("ExamDeskModel", "mosts", "[I", true)
  | 21 => ("ExamDeskModel", "own", "[Z", true)
  | 22 => ("ExamDeskModel", "watches", "[Z", true)
  | 23 => ("ExamDeskModel", "places", "[I", true)
  | _ => ("ExamDeskModel", "can", "[Z", true)
def tyM : Nat → FieldType := fun k => match k with
  | 0 => .int
  | 1 => (.array .int)
  | 2 => (.array .int)
  | 3 => (.array .int)
  | 4 => (.array .boolean)
  | 5 => (.array .boolean)
  | 6 => (.array .boolean)
  | 7 => .boolean
  | 8 => (.array .int)
  | 9 => (.array .int)
  | 10 => (.array .int)
  | 11 => (.array .boolean)
  | 12 => (.array .boolean)
  | 13 => (.array .boolean)
  | 14 => (.array .int)
  | 15 => (.array .int)
  | 16 => (.array .boolean)
  | 17 => (.array .boolean)
  | 18 => (.array .int)
  | 19 => (.array .int)
  | 20 => (.array .int)
  | 21 => (.array .boolean)
  | 22 => (.array .boolean)
  | 23 => (.array .int)
  | _ => (.array .boolean)
theorem nmM : ∀ a, a < 25 → ∀ b, b < 25 → a ≠ b → (TM a).2.1 ≠ (TM b).2.1 := by decide +kernel
theorem tkM : ∀ k, k < 25 → parseFieldDescriptor (TM k).2.2.1 = some (tyM k) := by decide +kernel
theorem wy_M_0 : u_lay RM TM 0 ∈ gw := gw_of (tb_3 (List.mem_of_getElem? (i := 200) rfl)) rfl
theorem wy_M_1 : u_lay RM TM 1 ∈ gw := gw_of (tb_3 (List.mem_of_getElem? (i := 202) rfl)) rfl
theorem wy_M_2 : u_lay RM TM 2 ∈ gw := gw_of (tb_3 (List.mem_of_getElem? (i := 204) rfl)) rfl
theorem wy_M_3 : u_lay RM TM 3 ∈ gw := gw_of (tb_3 (List.mem_of_getElem? (i := 206) rfl)) rfl
theorem wy_M_4 : u_lay RM TM 4 ∈ gw := gw_of (tb_3 (List.mem_of_getElem? (i := 208) rfl)) rfl
theorem wy_M_5 : u_lay RM TM 5 ∈ gw := gw_of (tb_3 (List.mem_of_getElem? (i := 210) rfl)) rfl
theorem wy_M_6 : u_lay RM TM 6 ∈ gw := gw_of (tb_3 (List.mem_of_getElem? (i := 212) rfl)) rfl
theorem wy_M_7 : u_lay RM TM 7 ∈ gw := gw_of (tb_3 (List.mem_of_getElem? (i := 214) rfl)) rfl
theorem wy_M_8 : u_lay RM TM 8 ∈ gw := gw_of (tb_3 (List.mem_of_getElem? (i := 216) rfl)) rfl
theorem wy_M_9 : u_lay RM TM 9 ∈ gw := gw_of (tb_3 (List.mem_of_getElem? (i := 218) rfl)) rfl
theorem wy_M_10 : u_lay RM TM 10 ∈ gw := gw_of (tb_3 (List.mem_of_getElem? (i := 220) rfl)) rfl
theorem wy_M_11 : u_lay RM TM 11 ∈ gw := gw_of (tb_3 (List.mem_of_getElem? (i := 222) rfl)) rfl
theorem wy_M_12 : u_lay RM TM 12 ∈ gw := gw_of (tb_3 (List.mem_of_getElem? (i := 224) rfl)) rfl
theorem wy_M_13 : u_lay RM TM 13 ∈ gw := gw_of (tb_3 (List.mem_of_getElem? (i := 226) rfl)) rfl
theorem wy_M_14 : u_lay RM TM 14 ∈ gw := gw_of (tb_3 (List.mem_of_getElem? (i := 228) rfl)) rfl
theorem wy_M_15 : u_lay RM TM 15 ∈ gw := gw_of (tb_3 (List.mem_of_getElem? (i := 230) rfl)) rfl
theorem wy_M_16 : u_lay RM TM 16 ∈ gw := gw_of (tb_3 (List.mem_of_getElem? (i := 232) rfl)) rfl
theorem wy_M_17 : u_lay RM TM 17 ∈ gw := gw_of (tb_3 (List.mem_of_getElem? (i := 234) rfl)) rfl
theorem wy_M_18 : u_lay RM TM 18 ∈ gw := gw_of (tb_3 (List.mem_of_getElem? (i := 236) rfl)) rfl
theorem wy_M_19 : u_lay RM TM 19 ∈ gw := gw_of (tb_3 (List.mem_of_getElem? (i := 238) rfl)) rfl
theorem wy_M_20 : u_lay RM TM 20 ∈ gw := gw_of (tb_4 (List.mem_of_getElem? (i := 0) rfl)) rfl
theorem wy_M_21 : u_lay RM TM 21 ∈ gw := gw_of (tb_4 (List.mem_of_getElem? (i := 2) rfl)) rfl
theorem wy_M_22 : u_lay RM TM 22 ∈ gw := gw_of (tb_4 (List.mem_of_getElem? (i := 4) rfl)) rfl
theorem wy_M_23 : u_lay RM TM 23 ∈ gw := gw_of (tb_4 (List.mem_of_getElem? (i := 6) rfl)) rfl
theorem wy_M_24 : u_lay RM TM 24 ∈ gw := gw_of (tb_4 (List.mem_of_getElem? (i := 8) rfl)) rfl
theorem inM : ∀ w ∈ u_ws RM TM 25, w ∈ gw := by
  intro w hw
  obtain ⟨k, hk, rfl⟩ := List.mem_map.mp hw
  have hk := List.mem_range.mp hk
  match k, hk with
  | 0, _ => exact wy_M_0
  | 1, _ => exact wy_M_1
  | 2, _ => exact wy_M_2
  | 3, _ => exact wy_M_3
  | 4, _ => exact wy_M_4
  | 5, _ => exact wy_M_5
  | 6, _ => exact wy_M_6
  | 7, _ => exact wy_M_7
  | 8, _ => exact wy_M_8
  | 9, _ => exact wy_M_9
  | 10, _ => exact wy_M_10
  | 11, _ => exact wy_M_11
  | 12, _ => exact wy_M_12
  | 13, _ => exact wy_M_13
  | 14, _ => exact wy_M_14
  | 15, _ => exact wy_M_15
  | 16, _ => exact wy_M_16
  | 17, _ => exact wy_M_17
  | 18, _ => exact wy_M_18
  | 19, _ => exact wy_M_19
  | 20, _ => exact wy_M_20
  | 21, _ => exact wy_M_21
  | 22, _ => exact wy_M_22
  | 23, _ => exact wy_M_23
  | 24, _ => exact wy_M_24
  | n + 25, h => exact absurd h (by omega)
abbrev kl : List vw_C := [(RP, TP, 6), (RR, TR, 7), (RO, TO, 5), (RT, TT, 10), (RE, TE, 3), (RM, TM, 25)]
abbrev cE_init : ByteArray := prog_1_method_1_code
def yE_init : MethodName := ⟨RE, "<init>", "()V"⟩
theorem ck_E_init : ckN yE_init 0 := ⟨by decide +kernel, by decide +kernel, by decide +kernel⟩
abbrev cJO_init : ByteArray := object_method_1_code
def yJO_init : MethodName := ⟨RJO, "<init>", "()V"⟩
theorem ck_JO_init : ckN yJO_init 0 := ⟨by decide +kernel, by decide +kernel, by decide +kernel⟩
abbrev cT_init : ByteArray := prog_5_method_1_code
def yT_init : MethodName := ⟨RT, "<init>", "()V"⟩
theorem ck_T_init : ckN yT_init 0 := ⟨by decide +kernel, by decide +kernel, by decide +kernel⟩
abbrev cP_init : ByteArray := prog_2_method_1_code
def yP_init : MethodName := ⟨RP, "<init>", "()V"⟩
theorem ck_P_init : ckN yP_init 0 := ⟨by decide +kernel, by decide +kernel, by decide +kernel⟩
abbrev cJA_fill : ByteArray := prog_15_method_103_code
def yJA_fill : MethodName := ⟨RJA, "fill", "([II)V"⟩
theorem ck_JA_fill : ckN yJA_fill 2 := ⟨by decide +kernel, by decide +kernel, by decide +kernel⟩
abbrev cR_init : ByteArray := prog_3_method_1_code
def yR_init : MethodName := ⟨RR, "<init>", "()V"⟩
theorem ck_R_init : ckN yR_init 0 := ⟨by decide +kernel, by decide +kernel, by decide +kernel⟩
abbrev cO_init : ByteArray := prog_4_method_1_code
def yO_init : MethodName := ⟨RO, "<init>", "()V"⟩
theorem ck_O_init : ckN yO_init 0 := ⟨by decide +kernel, by decide +kernel, by decide +kernel⟩
abbrev cE_plan : ByteArray := prog_1_method_9_code
def yE_plan : MethodName := ⟨RE, "plan", "()I"⟩
theorem ck_E_plan : ckN yE_plan 0 := ⟨by decide +kernel, by decide +kernel, by decide +kernel⟩
abbrev cE_dropPlan : ByteArray := prog_1_method_23_code
def yE_dropPlan : MethodName := ⟨RE, "dropPlan", "()V"⟩
theorem ck_E_dropPlan : ckN yE_dropPlan 0 := ⟨by decide +kernel, by decide +kernel, by decide +kernel⟩
abbrev cT_forgetPlan : ByteArray := prog_5_method_11_code
def yT_forgetPlan : MethodName := ⟨RT, "forgetPlan", "()V"⟩
theorem ck_T_forgetPlan : ckN yT_forgetPlan 0 := ⟨by decide +kernel, by decide +kernel, by decide +kernel⟩
abbrev cR_clear : ByteArray := prog_3_method_2_code
def yR_clear : MethodName := ⟨RR, "clear", "()V"⟩
theorem ck_R_clear : ckN yR_clear 0 := ⟨by decide +kernel, by decide +kernel, by decide +kernel⟩
abbrev cR_vacate : ByteArray := prog_3_method_10_code
def yR_vacate : MethodName := ⟨RR, "vacate", "(II)V"⟩
theorem ck_R_vacate : ckN yR_vacate 2 := ⟨by decide +kernel, by decide +kernel, by decide +kernel⟩
abbrev cO_clear : ByteArray := prog_4_method_2_code
def yO_clear : MethodName := ⟨RO, "clear", "()V"⟩
theorem ck_O_clear : ckN yO_clear 0 := ⟨by decide +kernel, by decide +kernel, by decide +kernel⟩
abbrev cT_makePlan : ByteArray := prog_5_method_9_code
def yT_makePlan : MethodName := ⟨RT, "makePlan", "()I"⟩
theorem ck_T_makePlan : ckN yT_makePlan 0 := ⟨by decide +kernel, by decide +kernel, by decide +kernel⟩
abbrev cP_leastCost : ByteArray := prog_2_method_2_code
def yP_leastCost : MethodName := ⟨RP, "leastCost", "(LExamDesk$Timetable;)I"⟩
theorem ck_P_leastCost : ckN yP_leastCost 1 := ⟨by decide +kernel, by decide +kernel, by decide +kernel⟩
abbrev cT_heldPapers : ByteArray := prog_5_method_6_code
def yT_heldPapers : MethodName := ⟨RT, "heldPapers", "()I"⟩
theorem ck_T_heldPapers : ckN yT_heldPapers 0 := ⟨by decide +kernel, by decide +kernel, by decide +kernel⟩
abbrev cE_with : ByteArray := prog_1_method_34_code
def yE_with : MethodName := ⟨RE, "with", "(IIZ)I"⟩
theorem ck_E_with : ckN yE_with 3 := ⟨by decide +kernel, by decide +kernel, by decide +kernel⟩
abbrev cP_gatherRules : ByteArray := prog_2_method_3_code
def yP_gatherRules : MethodName := ⟨RP, "gatherRules", "(LExamDesk$Timetable;)V"⟩
theorem ck_P_gatherRules : ckN yP_gatherRules 1 := ⟨by decide +kernel, by decide +kernel, by decide +kernel⟩
abbrev cT_foesOf : ByteArray := prog_5_method_8_code
def yT_foesOf : MethodName := ⟨RT, "foesOf", "(I)I"⟩
theorem ck_T_foesOf : ckN yT_foesOf 1 := ⟨by decide +kernel, by decide +kernel, by decide +kernel⟩
abbrev cE_has : ByteArray := prog_1_method_33_code
def yE_has : MethodName := ⟨RE, "has", "(II)Z"⟩
theorem ck_E_has : ckN yE_has 2 := ⟨by decide +kernel, by decide +kernel, by decide +kernel⟩
abbrev cT_papersFitting : ByteArray := prog_5_method_7_code
def yT_papersFitting : MethodName := ⟨RT, "papersFitting", "(I)I"⟩
theorem ck_T_papersFitting : ckN yT_papersFitting 1 := ⟨by decide +kernel, by decide +kernel, by decide +kernel⟩
abbrev cP_useSession : ByteArray := prog_2_method_4_code
def yP_useSession : MethodName := ⟨RP, "useSession", "(II)V"⟩
theorem ck_P_useSession : ckN yP_useSession 2 := ⟨by decide +kernel, by decide +kernel, by decide +kernel⟩
abbrev cP_papersReady : ByteArray := prog_2_method_5_code
def yP_papersReady : MethodName := ⟨RP, "papersReady", "(I)I"⟩
theorem ck_P_papersReady : ckN yP_papersReady 1 := ⟨by decide +kernel, by decide +kernel, by decide +kernel⟩
abbrev cP_addMeetings : ByteArray := prog_2_method_6_code
def yP_addMeetings : MethodName := ⟨RP, "addMeetings", "(III)V"⟩
theorem ck_P_addMeetings : ckN yP_addMeetings 3 := ⟨by decide +kernel, by decide +kernel, by decide +kernel⟩
abbrev cJI_bitCount : ByteArray := prog_11_method_49_code
def yJI_bitCount : MethodName := ⟨RJI, "bitCount", "(I)I"⟩
theorem ck_JI_bitCount : ckN yJI_bitCount 1 := ⟨by decide +kernel, by decide +kernel, by decide +kernel⟩
abbrev cP_mayMeet : ByteArray := prog_2_method_7_code
def yP_mayMeet : MethodName := ⟨RP, "mayMeet", "(I)Z"⟩
theorem ck_P_mayMeet : ckN yP_mayMeet 1 := ⟨by decide +kernel, by decide +kernel, by decide +kernel⟩
abbrev cT_readPlan : ByteArray := prog_5_method_10_code
def yT_readPlan : MethodName := ⟨RT, "readPlan", "(I)V"⟩
theorem ck_T_readPlan : ckN yT_readPlan 1 := ⟨by decide +kernel, by decide +kernel, by decide +kernel⟩
abbrev cE_strain : ByteArray := prog_1_method_11_code
def yE_strain : MethodName := ⟨RE, "strain", "()I"⟩
theorem ck_E_strain : ckN yE_strain 0 := ⟨by decide +kernel, by decide +kernel, by decide +kernel⟩
abbrev cT_sessionsInARow : ByteArray := prog_5_method_13_code
def yT_sessionsInARow : MethodName := ⟨RT, "sessionsInARow", "()I"⟩
theorem ck_T_sessionsInARow : ckN yT_sessionsInARow 0 := ⟨by decide +kernel, by decide +kernel, by decide +kernel⟩
abbrev cT_sessionsOf : ByteArray := prog_5_method_14_code
def yT_sessionsOf : MethodName := ⟨RT, "sessionsOf", "(I)I"⟩
theorem ck_T_sessionsOf : ckN yT_sessionsOf 1 := ⟨by decide +kernel, by decide +kernel, by decide +kernel⟩
abbrev cL_paper : ByteArray := method_3_code
def yL_paper : MethodName := ⟨RL, "paper", "(LExamDesk;II[J)I"⟩
theorem ck_L_paper : ckN yL_paper 4 := ⟨by decide +kernel, by decide +kernel, by decide +kernel⟩
abbrev cE_paper : ByteArray := prog_1_method_2_code
def yE_paper : MethodName := ⟨RE, "paper", "(II)I"⟩
theorem ck_E_paper : ckN yE_paper 2 := ⟨by decide +kernel, by decide +kernel, by decide +kernel⟩
abbrev cE_isPaper : ByteArray := prog_1_method_28_code
def yE_isPaper : MethodName := ⟨RE, "isPaper", "(I)Z"⟩
theorem ck_E_isPaper : ckN yE_isPaper 1 := ⟨by decide +kernel, by decide +kernel, by decide +kernel⟩
abbrev cE_isBelow : ByteArray := prog_1_method_26_code
def yE_isBelow : MethodName := ⟨RE, "isBelow", "(II)Z"⟩
theorem ck_E_isBelow : ckN yE_isBelow 2 := ⟨by decide +kernel, by decide +kernel, by decide +kernel⟩
abbrev cE_mustExist : ByteArray := prog_1_method_24_code
def yE_mustExist : MethodName := ⟨RE, "mustExist", "(Z)V"⟩
theorem ck_E_mustExist : ckN yE_mustExist 1 := ⟨by decide +kernel, by decide +kernel, by decide +kernel⟩
abbrev cJT_init0 : ByteArray := prog_14_method_1_code
def yJT_init0 : MethodName := ⟨RJT, "<init>", "()V"⟩
theorem ck_JT_init0 : ckN yJT_init0 0 := ⟨by decide +kernel, by decide +kernel, by decide +kernel⟩
abbrev cJT_fillInStackTrace : ByteArray := prog_14_method_18_code
def yJT_fillInStackTrace : MethodName := ⟨RJT, "fillInStackTrace", "()Ljava/lang/Throwable;"⟩
abbrev cJN_init : ByteArray := prog_16_method_4_code
def yJN_init : MethodName := ⟨RJN, "<init>", "(Ljava/lang/String;)V"⟩
theorem ck_JN_init : ckN yJN_init 1 := ⟨by decide +kernel, by decide +kernel, by decide +kernel⟩
abbrev cJR_init : ByteArray := prog_12_method_2_code
def yJR_init : MethodName := ⟨RJR, "<init>", "(Ljava/lang/String;)V"⟩
theorem ck_JR_init : ckN yJR_init 1 := ⟨by decide +kernel, by decide +kernel, by decide +kernel⟩
abbrev cJX_init : ByteArray := prog_8_method_2_code
def yJX_init : MethodName := ⟨RJX, "<init>", "(Ljava/lang/String;)V"⟩
theorem ck_JX_init : ckN yJX_init 1 := ⟨by decide +kernel, by decide +kernel, by decide +kernel⟩
abbrev cJT_initS : ByteArray := prog_14_method_2_code
def yJT_initS : MethodName := ⟨RJT, "<init>", "(Ljava/lang/String;)V"⟩
theorem ck_JT_initS : ckN yJT_initS 1 := ⟨by decide +kernel, by decide +kernel, by decide +kernel⟩
abbrev cE_isUpTo : ByteArray := prog_1_method_27_code
def yE_isUpTo : MethodName := ⟨RE, "isUpTo", "(II)Z"⟩
theorem ck_E_isUpTo : ckN yE_isUpTo 2 := ⟨by decide +kernel, by decide +kernel, by decide +kernel⟩
abbrev cE_mustBeAllowed : ByteArray := prog_1_method_25_code
def yE_mustBeAllowed : MethodName := ⟨RE, "mustBeAllowed", "(Z)V"⟩
theorem ck_E_mustBeAllowed : ckN yE_mustBeAllowed 1 := ⟨by decide +kernel, by decide +kernel, by decide +kernel⟩
abbrev cJG_init : ByteArray := prog_9_method_2_code
def yJG_init : MethodName := ⟨RJG, "<init>", "(Ljava/lang/String;)V"⟩
theorem ck_JG_init : ckN yJG_init 1 := ⟨by decide +kernel, by decide +kernel, by decide +kernel⟩
abbrev cL_session : ByteArray := method_4_code
def yL_session : MethodName := ⟨RL, "session", "(LExamDesk;II[J)I"⟩
theorem ck_L_session : ckN yL_session 4 := ⟨by decide +kernel, by decide +kernel, by decide +kernel⟩
abbrev cE_session : ByteArray := prog_1_method_3_code
def yE_session : MethodName := ⟨RE, "session", "(II)I"⟩
theorem ck_E_session : ckN yE_session 2 := ⟨by decide +kernel, by decide +kernel, by decide +kernel⟩
abbrev cE_isSession : ByteArray := prog_1_method_30_code
def yE_isSession : MethodName := ⟨RE, "isSession", "(I)Z"⟩
theorem ck_E_isSession : ckN yE_isSession 1 := ⟨by decide +kernel, by decide +kernel, by decide +kernel⟩
abbrev cL_enrol : ByteArray := method_5_code
def yL_enrol : MethodName := ⟨RL, "enrol", "(LExamDesk;IIZ[J)I"⟩
theorem ck_L_enrol : ckN yL_enrol 5 := ⟨by decide +kernel, by decide +kernel, by decide +kernel⟩
abbrev cE_enrol : ByteArray := prog_1_method_4_code
def yE_enrol : MethodName := ⟨RE, "enrol", "(IIZ)Z"⟩
theorem ck_E_enrol : ckN yE_enrol 3 := ⟨by decide +kernel, by decide +kernel, by decide +kernel⟩
abbrev cE_isCandidate : ByteArray := prog_1_method_29_code
def yE_isCandidate : MethodName := ⟨RE, "isCandidate", "(I)Z"⟩
theorem ck_E_isCandidate : ckN yE_isCandidate 1 := ⟨by decide +kernel, by decide +kernel, by decide +kernel⟩
abbrev cL_extra : ByteArray := method_6_code
def yL_extra : MethodName := ⟨RL, "extra", "(LExamDesk;IZ[J)I"⟩
theorem ck_L_extra : ckN yL_extra 4 := ⟨by decide +kernel, by decide +kernel, by decide +kernel⟩
abbrev cE_extra : ByteArray := prog_1_method_5_code
def yE_extra : MethodName := ⟨RE, "extra", "(IZ)Z"⟩
theorem ck_E_extra : ckN yE_extra 2 := ⟨by decide +kernel, by decide +kernel, by decide +kernel⟩
abbrev cL_rule : ByteArray := method_7_code
def yL_rule : MethodName := ⟨RL, "rule", "(LExamDesk;IIIZ[J)I"⟩
theorem ck_L_rule : ckN yL_rule 6 := ⟨by decide +kernel, by decide +kernel, by decide +kernel⟩
abbrev cE_rule : ByteArray := prog_1_method_6_code
def yE_rule : MethodName := ⟨RE, "rule", "(IIIZ)Z"⟩
theorem ck_E_rule : ckN yE_rule 4 := ⟨by decide +kernel, by decide +kernel, by decide +kernel⟩
abbrev cT_hasRule : ByteArray := prog_5_method_2_code
def yT_hasRule : MethodName := ⟨RT, "hasRule", "(III)Z"⟩
theorem ck_T_hasRule : ckN yT_hasRule 3 := ⟨by decide +kernel, by decide +kernel, by decide +kernel⟩
abbrev cT_setRule : ByteArray := prog_5_method_3_code
def yT_setRule : MethodName := ⟨RT, "setRule", "(IIIZ)V"⟩
theorem ck_T_setRule : ckN yT_setRule 4 := ⟨by decide +kernel, by decide +kernel, by decide +kernel⟩
abbrev cL_fix : ByteArray := method_8_code
def yL_fix : MethodName := ⟨RL, "fix", "(LExamDesk;II[J)I"⟩
theorem ck_L_fix : ckN yL_fix 4 := ⟨by decide +kernel, by decide +kernel, by decide +kernel⟩
abbrev cE_fix : ByteArray := prog_1_method_7_code
def yE_fix : MethodName := ⟨RE, "fix", "(II)I"⟩
theorem ck_E_fix : ckN yE_fix 2 := ⟨by decide +kernel, by decide +kernel, by decide +kernel⟩
abbrev cL_clash : ByteArray := method_9_code
def yL_clash : MethodName := ⟨RL, "clash", "(LExamDesk;II[J)I"⟩
theorem ck_L_clash : ckN yL_clash 4 := ⟨by decide +kernel, by decide +kernel, by decide +kernel⟩
abbrev cE_clash : ByteArray := prog_1_method_8_code
def yE_clash : MethodName := ⟨RE, "clash", "(II)I"⟩
theorem ck_E_clash : ckN yE_clash 2 := ⟨by decide +kernel, by decide +kernel, by decide +kernel⟩
abbrev cT_enrolledForBoth : ByteArray := prog_5_method_4_code
def yT_enrolledForBoth : MethodName := ⟨RT, "enrolledForBoth", "(II)I"⟩
theorem ck_T_enrolledForBoth : ckN yT_enrolledForBoth 2 := ⟨by decide +kernel, by decide +kernel, by decide +kernel⟩
abbrev cL_planned : ByteArray := method_10_code
def yL_planned : MethodName := ⟨RL, "planned", "(LExamDesk;I[J)I"⟩
theorem ck_L_planned : ckN yL_planned 3 := ⟨by decide +kernel, by decide +kernel, by decide +kernel⟩
abbrev cE_planned : ByteArray := prog_1_method_10_code
def yE_planned : MethodName := ⟨RE, "planned", "(I)I"⟩
theorem ck_E_planned : ckN yE_planned 1 := ⟨by decide +kernel, by decide +kernel, by decide +kernel⟩
abbrev cL_room : ByteArray := method_11_code
def yL_room : MethodName := ⟨RL, "room", "(LExamDesk;IIIZ)I"⟩
theorem ck_L_room : ckN yL_room 5 := ⟨by decide +kernel, by decide +kernel, by decide +kernel⟩
abbrev cE_room : ByteArray := prog_1_method_12_code
def yE_room : MethodName := ⟨RE, "room", "(IIIZ)V"⟩
theorem ck_E_room : ckN yE_room 4 := ⟨by decide +kernel, by decide +kernel, by decide +kernel⟩
abbrev cE_isRoom : ByteArray := prog_1_method_31_code
def yE_isRoom : MethodName := ⟨RE, "isRoom", "(I)Z"⟩
theorem ck_E_isRoom : ckN yE_isRoom 1 := ⟨by decide +kernel, by decide +kernel, by decide +kernel⟩
abbrev cR_furnish : ByteArray := prog_3_method_3_code
def yR_furnish : MethodName := ⟨RR, "furnish", "(IIIZ)V"⟩
theorem ck_R_furnish : ckN yR_furnish 4 := ⟨by decide +kernel, by decide +kernel, by decide +kernel⟩
abbrev cL_block : ByteArray := method_12_code
def yL_block : MethodName := ⟨RL, "block", "(LExamDesk;IIIZ[J)I"⟩
theorem ck_L_block : ckN yL_block 6 := ⟨by decide +kernel, by decide +kernel, by decide +kernel⟩
abbrev cE_block : ByteArray := prog_1_method_13_code
def yE_block : MethodName := ⟨RE, "block", "(IIIZ)Z"⟩
theorem ck_E_block : ckN yE_block 4 := ⟨by decide +kernel, by decide +kernel, by decide +kernel⟩
abbrev cR_hasPlace : ByteArray := prog_3_method_4_code
def yR_hasPlace : MethodName := ⟨RR, "hasPlace", "(III)Z"⟩
theorem ck_R_hasPlace : ckN yR_hasPlace 3 := ⟨by decide +kernel, by decide +kernel, by decide +kernel⟩
abbrev cE_placeAt : ByteArray := prog_1_method_35_code
def yE_placeAt : MethodName := ⟨RE, "placeAt", "(III)I"⟩
theorem ck_E_placeAt : ckN yE_placeAt 3 := ⟨by decide +kernel, by decide +kernel, by decide +kernel⟩
abbrev cR_isTaken : ByteArray := prog_3_method_5_code
def yR_isTaken : MethodName := ⟨RR, "isTaken", "(I)Z"⟩
theorem ck_R_isTaken : ckN yR_isTaken 1 := ⟨by decide +kernel, by decide +kernel, by decide +kernel⟩
abbrev cJS_init : ByteArray := prog_10_method_2_code
def yJS_init : MethodName := ⟨RJS, "<init>", "(Ljava/lang/String;)V"⟩
theorem ck_JS_init : ckN yJS_init 1 := ⟨by decide +kernel, by decide +kernel, by decide +kernel⟩
abbrev cL_seat : ByteArray := method_13_code
def yL_seat : MethodName := ⟨RL, "seat", "(LExamDesk;I[J)I"⟩
theorem ck_L_seat : ckN yL_seat 3 := ⟨by decide +kernel, by decide +kernel, by decide +kernel⟩
abbrev cE_seat : ByteArray := prog_1_method_14_code
def yE_seat : MethodName := ⟨RE, "seat", "(I)I"⟩
theorem ck_E_seat : ckN yE_seat 1 := ⟨by decide +kernel, by decide +kernel, by decide +kernel⟩
abbrev cT_paperOf : ByteArray := prog_5_method_12_code
def yT_paperOf : MethodName := ⟨RT, "paperOf", "(II)I"⟩
theorem ck_T_paperOf : ckN yT_paperOf 2 := ⟨by decide +kernel, by decide +kernel, by decide +kernel⟩
abbrev cR_giveSeat : ByteArray := prog_3_method_6_code
def yR_giveSeat : MethodName := ⟨RR, "giveSeat", "(IIIZ)Z"⟩
theorem ck_R_giveSeat : ckN yR_giveSeat 4 := ⟨by decide +kernel, by decide +kernel, by decide +kernel⟩
abbrev cR_firstPlace : ByteArray := prog_3_method_7_code
def yR_firstPlace : MethodName := ⟨RR, "firstPlace", "(III)I"⟩
theorem ck_R_firstPlace : ckN yR_firstPlace 3 := ⟨by decide +kernel, by decide +kernel, by decide +kernel⟩
abbrev cR_hasNeighbour : ByteArray := prog_3_method_8_code
def yR_hasNeighbour : MethodName := ⟨RR, "hasNeighbour", "(IIIII)Z"⟩
theorem ck_R_hasNeighbour : ckN yR_hasNeighbour 5 := ⟨by decide +kernel, by decide +kernel, by decide +kernel⟩
abbrev cR_isWritten : ByteArray := prog_3_method_9_code
def yR_isWritten : MethodName := ⟨RR, "isWritten", "(IIIII)Z"⟩
theorem ck_R_isWritten : ckN yR_isWritten 5 := ⟨by decide +kernel, by decide +kernel, by decide +kernel⟩
abbrev cL_leave : ByteArray := method_14_code
def yL_leave : MethodName := ⟨RL, "leave", "(LExamDesk;II[J)I"⟩
theorem ck_L_leave : ckN yL_leave 4 := ⟨by decide +kernel, by decide +kernel, by decide +kernel⟩
abbrev cE_leave : ByteArray := prog_1_method_15_code
def yE_leave : MethodName := ⟨RE, "leave", "(II)I"⟩
theorem ck_E_leave : ckN yE_leave 2 := ⟨by decide +kernel, by decide +kernel, by decide +kernel⟩
abbrev cE_seatNumber : ByteArray := prog_1_method_36_code
def yE_seatNumber : MethodName := ⟨RE, "seatNumber", "(I)I"⟩
theorem ck_E_seatNumber : ckN yE_seatNumber 1 := ⟨by decide +kernel, by decide +kernel, by decide +kernel⟩
abbrev cL_where : ByteArray := method_15_code
def yL_where : MethodName := ⟨RL, "where", "(LExamDesk;II[J)I"⟩
theorem ck_L_where : ckN yL_where 4 := ⟨by decide +kernel, by decide +kernel, by decide +kernel⟩
abbrev cE_where : ByteArray := prog_1_method_16_code
def yE_where : MethodName := ⟨RE, "where", "(II)I"⟩
theorem ck_E_where : ckN yE_where 2 := ⟨by decide +kernel, by decide +kernel, by decide +kernel⟩
abbrev cL_who : ByteArray := method_16_code
def yL_who : MethodName := ⟨RL, "who", "(LExamDesk;IIII[J)I"⟩
theorem ck_L_who : ckN yL_who 6 := ⟨by decide +kernel, by decide +kernel, by decide +kernel⟩
abbrev cE_who : ByteArray := prog_1_method_17_code
def yE_who : MethodName := ⟨RE, "who", "(IIII)I"⟩
theorem ck_E_who : ckN yE_who 4 := ⟨by decide +kernel, by decide +kernel, by decide +kernel⟩
abbrev cL_most : ByteArray := method_17_code
def yL_most : MethodName := ⟨RL, "most", "(LExamDesk;II[J)I"⟩
theorem ck_L_most : ckN yL_most 4 := ⟨by decide +kernel, by decide +kernel, by decide +kernel⟩
abbrev cE_most : ByteArray := prog_1_method_18_code
def yE_most : MethodName := ⟨RE, "most", "(II)I"⟩
theorem ck_E_most : ckN yE_most 2 := ⟨by decide +kernel, by decide +kernel, by decide +kernel⟩
abbrev cE_isInvigilator : ByteArray := prog_1_method_32_code
def yE_isInvigilator : MethodName := ⟨RE, "isInvigilator", "(I)Z"⟩
theorem ck_E_isInvigilator : ckN yE_isInvigilator 1 := ⟨by decide +kernel, by decide +kernel, by decide +kernel⟩
abbrev cL_own : ByteArray := method_18_code
def yL_own : MethodName := ⟨RL, "own", "(LExamDesk;IIZ[J)I"⟩
theorem ck_L_own : ckN yL_own 5 := ⟨by decide +kernel, by decide +kernel, by decide +kernel⟩
abbrev cE_own : ByteArray := prog_1_method_19_code
def yE_own : MethodName := ⟨RE, "own", "(IIZ)Z"⟩
theorem ck_E_own : ckN yE_own 3 := ⟨by decide +kernel, by decide +kernel, by decide +kernel⟩
abbrev cL_watch : ByteArray := method_19_code
def yL_watch : MethodName := ⟨RL, "watch", "(LExamDesk;I[J)I"⟩
theorem ck_L_watch : ckN yL_watch 3 := ⟨by decide +kernel, by decide +kernel, by decide +kernel⟩
abbrev cE_watch : ByteArray := prog_1_method_20_code
def yE_watch : MethodName := ⟨RE, "watch", "(I)Z"⟩
theorem ck_E_watch : ckN yE_watch 1 := ⟨by decide +kernel, by decide +kernel, by decide +kernel⟩
abbrev cO_staff : ByteArray := prog_4_method_3_code
def yO_staff : MethodName := ⟨RO, "staff", "(ILExamDesk$Rooms;)Z"⟩
theorem ck_O_staff : ckN yO_staff 2 := ⟨by decide +kernel, by decide +kernel, by decide +kernel⟩
abbrev cO_thoseWithTime : ByteArray := prog_4_method_5_code
def yO_thoseWithTime : MethodName := ⟨RO, "thoseWithTime", "()I"⟩
theorem ck_O_thoseWithTime : ckN yO_thoseWithTime 0 := ⟨by decide +kernel, by decide +kernel, by decide +kernel⟩
abbrev cO_watchesOf : ByteArray := prog_4_method_6_code
def yO_watchesOf : MethodName := ⟨RO, "watchesOf", "(I)I"⟩
theorem ck_O_watchesOf : ckN yO_watchesOf 1 := ⟨by decide +kernel, by decide +kernel, by decide +kernel⟩
abbrev cR_sittersIn : ByteArray := prog_3_method_11_code
def yR_sittersIn : MethodName := ⟨RR, "sittersIn", "(II)I"⟩
theorem ck_R_sittersIn : ckN yR_sittersIn 2 := ⟨by decide +kernel, by decide +kernel, by decide +kernel⟩
abbrev cO_needed : ByteArray := prog_4_method_4_code
def yO_needed : MethodName := ⟨RO, "needed", "(I)I"⟩
theorem ck_O_needed : ckN yO_needed 1 := ⟨by decide +kernel, by decide +kernel, by decide +kernel⟩
abbrev cR_papersIn : ByteArray := prog_3_method_12_code
def yR_papersIn : MethodName := ⟨RR, "papersIn", "(II)I"⟩
theorem ck_R_papersIn : ckN yR_papersIn 2 := ⟨by decide +kernel, by decide +kernel, by decide +kernel⟩
abbrev cO_thoseWithout : ByteArray := prog_4_method_7_code
def yO_thoseWithout : MethodName := ⟨RO, "thoseWithout", "(I)I"⟩
theorem ck_O_thoseWithout : ckN yO_thoseWithout 1 := ⟨by decide +kernel, by decide +kernel, by decide +kernel⟩
abbrev cO_areEnough : ByteArray := prog_4_method_9_code
def yO_areEnough : MethodName := ⟨RO, "areEnough", "(I)Z"⟩
theorem ck_O_areEnough : ckN yO_areEnough 1 := ⟨by decide +kernel, by decide +kernel, by decide +kernel⟩
abbrev cO_staffRoom : ByteArray := prog_4_method_8_code
def yO_staffRoom : MethodName := ⟨RO, "staffRoom", "(III)I"⟩
theorem ck_O_staffRoom : ckN yO_staffRoom 3 := ⟨by decide +kernel, by decide +kernel, by decide +kernel⟩
abbrev cL_watcher : ByteArray := method_20_code
def yL_watcher : MethodName := ⟨RL, "watcher", "(LExamDesk;III[J)I"⟩
theorem ck_L_watcher : ckN yL_watcher 5 := ⟨by decide +kernel, by decide +kernel, by decide +kernel⟩
abbrev cE_watcher : ByteArray := prog_1_method_21_code
def yE_watcher : MethodName := ⟨RE, "watcher", "(III)I"⟩
theorem ck_E_watcher : ckN yE_watcher 3 := ⟨by decide +kernel, by decide +kernel, by decide +kernel⟩
abbrev cO_watcherAt : ByteArray := prog_4_method_10_code
def yO_watcherAt : MethodName := ⟨RO, "watcherAt", "(III)I"⟩
theorem ck_O_watcherAt : ckN yO_watcherAt 3 := ⟨by decide +kernel, by decide +kernel, by decide +kernel⟩
abbrev cL_count : ByteArray := method_21_code
def yL_count : MethodName := ⟨RL, "count", "(LExamDesk;I[J)I"⟩
theorem ck_L_count : ckN yL_count 3 := ⟨by decide +kernel, by decide +kernel, by decide +kernel⟩
abbrev cE_count : ByteArray := prog_1_method_22_code
def yE_count : MethodName := ⟨RE, "count", "(I)I"⟩
theorem ck_E_count : ckN yE_count 1 := ⟨by decide +kernel, by decide +kernel, by decide +kernel⟩
abbrev cT_enrolments : ByteArray := prog_5_method_5_code
def yT_enrolments : MethodName := ⟨RT, "enrolments", "()I"⟩
theorem ck_T_enrolments : ckN yT_enrolments 0 := ⟨by decide +kernel, by decide +kernel, by decide +kernel⟩
abbrev cR_seatsTaken : ByteArray := prog_3_method_13_code
def yR_seatsTaken : MethodName := ⟨RR, "seatsTaken", "()I"⟩
theorem ck_R_seatsTaken : ckN yR_seatsTaken 0 := ⟨by decide +kernel, by decide +kernel, by decide +kernel⟩
abbrev cO_watches : ByteArray := prog_4_method_11_code
def yO_watches : MethodName := ⟨RO, "watches", "()I"⟩
theorem ck_O_watches : ckN yO_watches 0 := ⟨by decide +kernel, by decide +kernel, by decide +kernel⟩
abbrev cM_init : ByteArray := prog_7_method_1_code
def yM_init : MethodName := ⟨RM, "<init>", "()V"⟩
theorem ck_M_init : ckN yM_init 0 := ⟨by decide +kernel, by decide +kernel, by decide +kernel⟩
abbrev cM_thrown : ByteArray := prog_7_method_2_code
def yM_thrown : MethodName := ⟨RM, "thrown", "()I"⟩
theorem ck_M_thrown : ckN yM_thrown 0 := ⟨by decide +kernel, by decide +kernel, by decide +kernel⟩
abbrev cM_paper : ByteArray := prog_7_method_9_code
def yM_paper : MethodName := ⟨RM, "paper", "(II)I"⟩
theorem ck_M_paper : ckN yM_paper 2 := ⟨by decide +kernel, by decide +kernel, by decide +kernel⟩
abbrev cM_isPaper : ByteArray := prog_7_method_5_code
def yM_isPaper : MethodName := ⟨RM, "isPaper", "(I)Z"⟩
theorem ck_M_isPaper : ckN yM_isPaper 1 := ⟨by decide +kernel, by decide +kernel, by decide +kernel⟩
abbrev cM_within : ByteArray := prog_7_method_4_code
def yM_within : MethodName := ⟨RM, "within", "(III)Z"⟩
theorem ck_M_within : ckN yM_within 3 := ⟨by decide +kernel, by decide +kernel, by decide +kernel⟩
abbrev cM_goes : ByteArray := prog_7_method_3_code
def yM_goes : MethodName := ⟨RM, "goes", "(ZZ)Z"⟩
theorem ck_M_goes : ckN yM_goes 2 := ⟨by decide +kernel, by decide +kernel, by decide +kernel⟩
abbrev cM_forget : ByteArray := prog_7_method_8_code
def yM_forget : MethodName := ⟨RM, "forget", "()V"⟩
theorem ck_M_forget : ckN yM_forget 0 := ⟨by decide +kernel, by decide +kernel, by decide +kernel⟩
abbrev cM_session : ByteArray := prog_7_method_10_code
def yM_session : MethodName := ⟨RM, "session", "(II)I"⟩
theorem ck_M_session : ckN yM_session 2 := ⟨by decide +kernel, by decide +kernel, by decide +kernel⟩
abbrev cM_isSession : ByteArray := prog_7_method_6_code
def yM_isSession : MethodName := ⟨RM, "isSession", "(I)Z"⟩
theorem ck_M_isSession : ckN yM_isSession 1 := ⟨by decide +kernel, by decide +kernel, by decide +kernel⟩
abbrev cM_enrol : ByteArray := prog_7_method_11_code
def yM_enrol : MethodName := ⟨RM, "enrol", "(IIZ)Z"⟩
theorem ck_M_enrol : ckN yM_enrol 3 := ⟨by decide +kernel, by decide +kernel, by decide +kernel⟩
abbrev cM_isCandidate : ByteArray := prog_7_method_7_code
def yM_isCandidate : MethodName := ⟨RM, "isCandidate", "(I)Z"⟩
theorem ck_M_isCandidate : ckN yM_isCandidate 1 := ⟨by decide +kernel, by decide +kernel, by decide +kernel⟩
abbrev cM_extra : ByteArray := prog_7_method_12_code
def yM_extra : MethodName := ⟨RM, "extra", "(IZ)Z"⟩
theorem ck_M_extra : ckN yM_extra 2 := ⟨by decide +kernel, by decide +kernel, by decide +kernel⟩
abbrev cM_rule : ByteArray := prog_7_method_13_code
def yM_rule : MethodName := ⟨RM, "rule", "(IIIZ)Z"⟩
theorem ck_M_rule : ckN yM_rule 4 := ⟨by decide +kernel, by decide +kernel, by decide +kernel⟩
abbrev cM_fix : ByteArray := prog_7_method_14_code
def yM_fix : MethodName := ⟨RM, "fix", "(II)I"⟩
theorem ck_M_fix : ckN yM_fix 2 := ⟨by decide +kernel, by decide +kernel, by decide +kernel⟩
abbrev cM_clash : ByteArray := prog_7_method_16_code
def yM_clash : MethodName := ⟨RM, "clash", "(II)I"⟩
theorem ck_M_clash : ckN yM_clash 2 := ⟨by decide +kernel, by decide +kernel, by decide +kernel⟩
abbrev cM_common : ByteArray := prog_7_method_15_code
def yM_common : MethodName := ⟨RM, "common", "(II)I"⟩
theorem ck_M_common : ckN yM_common 2 := ⟨by decide +kernel, by decide +kernel, by decide +kernel⟩
abbrev cM_plan : ByteArray := prog_7_method_24_code
def yM_plan : MethodName := ⟨RM, "plan", "()I"⟩
theorem ck_M_plan : ckN yM_plan 0 := ⟨by decide +kernel, by decide +kernel, by decide +kernel⟩
abbrev cM_held : ByteArray := prog_7_method_18_code
def yM_held : MethodName := ⟨RM, "held", "()I"⟩
theorem ck_M_held : ckN yM_held 0 := ⟨by decide +kernel, by decide +kernel, by decide +kernel⟩
abbrev cM_fits : ByteArray := prog_7_method_19_code
def yM_fits : MethodName := ⟨RM, "fits", "(III)Z"⟩
theorem ck_M_fits : ckN yM_fits 3 := ⟨by decide +kernel, by decide +kernel, by decide +kernel⟩
abbrev cM_has : ByteArray := prog_7_method_17_code
def yM_has : MethodName := ⟨RM, "has", "(II)Z"⟩
theorem ck_M_has : ckN yM_has 2 := ⟨by decide +kernel, by decide +kernel, by decide +kernel⟩
abbrev cM_least : ByteArray := prog_7_method_22_code
def yM_least : MethodName := ⟨RM, "least", "(I)I"⟩
theorem ck_M_least : ckN yM_least 1 := ⟨by decide +kernel, by decide +kernel, by decide +kernel⟩
abbrev cM_keeps : ByteArray := prog_7_method_21_code
def yM_keeps : MethodName := ⟨RM, "keeps", "(II)Z"⟩
theorem ck_M_keeps : ckN yM_keeps 2 := ⟨by decide +kernel, by decide +kernel, by decide +kernel⟩
abbrev cM_follows : ByteArray := prog_7_method_20_code
def yM_follows : MethodName := ⟨RM, "follows", "(III)Z"⟩
theorem ck_M_follows : ckN yM_follows 3 := ⟨by decide +kernel, by decide +kernel, by decide +kernel⟩
abbrev cM_planned : ByteArray := prog_7_method_25_code
def yM_planned : MethodName := ⟨RM, "planned", "(I)I"⟩
theorem ck_M_planned : ckN yM_planned 1 := ⟨by decide +kernel, by decide +kernel, by decide +kernel⟩
abbrev cM_strain : ByteArray := prog_7_method_27_code
def yM_strain : MethodName := ⟨RM, "strain", "()I"⟩
theorem ck_M_strain : ckN yM_strain 0 := ⟨by decide +kernel, by decide +kernel, by decide +kernel⟩
abbrev cM_paperOf : ByteArray := prog_7_method_26_code
def yM_paperOf : MethodName := ⟨RM, "paperOf", "(II)I"⟩
theorem ck_M_paperOf : ckN yM_paperOf 2 := ⟨by decide +kernel, by decide +kernel, by decide +kernel⟩
abbrev cM_room : ByteArray := prog_7_method_30_code
def yM_room : MethodName := ⟨RM, "room", "(IIIZ)V"⟩
theorem ck_M_room : ckN yM_room 4 := ⟨by decide +kernel, by decide +kernel, by decide +kernel⟩
abbrev cM_isRoom : ByteArray := prog_7_method_28_code
def yM_isRoom : MethodName := ⟨RM, "isRoom", "(I)Z"⟩
theorem ck_M_isRoom : ckN yM_isRoom 1 := ⟨by decide +kernel, by decide +kernel, by decide +kernel⟩
abbrev cM_block : ByteArray := prog_7_method_31_code
def yM_block : MethodName := ⟨RM, "block", "(IIIZ)Z"⟩
theorem ck_M_block : ckN yM_block 4 := ⟨by decide +kernel, by decide +kernel, by decide +kernel⟩
abbrev cM_isSeat : ByteArray := prog_7_method_29_code
def yM_isSeat : MethodName := ⟨RM, "isSeat", "(III)Z"⟩
theorem ck_M_isSeat : ckN yM_isSeat 3 := ⟨by decide +kernel, by decide +kernel, by decide +kernel⟩
abbrev cM_seat : ByteArray := prog_7_method_35_code
def yM_seat : MethodName := ⟨RM, "seat", "(I)I"⟩
theorem ck_M_seat : ckN yM_seat 1 := ⟨by decide +kernel, by decide +kernel, by decide +kernel⟩
abbrev cM_place : ByteArray := prog_7_method_34_code
def yM_place : MethodName := ⟨RM, "place", "(II)I"⟩
theorem ck_M_place : ckN yM_place 2 := ⟨by decide +kernel, by decide +kernel, by decide +kernel⟩
abbrev cM_seatFor : ByteArray := prog_7_method_33_code
def yM_seatFor : MethodName := ⟨RM, "seatFor", "(III)I"⟩
theorem ck_M_seatFor : ckN yM_seatFor 3 := ⟨by decide +kernel, by decide +kernel, by decide +kernel⟩
abbrev cM_sitsFor : ByteArray := prog_7_method_32_code
def yM_sitsFor : MethodName := ⟨RM, "sitsFor", "(IIIII)Z"⟩
theorem ck_M_sitsFor : ckN yM_sitsFor 5 := ⟨by decide +kernel, by decide +kernel, by decide +kernel⟩
abbrev cM_leave : ByteArray := prog_7_method_37_code
def yM_leave : MethodName := ⟨RM, "leave", "(II)I"⟩
theorem ck_M_leave : ckN yM_leave 2 := ⟨by decide +kernel, by decide +kernel, by decide +kernel⟩
abbrev cM_told : ByteArray := prog_7_method_36_code
def yM_told : MethodName := ⟨RM, "told", "(I)I"⟩
theorem ck_M_told : ckN yM_told 1 := ⟨by decide +kernel, by decide +kernel, by decide +kernel⟩
abbrev cM_where : ByteArray := prog_7_method_38_code
def yM_where : MethodName := ⟨RM, "where", "(II)I"⟩
theorem ck_M_where : ckN yM_where 2 := ⟨by decide +kernel, by decide +kernel, by decide +kernel⟩
abbrev cM_who : ByteArray := prog_7_method_39_code
def yM_who : MethodName := ⟨RM, "who", "(IIII)I"⟩
theorem ck_M_who : ckN yM_who 4 := ⟨by decide +kernel, by decide +kernel, by decide +kernel⟩
abbrev cM_most : ByteArray := prog_7_method_41_code
def yM_most : MethodName := ⟨RM, "most", "(II)I"⟩
theorem ck_M_most : ckN yM_most 2 := ⟨by decide +kernel, by decide +kernel, by decide +kernel⟩
abbrev cM_isInvigilator : ByteArray := prog_7_method_40_code
def yM_isInvigilator : MethodName := ⟨RM, "isInvigilator", "(I)Z"⟩
theorem ck_M_isInvigilator : ckN yM_isInvigilator 1 := ⟨by decide +kernel, by decide +kernel, by decide +kernel⟩
abbrev cM_own : ByteArray := prog_7_method_42_code
def yM_own : MethodName := ⟨RM, "own", "(IIZ)Z"⟩
theorem ck_M_own : ckN yM_own 3 := ⟨by decide +kernel, by decide +kernel, by decide +kernel⟩
abbrev cM_watch : ByteArray := prog_7_method_46_code
def yM_watch : MethodName := ⟨RM, "watch", "(I)Z"⟩
theorem ck_M_watch : ckN yM_watch 1 := ⟨by decide +kernel, by decide +kernel, by decide +kernel⟩
abbrev cM_sitting : ByteArray := prog_7_method_45_code
def yM_sitting : MethodName := ⟨RM, "sitting", "(II)I"⟩
theorem ck_M_sitting : ckN yM_sitting 2 := ⟨by decide +kernel, by decide +kernel, by decide +kernel⟩
abbrev cM_mayWatch : ByteArray := prog_7_method_44_code
def yM_mayWatch : MethodName := ⟨RM, "mayWatch", "(III)Z"⟩
theorem ck_M_mayWatch : ckN yM_mayWatch 3 := ⟨by decide +kernel, by decide +kernel, by decide +kernel⟩
abbrev cM_sessionsOf : ByteArray := prog_7_method_43_code
def yM_sessionsOf : MethodName := ⟨RM, "sessionsOf", "(I)I"⟩
theorem ck_M_sessionsOf : ckN yM_sessionsOf 1 := ⟨by decide +kernel, by decide +kernel, by decide +kernel⟩
abbrev cM_given : ByteArray := prog_7_method_47_code
def yM_given : MethodName := ⟨RM, "given", "(II)Z"⟩
theorem ck_M_given : ckN yM_given 2 := ⟨by decide +kernel, by decide +kernel, by decide +kernel⟩
abbrev cM_watcher : ByteArray := prog_7_method_48_code
def yM_watcher : MethodName := ⟨RM, "watcher", "(III)I"⟩
theorem ck_M_watcher : ckN yM_watcher 3 := ⟨by decide +kernel, by decide +kernel, by decide +kernel⟩
abbrev cM_count : ByteArray := prog_7_method_49_code
def yM_count : MethodName := ⟨RM, "count", "(I)I"⟩
theorem ck_M_count : ckN yM_count 1 := ⟨by decide +kernel, by decide +kernel, by decide +kernel⟩
abbrev cM_used : ByteArray := prog_7_method_23_code
def yM_used : MethodName := ⟨RM, "used", "()I"⟩
theorem ck_M_used : ckN yM_used 0 := ⟨by decide +kernel, by decide +kernel, by decide +kernel⟩
abbrev cL_law : ByteArray := code
def yL_law : MethodName := ⟨RL, "law", "([I)Z"⟩
theorem wn_L : Cond.initialized RL ∈ gw := gw_of (tb_1 (List.mem_of_getElem? (i := 0) rfl)) rfl
theorem wn_E : Cond.initialized RE ∈ gw := gw_of (tb_1 (List.mem_of_getElem? (i := 1) rfl)) rfl
theorem wn_T : Cond.initialized RT ∈ gw := gw_of (tb_1 (List.mem_of_getElem? (i := 2) rfl)) rfl
theorem wn_P : Cond.initialized RP ∈ gw := gw_of (tb_1 (List.mem_of_getElem? (i := 3) rfl)) rfl
theorem wn_JA : Cond.initialized RJA ∈ gw := gw_of (tb_1 (List.mem_of_getElem? (i := 4) rfl)) rfl
theorem wn_R : Cond.initialized RR ∈ gw := gw_of (tb_1 (List.mem_of_getElem? (i := 5) rfl)) rfl
theorem wn_O : Cond.initialized RO ∈ gw := gw_of (tb_1 (List.mem_of_getElem? (i := 6) rfl)) rfl
theorem wn_M : Cond.initialized RM ∈ gw := gw_of (tb_1 (List.mem_of_getElem? (i := 7) rfl)) rfl
theorem wn_JT : Cond.initialized RJT ∈ gw := gw_of (tb_1 (List.mem_of_getElem? (i := 8) rfl)) rfl
theorem wn_JX : Cond.initialized RJX ∈ gw := gw_of (tb_1 (List.mem_of_getElem? (i := 9) rfl)) rfl
theorem wn_JR : Cond.initialized RJR ∈ gw := gw_of (tb_1 (List.mem_of_getElem? (i := 10) rfl)) rfl
theorem wn_JN : Cond.initialized RJN ∈ gw := gw_of (tb_1 (List.mem_of_getElem? (i := 11) rfl)) rfl
theorem wn_JG : Cond.initialized RJG ∈ gw := gw_of (tb_1 (List.mem_of_getElem? (i := 12) rfl)) rfl
theorem wn_JI : Cond.initialized RJI ∈ gw := gw_of (tb_1 (List.mem_of_getElem? (i := 13) rfl)) rfl
theorem wn_JS : Cond.initialized RJS ∈ gw := gw_of (tb_1 (List.mem_of_getElem? (i := 14) rfl)) rfl
theorem wq_L_8 : Cond.classLink RL 8 "ExamDesk" ∈ gw := gw_of (tb_1 (List.mem_of_getElem? (i := 15) rfl)) rfl
theorem wb_E : Cond.instantiable RE 3 ∈ gw := gw_of (tb_1 (List.mem_of_getElem? (i := 16) rfl)) rfl
theorem wl_L_81 : Cond.methodLink RL 81 yE_init ∈ gw := gw_of (tb_1 (List.mem_of_getElem? (i := 17) rfl)) rfl
theorem wi_E_init : Cond.instanceMethod yE_init ∈ gw := gw_of (tb_1 (List.mem_of_getElem? (i := 18) rfl)) rfl
theorem wc_E_init : Cond.code yE_init cE_init 1 none ∈ gw := gw_of (tb_1 (List.mem_of_getElem? (i := 19) rfl)) rfl
theorem wl_E_3 : Cond.methodLink RE 3 yJO_init ∈ gw := gw_of (tb_1 (List.mem_of_getElem? (i := 20) rfl)) rfl
theorem wi_JO_init : Cond.instanceMethod yJO_init ∈ gw := gw_of (tb_1 (List.mem_of_getElem? (i := 21) rfl)) rfl
theorem wc_JO_init : Cond.code yJO_init cJO_init 1 none ∈ gw := gw_of (tb_1 (List.mem_of_getElem? (i := 22) rfl)) rfl
theorem wq_E_9 : Cond.classLink RE 9 "ExamDesk$Timetable" ∈ gw := gw_of (tb_1 (List.mem_of_getElem? (i := 23) rfl)) rfl
theorem wb_T : Cond.instantiable RT 10 ∈ gw := gw_of (tb_1 (List.mem_of_getElem? (i := 24) rfl)) rfl
theorem wl_E_11 : Cond.methodLink RE 11 yT_init ∈ gw := gw_of (tb_1 (List.mem_of_getElem? (i := 25) rfl)) rfl
theorem wi_T_init : Cond.instanceMethod yT_init ∈ gw := gw_of (tb_1 (List.mem_of_getElem? (i := 26) rfl)) rfl
theorem wc_T_init : Cond.code yT_init cT_init 1 none ∈ gw := gw_of (tb_1 (List.mem_of_getElem? (i := 27) rfl)) rfl
theorem wl_T_3 : Cond.methodLink RT 3 yJO_init ∈ gw := gw_of (tb_1 (List.mem_of_getElem? (i := 28) rfl)) rfl
theorem wq_T_25 : Cond.classLink RT 25 "[[I" ∈ gw := gw_of (tb_1 (List.mem_of_getElem? (i := 29) rfl)) rfl
theorem wq_T_44 : Cond.classLink RT 44 "ExamDesk$Planner" ∈ gw := gw_of (tb_1 (List.mem_of_getElem? (i := 31) rfl)) rfl
theorem wb_P : Cond.instantiable RP 6 ∈ gw := gw_of (tb_1 (List.mem_of_getElem? (i := 32) rfl)) rfl
theorem wl_T_46 : Cond.methodLink RT 46 yP_init ∈ gw := gw_of (tb_1 (List.mem_of_getElem? (i := 33) rfl)) rfl
theorem wi_P_init : Cond.instanceMethod yP_init ∈ gw := gw_of (tb_1 (List.mem_of_getElem? (i := 34) rfl)) rfl
theorem wc_P_init : Cond.code yP_init cP_init 4 none ∈ gw := gw_of (tb_1 (List.mem_of_getElem? (i := 35) rfl)) rfl
theorem wl_P_3 : Cond.methodLink RP 3 yJO_init ∈ gw := gw_of (tb_1 (List.mem_of_getElem? (i := 36) rfl)) rfl
theorem wk_P_31 : Cond.constant RP 31 10077696 ∈ gw := gw_of (tb_1 (List.mem_of_getElem? (i := 37) rfl)) rfl
theorem wf_P_11 : Cond.fieldLink RP 11 "ExamDesk$Planner" "digits" "[I" ∈ gw := gw_of (tb_1 (List.mem_of_getElem? (i := 38) rfl)) rfl
theorem wf_P_15 : Cond.fieldLink RP 15 "ExamDesk$Planner" "best" "[I" ∈ gw := gw_of (tb_1 (List.mem_of_getElem? (i := 39) rfl)) rfl
theorem wf_P_18 : Cond.fieldLink RP 18 "ExamDesk$Planner" "foes" "[I" ∈ gw := gw_of (tb_1 (List.mem_of_getElem? (i := 40) rfl)) rfl
theorem wf_P_21 : Cond.fieldLink RP 21 "ExamDesk$Planner" "mates" "[I" ∈ gw := gw_of (tb_1 (List.mem_of_getElem? (i := 41) rfl)) rfl
theorem wf_P_24 : Cond.fieldLink RP 24 "ExamDesk$Planner" "before" "[I" ∈ gw := gw_of (tb_1 (List.mem_of_getElem? (i := 42) rfl)) rfl
theorem wf_P_27 : Cond.fieldLink RP 27 "ExamDesk$Planner" "held" "I" ∈ gw := gw_of (tb_1 (List.mem_of_getElem? (i := 43) rfl)) rfl
theorem wa_int : Cond.arrayClass .int ∈ gw := gw_of (tb_1 (List.mem_of_getElem? (i := 57) rfl)) rfl
theorem wa_boolean : Cond.arrayClass .boolean ∈ gw := gw_of (tb_1 (List.mem_of_getElem? (i := 58) rfl)) rfl
theorem wl_T_51 : Cond.methodLink RT 51 yJA_fill ∈ gw := gw_of (tb_1 (List.mem_of_getElem? (i := 59) rfl)) rfl
theorem ws_JA_fill : Cond.static yJA_fill ∈ gw := gw_of (tb_1 (List.mem_of_getElem? (i := 60) rfl)) rfl
theorem wc_JA_fill : Cond.code yJA_fill cJA_fill 4 none ∈ gw := gw_of (tb_1 (List.mem_of_getElem? (i := 61) rfl)) rfl
theorem wf_T_9 : Cond.fieldLink RT 9 "ExamDesk$Timetable" "paperMinutes" "[I" ∈ gw := gw_of (tb_1 (List.mem_of_getElem? (i := 62) rfl)) rfl
theorem wf_E_48 : Cond.fieldLink RE 48 "ExamDesk$Timetable" "paperMinutes" "[I" ∈ gw := gw_of (tb_1 (List.mem_of_getElem? (i := 63) rfl)) rfl
theorem wf_T_15 : Cond.fieldLink RT 15 "ExamDesk$Timetable" "sessionMinutes" "[I" ∈ gw := gw_of (tb_1 (List.mem_of_getElem? (i := 64) rfl)) rfl
theorem wf_E_55 : Cond.fieldLink RE 55 "ExamDesk$Timetable" "sessionMinutes" "[I" ∈ gw := gw_of (tb_1 (List.mem_of_getElem? (i := 65) rfl)) rfl
theorem wf_T_18 : Cond.fieldLink RT 18 "ExamDesk$Timetable" "enrolled" "[I" ∈ gw := gw_of (tb_1 (List.mem_of_getElem? (i := 66) rfl)) rfl
theorem wf_E_61 : Cond.fieldLink RE 61 "ExamDesk$Timetable" "enrolled" "[I" ∈ gw := gw_of (tb_1 (List.mem_of_getElem? (i := 67) rfl)) rfl
theorem wf_T_21 : Cond.fieldLink RT 21 "ExamDesk$Timetable" "hasExtra" "[Z" ∈ gw := gw_of (tb_1 (List.mem_of_getElem? (i := 68) rfl)) rfl
theorem wf_E_71 : Cond.fieldLink RE 71 "ExamDesk$Timetable" "hasExtra" "[Z" ∈ gw := gw_of (tb_1 (List.mem_of_getElem? (i := 69) rfl)) rfl
theorem wf_T_27 : Cond.fieldLink RT 27 "ExamDesk$Timetable" "rules" "[[I" ∈ gw := gw_of (tb_1 (List.mem_of_getElem? (i := 70) rfl)) rfl
theorem wf_P_60 : Cond.fieldLink RP 60 "ExamDesk$Timetable" "rules" "[[I" ∈ gw := gw_of (tb_1 (List.mem_of_getElem? (i := 71) rfl)) rfl
theorem wf_T_30 : Cond.fieldLink RT 30 "ExamDesk$Timetable" "fixedIn" "[I" ∈ gw := gw_of (tb_1 (List.mem_of_getElem? (i := 72) rfl)) rfl
theorem wf_E_86 : Cond.fieldLink RE 86 "ExamDesk$Timetable" "fixedIn" "[I" ∈ gw := gw_of (tb_1 (List.mem_of_getElem? (i := 73) rfl)) rfl
theorem wf_T_33 : Cond.fieldLink RT 33 "ExamDesk$Timetable" "plannedIn" "[I" ∈ gw := gw_of (tb_1 (List.mem_of_getElem? (i := 74) rfl)) rfl
theorem wf_E_97 : Cond.fieldLink RE 97 "ExamDesk$Timetable" "plannedIn" "[I" ∈ gw := gw_of (tb_1 (List.mem_of_getElem? (i := 75) rfl)) rfl
theorem wf_T_36 : Cond.fieldLink RT 36 "ExamDesk$Timetable" "hasPlan" "Z" ∈ gw := gw_of (tb_1 (List.mem_of_getElem? (i := 76) rfl)) rfl
theorem wf_E_132 : Cond.fieldLink RE 132 "ExamDesk$Timetable" "hasPlan" "Z" ∈ gw := gw_of (tb_1 (List.mem_of_getElem? (i := 77) rfl)) rfl
theorem wf_T_40 : Cond.fieldLink RT 40 "ExamDesk$Timetable" "sessionsUsed" "I" ∈ gw := gw_of (tb_1 (List.mem_of_getElem? (i := 78) rfl)) rfl
theorem wf_E_187 : Cond.fieldLink RE 187 "ExamDesk$Timetable" "sessionsUsed" "I" ∈ gw := gw_of (tb_1 (List.mem_of_getElem? (i := 79) rfl)) rfl
theorem wf_T_47 : Cond.fieldLink RT 47 "ExamDesk$Timetable" "planner" "LExamDesk$Planner;" ∈ gw := gw_of (tb_1 (List.mem_of_getElem? (i := 80) rfl)) rfl
theorem wq_E_16 : Cond.classLink RE 16 "ExamDesk$Rooms" ∈ gw := gw_of (tb_1 (List.mem_of_getElem? (i := 102) rfl)) rfl
theorem wb_R : Cond.instantiable RR 7 ∈ gw := gw_of (tb_1 (List.mem_of_getElem? (i := 103) rfl)) rfl
theorem wl_E_18 : Cond.methodLink RE 18 yR_init ∈ gw := gw_of (tb_1 (List.mem_of_getElem? (i := 104) rfl)) rfl
theorem wi_R_init : Cond.instanceMethod yR_init ∈ gw := gw_of (tb_1 (List.mem_of_getElem? (i := 105) rfl)) rfl
theorem wc_R_init : Cond.code yR_init cR_init 2 none ∈ gw := gw_of (tb_1 (List.mem_of_getElem? (i := 106) rfl)) rfl
theorem wl_R_3 : Cond.methodLink RR 3 yJO_init ∈ gw := gw_of (tb_1 (List.mem_of_getElem? (i := 107) rfl)) rfl
theorem wq_R_25 : Cond.classLink RR 25 "[[I" ∈ gw := gw_of (tb_1 (List.mem_of_getElem? (i := 108) rfl)) rfl
theorem wl_R_36 : Cond.methodLink RR 36 yJA_fill ∈ gw := gw_of (tb_1 (List.mem_of_getElem? (i := 109) rfl)) rfl
theorem wf_R_9 : Cond.fieldLink RR 9 "ExamDesk$Rooms" "rows" "[I" ∈ gw := gw_of (tb_1 (List.mem_of_getElem? (i := 110) rfl)) rfl
theorem wf_R_15 : Cond.fieldLink RR 15 "ExamDesk$Rooms" "columns" "[I" ∈ gw := gw_of (tb_1 (List.mem_of_getElem? (i := 111) rfl)) rfl
theorem wf_R_18 : Cond.fieldLink RR 18 "ExamDesk$Rooms" "forExtra" "[Z" ∈ gw := gw_of (tb_1 (List.mem_of_getElem? (i := 112) rfl)) rfl
theorem wf_R_22 : Cond.fieldLink RR 22 "ExamDesk$Rooms" "blocked" "[Z" ∈ gw := gw_of (tb_1 (List.mem_of_getElem? (i := 113) rfl)) rfl
theorem wf_E_129 : Cond.fieldLink RE 129 "ExamDesk$Rooms" "blocked" "[Z" ∈ gw := gw_of (tb_1 (List.mem_of_getElem? (i := 114) rfl)) rfl
theorem wf_R_27 : Cond.fieldLink RR 27 "ExamDesk$Rooms" "sitter" "[[I" ∈ gw := gw_of (tb_1 (List.mem_of_getElem? (i := 115) rfl)) rfl
theorem wf_E_157 : Cond.fieldLink RE 157 "ExamDesk$Rooms" "sitter" "[[I" ∈ gw := gw_of (tb_1 (List.mem_of_getElem? (i := 116) rfl)) rfl
theorem wf_R_30 : Cond.fieldLink RR 30 "ExamDesk$Rooms" "paperAt" "[[I" ∈ gw := gw_of (tb_1 (List.mem_of_getElem? (i := 117) rfl)) rfl
theorem wf_R_33 : Cond.fieldLink RR 33 "ExamDesk$Rooms" "placeOf" "[[I" ∈ gw := gw_of (tb_1 (List.mem_of_getElem? (i := 118) rfl)) rfl
theorem wf_E_145 : Cond.fieldLink RE 145 "ExamDesk$Rooms" "placeOf" "[[I" ∈ gw := gw_of (tb_1 (List.mem_of_getElem? (i := 119) rfl)) rfl
theorem wq_E_23 : Cond.classLink RE 23 "ExamDesk$Rota" ∈ gw := gw_of (tb_1 (List.mem_of_getElem? (i := 135) rfl)) rfl
theorem wb_O : Cond.instantiable RO 5 ∈ gw := gw_of (tb_1 (List.mem_of_getElem? (i := 136) rfl)) rfl
theorem wi_O_init : Cond.instanceMethod yO_init ∈ gw := gw_of (tb_1 (List.mem_of_getElem? (i := 138) rfl)) rfl
theorem wc_O_init : Cond.code yO_init cO_init 1 none ∈ gw := gw_of (tb_1 (List.mem_of_getElem? (i := 139) rfl)) rfl
theorem wl_O_3 : Cond.methodLink RO 3 yJO_init ∈ gw := gw_of (tb_1 (List.mem_of_getElem? (i := 140) rfl)) rfl
theorem wq_O_18 : Cond.classLink RO 18 "[[I" ∈ gw := gw_of (tb_1 (List.mem_of_getElem? (i := 141) rfl)) rfl
theorem wf_O_9 : Cond.fieldLink RO 9 "ExamDesk$Rota" "mostSessions" "[I" ∈ gw := gw_of (tb_1 (List.mem_of_getElem? (i := 142) rfl)) rfl
theorem wf_E_163 : Cond.fieldLink RE 163 "ExamDesk$Rota" "mostSessions" "[I" ∈ gw := gw_of (tb_1 (List.mem_of_getElem? (i := 143) rfl)) rfl
theorem wf_O_15 : Cond.fieldLink RO 15 "ExamDesk$Rota" "ownPapers" "[I" ∈ gw := gw_of (tb_1 (List.mem_of_getElem? (i := 144) rfl)) rfl
theorem wf_E_166 : Cond.fieldLink RE 166 "ExamDesk$Rota" "ownPapers" "[I" ∈ gw := gw_of (tb_1 (List.mem_of_getElem? (i := 145) rfl)) rfl
theorem wf_O_20 : Cond.fieldLink RO 20 "ExamDesk$Rota" "watching" "[[I" ∈ gw := gw_of (tb_1 (List.mem_of_getElem? (i := 146) rfl)) rfl
theorem wf_O_23 : Cond.fieldLink RO 23 "ExamDesk$Rota" "missing" "[I" ∈ gw := gw_of (tb_1 (List.mem_of_getElem? (i := 147) rfl)) rfl
theorem wf_O_26 : Cond.fieldLink RO 26 "ExamDesk$Rota" "suited" "[I" ∈ gw := gw_of (tb_1 (List.mem_of_getElem? (i := 148) rfl)) rfl
theorem wf_E_12 : Cond.fieldLink RE 12 "ExamDesk" "timetable" "LExamDesk$Timetable;" ∈ gw := gw_of (tb_1 (List.mem_of_getElem? (i := 160) rfl)) rfl
theorem wf_E_19 : Cond.fieldLink RE 19 "ExamDesk" "rooms" "LExamDesk$Rooms;" ∈ gw := gw_of (tb_1 (List.mem_of_getElem? (i := 161) rfl)) rfl
theorem wf_E_26 : Cond.fieldLink RE 26 "ExamDesk" "rota" "LExamDesk$Rota;" ∈ gw := gw_of (tb_1 (List.mem_of_getElem? (i := 162) rfl)) rfl
theorem wl_L_116 : Cond.methodLink RL 116 yE_plan ∈ gw := gw_of (tb_1 (List.mem_of_getElem? (i := 170) rfl)) rfl
theorem wi_E_plan : Cond.instanceMethod yE_plan ∈ gw := gw_of (tb_1 (List.mem_of_getElem? (i := 171) rfl)) rfl
theorem we_E_plan : Cond.selects RE yE_plan yE_plan ∈ gw := gw_of (tb_1 (List.mem_of_getElem? (i := 172) rfl)) rfl
theorem wc_E_plan : Cond.code yE_plan cE_plan 1 (some .int) ∈ gw := gw_of (tb_1 (List.mem_of_getElem? (i := 173) rfl)) rfl
theorem wl_E_45 : Cond.methodLink RE 45 yE_dropPlan ∈ gw := gw_of (tb_1 (List.mem_of_getElem? (i := 174) rfl)) rfl
theorem wi_E_dropPlan : Cond.instanceMethod yE_dropPlan ∈ gw := gw_of (tb_1 (List.mem_of_getElem? (i := 176) rfl)) rfl
theorem wc_E_dropPlan : Cond.code yE_dropPlan cE_dropPlan 1 none ∈ gw := gw_of (tb_1 (List.mem_of_getElem? (i := 177) rfl)) rfl
theorem wl_E_202 : Cond.methodLink RE 202 yT_forgetPlan ∈ gw := gw_of (tb_1 (List.mem_of_getElem? (i := 178) rfl)) rfl
theorem wi_T_forgetPlan : Cond.instanceMethod yT_forgetPlan ∈ gw := gw_of (tb_1 (List.mem_of_getElem? (i := 179) rfl)) rfl
theorem we_T_forgetPlan : Cond.selects RT yT_forgetPlan yT_forgetPlan ∈ gw := gw_of (tb_1 (List.mem_of_getElem? (i := 180) rfl)) rfl
theorem wc_T_forgetPlan : Cond.code yT_forgetPlan cT_forgetPlan 1 none ∈ gw := gw_of (tb_1 (List.mem_of_getElem? (i := 181) rfl)) rfl
theorem wl_E_205 : Cond.methodLink RE 205 yR_clear ∈ gw := gw_of (tb_1 (List.mem_of_getElem? (i := 182) rfl)) rfl
theorem wi_R_clear : Cond.instanceMethod yR_clear ∈ gw := gw_of (tb_1 (List.mem_of_getElem? (i := 183) rfl)) rfl
theorem we_R_clear : Cond.selects RR yR_clear yR_clear ∈ gw := gw_of (tb_1 (List.mem_of_getElem? (i := 184) rfl)) rfl
theorem wc_R_clear : Cond.code yR_clear cR_clear 3 none ∈ gw := gw_of (tb_1 (List.mem_of_getElem? (i := 185) rfl)) rfl
theorem wl_R_42 : Cond.methodLink RR 42 yR_vacate ∈ gw := gw_of (tb_1 (List.mem_of_getElem? (i := 186) rfl)) rfl
theorem wi_R_vacate : Cond.instanceMethod yR_vacate ∈ gw := gw_of (tb_1 (List.mem_of_getElem? (i := 187) rfl)) rfl
theorem we_R_vacate : Cond.selects RR yR_vacate yR_vacate ∈ gw := gw_of (tb_1 (List.mem_of_getElem? (i := 188) rfl)) rfl
theorem wc_R_vacate : Cond.code yR_vacate cR_vacate 3 none ∈ gw := gw_of (tb_1 (List.mem_of_getElem? (i := 189) rfl)) rfl
theorem wl_E_109 : Cond.methodLink RE 109 yO_clear ∈ gw := gw_of (tb_1 (List.mem_of_getElem? (i := 190) rfl)) rfl
theorem wi_O_clear : Cond.instanceMethod yO_clear ∈ gw := gw_of (tb_1 (List.mem_of_getElem? (i := 191) rfl)) rfl
theorem we_O_clear : Cond.selects RO yO_clear yO_clear ∈ gw := gw_of (tb_1 (List.mem_of_getElem? (i := 192) rfl)) rfl
theorem wc_O_clear : Cond.code yO_clear cO_clear 2 none ∈ gw := gw_of (tb_1 (List.mem_of_getElem? (i := 193) rfl)) rfl
theorem wl_O_29 : Cond.methodLink RO 29 yJA_fill ∈ gw := gw_of (tb_1 (List.mem_of_getElem? (i := 194) rfl)) rfl
theorem wl_E_93 : Cond.methodLink RE 93 yT_makePlan ∈ gw := gw_of (tb_1 (List.mem_of_getElem? (i := 195) rfl)) rfl
theorem wi_T_makePlan : Cond.instanceMethod yT_makePlan ∈ gw := gw_of (tb_1 (List.mem_of_getElem? (i := 196) rfl)) rfl
theorem we_T_makePlan : Cond.selects RT yT_makePlan yT_makePlan ∈ gw := gw_of (tb_1 (List.mem_of_getElem? (i := 197) rfl)) rfl
theorem wc_T_makePlan : Cond.code yT_makePlan cT_makePlan 2 (some .int) ∈ gw := gw_of (tb_1 (List.mem_of_getElem? (i := 198) rfl)) rfl
theorem wl_T_75 : Cond.methodLink RT 75 yP_leastCost ∈ gw := gw_of (tb_1 (List.mem_of_getElem? (i := 199) rfl)) rfl
theorem wi_P_leastCost : Cond.instanceMethod yP_leastCost ∈ gw := gw_of (tb_1 (List.mem_of_getElem? (i := 200) rfl)) rfl
theorem we_P_leastCost : Cond.selects RP yP_leastCost yP_leastCost ∈ gw := gw_of (tb_1 (List.mem_of_getElem? (i := 201) rfl)) rfl
theorem wc_P_leastCost : Cond.code yP_leastCost cP_leastCost 3 (some .int) ∈ gw := gw_of (tb_1 (List.mem_of_getElem? (i := 202) rfl)) rfl
theorem wl_P_32 : Cond.methodLink RP 32 yT_heldPapers ∈ gw := gw_of (tb_1 (List.mem_of_getElem? (i := 203) rfl)) rfl
theorem wi_T_heldPapers : Cond.instanceMethod yT_heldPapers ∈ gw := gw_of (tb_1 (List.mem_of_getElem? (i := 204) rfl)) rfl
theorem we_T_heldPapers : Cond.selects RT yT_heldPapers yT_heldPapers ∈ gw := gw_of (tb_1 (List.mem_of_getElem? (i := 205) rfl)) rfl
theorem wc_T_heldPapers : Cond.code yT_heldPapers cT_heldPapers 3 (some .int) ∈ gw := gw_of (tb_1 (List.mem_of_getElem? (i := 206) rfl)) rfl
theorem ws_E_with : Cond.static yE_with ∈ gw := gw_of (tb_1 (List.mem_of_getElem? (i := 208) rfl)) rfl
theorem wc_E_with : Cond.code yE_with cE_with 3 (some .int) ∈ gw := gw_of (tb_1 (List.mem_of_getElem? (i := 209) rfl)) rfl
theorem wl_P_38 : Cond.methodLink RP 38 yP_gatherRules ∈ gw := gw_of (tb_1 (List.mem_of_getElem? (i := 210) rfl)) rfl
theorem wi_P_gatherRules : Cond.instanceMethod yP_gatherRules ∈ gw := gw_of (tb_1 (List.mem_of_getElem? (i := 212) rfl)) rfl
theorem wc_P_gatherRules : Cond.code yP_gatherRules cP_gatherRules 6 none ∈ gw := gw_of (tb_1 (List.mem_of_getElem? (i := 213) rfl)) rfl
theorem wl_P_57 : Cond.methodLink RP 57 yT_foesOf ∈ gw := gw_of (tb_1 (List.mem_of_getElem? (i := 214) rfl)) rfl
theorem wi_T_foesOf : Cond.instanceMethod yT_foesOf ∈ gw := gw_of (tb_1 (List.mem_of_getElem? (i := 215) rfl)) rfl
theorem we_T_foesOf : Cond.selects RT yT_foesOf yT_foesOf ∈ gw := gw_of (tb_1 (List.mem_of_getElem? (i := 216) rfl)) rfl
theorem wc_T_foesOf : Cond.code yT_foesOf cT_foesOf 4 (some .int) ∈ gw := gw_of (tb_1 (List.mem_of_getElem? (i := 217) rfl)) rfl
theorem ws_E_has : Cond.static yE_has ∈ gw := gw_of (tb_1 (List.mem_of_getElem? (i := 219) rfl)) rfl
theorem wc_E_has : Cond.code yE_has cE_has 2 (some .boolean) ∈ gw := gw_of (tb_1 (List.mem_of_getElem? (i := 220) rfl)) rfl
theorem wk_P_42 : Cond.constant RP 42 1073741824 ∈ gw := gw_of (tb_1 (List.mem_of_getElem? (i := 221) rfl)) rfl
theorem wl_P_43 : Cond.methodLink RP 43 yJA_fill ∈ gw := gw_of (tb_1 (List.mem_of_getElem? (i := 222) rfl)) rfl
theorem wl_P_49 : Cond.methodLink RP 49 yT_papersFitting ∈ gw := gw_of (tb_1 (List.mem_of_getElem? (i := 223) rfl)) rfl
theorem wi_T_papersFitting : Cond.instanceMethod yT_papersFitting ∈ gw := gw_of (tb_1 (List.mem_of_getElem? (i := 224) rfl)) rfl
theorem we_T_papersFitting : Cond.selects RT yT_papersFitting yT_papersFitting ∈ gw := gw_of (tb_1 (List.mem_of_getElem? (i := 225) rfl)) rfl
theorem wc_T_papersFitting : Cond.code yT_papersFitting cT_papersFitting 5 (some .int) ∈ gw := gw_of (tb_1 (List.mem_of_getElem? (i := 226) rfl)) rfl
theorem wl_T_71 : Cond.methodLink RT 71 yT_heldPapers ∈ gw := gw_of (tb_1 (List.mem_of_getElem? (i := 227) rfl)) rfl
theorem wl_P_53 : Cond.methodLink RP 53 yP_useSession ∈ gw := gw_of (tb_1 (List.mem_of_getElem? (i := 228) rfl)) rfl
theorem wi_P_useSession : Cond.instanceMethod yP_useSession ∈ gw := gw_of (tb_1 (List.mem_of_getElem? (i := 230) rfl)) rfl
theorem wc_P_useSession : Cond.code yP_useSession cP_useSession 4 none ∈ gw := gw_of (tb_1 (List.mem_of_getElem? (i := 231) rfl)) rfl
theorem wl_P_64 : Cond.methodLink RP 64 yP_papersReady ∈ gw := gw_of (tb_1 (List.mem_of_getElem? (i := 232) rfl)) rfl
theorem wi_P_papersReady : Cond.instanceMethod yP_papersReady ∈ gw := gw_of (tb_1 (List.mem_of_getElem? (i := 234) rfl)) rfl
theorem wc_P_papersReady : Cond.code yP_papersReady cP_papersReady 4 (some .int) ∈ gw := gw_of (tb_1 (List.mem_of_getElem? (i := 235) rfl)) rfl
theorem wl_P_67 : Cond.methodLink RP 67 yP_addMeetings ∈ gw := gw_of (tb_1 (List.mem_of_getElem? (i := 237) rfl)) rfl
theorem wi_P_addMeetings : Cond.instanceMethod yP_addMeetings ∈ gw := gw_of (tb_1 (List.mem_of_getElem? (i := 239) rfl)) rfl
theorem wc_P_addMeetings : Cond.code yP_addMeetings cP_addMeetings 7 none ∈ gw := gw_of (tb_2 (List.mem_of_getElem? (i := 0) rfl)) rfl
theorem wl_P_75 : Cond.methodLink RP 75 yJI_bitCount ∈ gw := gw_of (tb_2 (List.mem_of_getElem? (i := 1) rfl)) rfl
theorem ws_JI_bitCount : Cond.static yJI_bitCount ∈ gw := gw_of (tb_2 (List.mem_of_getElem? (i := 2) rfl)) rfl
theorem wc_JI_bitCount : Cond.code yJI_bitCount cJI_bitCount 1 (some .int) ∈ gw := gw_of (tb_2 (List.mem_of_getElem? (i := 3) rfl)) rfl
theorem wk_JI_265 : Cond.constant RJI 265 1431655765 ∈ gw := gw_of (tb_2 (List.mem_of_getElem? (i := 4) rfl)) rfl
theorem wk_JI_266 : Cond.constant RJI 266 858993459 ∈ gw := gw_of (tb_2 (List.mem_of_getElem? (i := 5) rfl)) rfl
theorem wk_JI_267 : Cond.constant RJI 267 252645135 ∈ gw := gw_of (tb_2 (List.mem_of_getElem? (i := 6) rfl)) rfl
theorem wl_P_80 : Cond.methodLink RP 80 yP_mayMeet ∈ gw := gw_of (tb_2 (List.mem_of_getElem? (i := 7) rfl)) rfl
theorem wi_P_mayMeet : Cond.instanceMethod yP_mayMeet ∈ gw := gw_of (tb_2 (List.mem_of_getElem? (i := 9) rfl)) rfl
theorem wc_P_mayMeet : Cond.code yP_mayMeet cP_mayMeet 2 (some .boolean) ∈ gw := gw_of (tb_2 (List.mem_of_getElem? (i := 10) rfl)) rfl
theorem wk_T_79 : Cond.constant RT 79 1073741824 ∈ gw := gw_of (tb_2 (List.mem_of_getElem? (i := 11) rfl)) rfl
theorem wk_T_80 : Cond.constant RT 80 10077696 ∈ gw := gw_of (tb_2 (List.mem_of_getElem? (i := 12) rfl)) rfl
theorem wl_T_81 : Cond.methodLink RT 81 yT_readPlan ∈ gw := gw_of (tb_2 (List.mem_of_getElem? (i := 13) rfl)) rfl
theorem wi_T_readPlan : Cond.instanceMethod yT_readPlan ∈ gw := gw_of (tb_2 (List.mem_of_getElem? (i := 15) rfl)) rfl
theorem wc_T_readPlan : Cond.code yT_readPlan cT_readPlan 5 none ∈ gw := gw_of (tb_2 (List.mem_of_getElem? (i := 16) rfl)) rfl
theorem wl_L_124 : Cond.methodLink RL 124 yE_strain ∈ gw := gw_of (tb_2 (List.mem_of_getElem? (i := 17) rfl)) rfl
theorem wi_E_strain : Cond.instanceMethod yE_strain ∈ gw := gw_of (tb_2 (List.mem_of_getElem? (i := 18) rfl)) rfl
theorem we_E_strain : Cond.selects RE yE_strain yE_strain ∈ gw := gw_of (tb_2 (List.mem_of_getElem? (i := 19) rfl)) rfl
theorem wc_E_strain : Cond.code yE_strain cE_strain 1 (some .int) ∈ gw := gw_of (tb_2 (List.mem_of_getElem? (i := 20) rfl)) rfl
theorem wl_E_100 : Cond.methodLink RE 100 yT_sessionsInARow ∈ gw := gw_of (tb_2 (List.mem_of_getElem? (i := 21) rfl)) rfl
theorem wi_T_sessionsInARow : Cond.instanceMethod yT_sessionsInARow ∈ gw := gw_of (tb_2 (List.mem_of_getElem? (i := 22) rfl)) rfl
theorem we_T_sessionsInARow : Cond.selects RT yT_sessionsInARow yT_sessionsInARow ∈ gw := gw_of (tb_2 (List.mem_of_getElem? (i := 23) rfl)) rfl
theorem wc_T_sessionsInARow : Cond.code yT_sessionsInARow cT_sessionsInARow 4 (some .int) ∈ gw := gw_of (tb_2 (List.mem_of_getElem? (i := 24) rfl)) rfl
theorem wl_T_85 : Cond.methodLink RT 85 yT_sessionsOf ∈ gw := gw_of (tb_2 (List.mem_of_getElem? (i := 25) rfl)) rfl
theorem wi_T_sessionsOf : Cond.instanceMethod yT_sessionsOf ∈ gw := gw_of (tb_2 (List.mem_of_getElem? (i := 27) rfl)) rfl
theorem wc_T_sessionsOf : Cond.code yT_sessionsOf cT_sessionsOf 4 (some .int) ∈ gw := gw_of (tb_2 (List.mem_of_getElem? (i := 28) rfl)) rfl
theorem wl_T_65 : Cond.methodLink RT 65 yJI_bitCount ∈ gw := gw_of (tb_2 (List.mem_of_getElem? (i := 29) rfl)) rfl
theorem wl_L_85 : Cond.methodLink RL 85 yL_paper ∈ gw := gw_of (tb_2 (List.mem_of_getElem? (i := 30) rfl)) rfl
theorem ws_L_paper : Cond.static yL_paper ∈ gw := gw_of (tb_2 (List.mem_of_getElem? (i := 31) rfl)) rfl
theorem wc_L_paper : Cond.codeWith yL_paper cL_paper 5 (some .int) [((0), (10), (13), (13)), ((0), (10), (17), (15))] ∈ gw := gw_of (tb_2 (List.mem_of_getElem? (i := 32) rfl)) rfl
theorem wq_L_13 : Cond.classLink RL 13 "java/util/NoSuchElementException" ∈ gw := gw_of (tb_2 (List.mem_of_getElem? (i := 33) rfl)) rfl
theorem wq_L_15 : Cond.classLink RL 15 "java/lang/IllegalArgumentException" ∈ gw := gw_of (tb_2 (List.mem_of_getElem? (i := 34) rfl)) rfl
theorem wl_L_7 : Cond.methodLink RL 7 yE_paper ∈ gw := gw_of (tb_2 (List.mem_of_getElem? (i := 35) rfl)) rfl
theorem wi_E_paper : Cond.instanceMethod yE_paper ∈ gw := gw_of (tb_2 (List.mem_of_getElem? (i := 36) rfl)) rfl
theorem we_E_paper : Cond.selects RE yE_paper yE_paper ∈ gw := gw_of (tb_2 (List.mem_of_getElem? (i := 37) rfl)) rfl
theorem wc_E_paper : Cond.code yE_paper cE_paper 4 (some .int) ∈ gw := gw_of (tb_2 (List.mem_of_getElem? (i := 38) rfl)) rfl
theorem wl_E_30 : Cond.methodLink RE 30 yE_isPaper ∈ gw := gw_of (tb_2 (List.mem_of_getElem? (i := 39) rfl)) rfl
theorem ws_E_isPaper : Cond.static yE_isPaper ∈ gw := gw_of (tb_2 (List.mem_of_getElem? (i := 40) rfl)) rfl
theorem wc_E_isPaper : Cond.code yE_isPaper cE_isPaper 1 (some .boolean) ∈ gw := gw_of (tb_2 (List.mem_of_getElem? (i := 41) rfl)) rfl
theorem wl_E_75 : Cond.methodLink RE 75 yE_isBelow ∈ gw := gw_of (tb_2 (List.mem_of_getElem? (i := 42) rfl)) rfl
theorem ws_E_isBelow : Cond.static yE_isBelow ∈ gw := gw_of (tb_2 (List.mem_of_getElem? (i := 43) rfl)) rfl
theorem wc_E_isBelow : Cond.code yE_isBelow cE_isBelow 2 (some .boolean) ∈ gw := gw_of (tb_2 (List.mem_of_getElem? (i := 44) rfl)) rfl
theorem wl_E_34 : Cond.methodLink RE 34 yE_mustExist ∈ gw := gw_of (tb_2 (List.mem_of_getElem? (i := 45) rfl)) rfl
theorem ws_E_mustExist : Cond.static yE_mustExist ∈ gw := gw_of (tb_2 (List.mem_of_getElem? (i := 46) rfl)) rfl
theorem wc_E_mustExist : Cond.code yE_mustExist cE_mustExist 1 none ∈ gw := gw_of (tb_2 (List.mem_of_getElem? (i := 47) rfl)) rfl
theorem wq_E_206 : Cond.classLink RE 206 "java/util/NoSuchElementException" ∈ gw := gw_of (tb_2 (List.mem_of_getElem? (i := 48) rfl)) rfl
theorem wb_JN : Cond.instantiable RJN 6 ∈ gw := gw_of (tb_2 (List.mem_of_getElem? (i := 49) rfl)) rfl
theorem wf_JT_198 : Cond.fieldLink RJT 198 "java/lang/Throwable" "backtrace" "Ljava/lang/Object;" ∈ gw := gw_of (tb_2 (List.mem_of_getElem? (i := 69) rfl)) rfl
theorem wi_JT_init0 : Cond.instanceMethod yJT_init0 ∈ gw := gw_of (tb_2 (List.mem_of_getElem? (i := 71) rfl)) rfl
theorem wc_JT_init0 : Cond.code yJT_init0 cJT_init0 1 none ∈ gw := gw_of (tb_2 (List.mem_of_getElem? (i := 72) rfl)) rfl
theorem wl_JT_1 : Cond.methodLink RJT 1 yJO_init ∈ gw := gw_of (tb_2 (List.mem_of_getElem? (i := 73) rfl)) rfl
theorem wf_JT_13 : Cond.fieldLink RJT 13 "java/lang/Throwable" "UNASSIGNED_STACK" "[Ljava/lang/StackTraceElement;" ∈ gw := gw_of (tb_2 (List.mem_of_getElem? (i := 74) rfl)) rfl
theorem wf_JT_20 : Cond.fieldLink RJT 20 "java/lang/Throwable" "SUPPRESSED_SENTINEL" "Ljava/util/List;" ∈ gw := gw_of (tb_2 (List.mem_of_getElem? (i := 76) rfl)) rfl
theorem wl_JT_27 : Cond.methodLink RJT 27 yJT_fillInStackTrace ∈ gw := gw_of (tb_2 (List.mem_of_getElem? (i := 78) rfl)) rfl
theorem wi_JT_fillInStackTrace : Cond.instanceMethod yJT_fillInStackTrace ∈ gw := gw_of (tb_2 (List.mem_of_getElem? (i := 79) rfl)) rfl
theorem wl_JT_202 : Cond.methodLink RJT 202 ⟨"java/lang/Throwable", "fillInStackTrace", "(I)Ljava/lang/Throwable;"⟩ ∈ gw := gw_of (tb_2 (List.mem_of_getElem? (i := 84) rfl)) rfl
theorem wb_JT : Cond.instantiable RJT 6 ∈ gw := gw_of (tb_2 (List.mem_of_getElem? (i := 87) rfl)) rfl
theorem wl_E_210 : Cond.methodLink RE 210 yJN_init ∈ gw := gw_of (tb_2 (List.mem_of_getElem? (i := 90) rfl)) rfl
theorem wi_JN_init : Cond.instanceMethod yJN_init ∈ gw := gw_of (tb_2 (List.mem_of_getElem? (i := 91) rfl)) rfl
theorem wc_JN_init : Cond.code yJN_init cJN_init 2 none ∈ gw := gw_of (tb_2 (List.mem_of_getElem? (i := 92) rfl)) rfl
theorem wl_JN_13 : Cond.methodLink RJN 13 yJR_init ∈ gw := gw_of (tb_2 (List.mem_of_getElem? (i := 93) rfl)) rfl
theorem wi_JR_init : Cond.instanceMethod yJR_init ∈ gw := gw_of (tb_2 (List.mem_of_getElem? (i := 94) rfl)) rfl
theorem wc_JR_init : Cond.code yJR_init cJR_init 2 none ∈ gw := gw_of (tb_2 (List.mem_of_getElem? (i := 95) rfl)) rfl
theorem wl_JR_7 : Cond.methodLink RJR 7 yJX_init ∈ gw := gw_of (tb_2 (List.mem_of_getElem? (i := 96) rfl)) rfl
theorem wi_JX_init : Cond.instanceMethod yJX_init ∈ gw := gw_of (tb_2 (List.mem_of_getElem? (i := 97) rfl)) rfl
theorem wc_JX_init : Cond.code yJX_init cJX_init 2 none ∈ gw := gw_of (tb_2 (List.mem_of_getElem? (i := 98) rfl)) rfl
theorem wl_JX_7 : Cond.methodLink RJX 7 yJT_initS ∈ gw := gw_of (tb_2 (List.mem_of_getElem? (i := 99) rfl)) rfl
theorem wi_JT_initS : Cond.instanceMethod yJT_initS ∈ gw := gw_of (tb_2 (List.mem_of_getElem? (i := 100) rfl)) rfl
theorem wc_JT_initS : Cond.code yJT_initS cJT_initS 2 none ∈ gw := gw_of (tb_2 (List.mem_of_getElem? (i := 101) rfl)) rfl
theorem wf_JT_31 : Cond.fieldLink RJT 31 "java/lang/Throwable" "detailMessage" "Ljava/lang/String;" ∈ gw := gw_of (tb_2 (List.mem_of_getElem? (i := 103) rfl)) rfl
theorem wf_JT_7 : Cond.fieldLink RJT 7 "java/lang/Throwable" "cause" "Ljava/lang/Throwable;" ∈ gw := gw_of (tb_2 (List.mem_of_getElem? (i := 104) rfl)) rfl
theorem wf_JT_17 : Cond.fieldLink RJT 17 "java/lang/Throwable" "stackTrace" "[Ljava/lang/StackTraceElement;" ∈ gw := gw_of (tb_2 (List.mem_of_getElem? (i := 105) rfl)) rfl
theorem wf_JT_24 : Cond.fieldLink RJT 24 "java/lang/Throwable" "suppressedExceptions" "Ljava/util/List;" ∈ gw := gw_of (tb_2 (List.mem_of_getElem? (i := 106) rfl)) rfl
theorem wa_byte : Cond.arrayClass .byte ∈ gw := gw_of (tb_2 (List.mem_of_getElem? (i := 115) rfl)) rfl
theorem wl_E_38 : Cond.methodLink RE 38 yE_isUpTo ∈ gw := gw_of (tb_2 (List.mem_of_getElem? (i := 116) rfl)) rfl
theorem ws_E_isUpTo : Cond.static yE_isUpTo ∈ gw := gw_of (tb_2 (List.mem_of_getElem? (i := 117) rfl)) rfl
theorem wc_E_isUpTo : Cond.code yE_isUpTo cE_isUpTo 2 (some .boolean) ∈ gw := gw_of (tb_2 (List.mem_of_getElem? (i := 118) rfl)) rfl
theorem wl_E_42 : Cond.methodLink RE 42 yE_mustBeAllowed ∈ gw := gw_of (tb_2 (List.mem_of_getElem? (i := 119) rfl)) rfl
theorem ws_E_mustBeAllowed : Cond.static yE_mustBeAllowed ∈ gw := gw_of (tb_2 (List.mem_of_getElem? (i := 120) rfl)) rfl
theorem wc_E_mustBeAllowed : Cond.code yE_mustBeAllowed cE_mustBeAllowed 1 none ∈ gw := gw_of (tb_2 (List.mem_of_getElem? (i := 121) rfl)) rfl
theorem wq_E_197 : Cond.classLink RE 197 "java/lang/IllegalArgumentException" ∈ gw := gw_of (tb_2 (List.mem_of_getElem? (i := 122) rfl)) rfl
theorem wb_JG : Cond.instantiable RJG 6 ∈ gw := gw_of (tb_2 (List.mem_of_getElem? (i := 123) rfl)) rfl
theorem wl_E_201 : Cond.methodLink RE 201 yJG_init ∈ gw := gw_of (tb_2 (List.mem_of_getElem? (i := 132) rfl)) rfl
theorem wi_JG_init : Cond.instanceMethod yJG_init ∈ gw := gw_of (tb_2 (List.mem_of_getElem? (i := 133) rfl)) rfl
theorem wc_JG_init : Cond.code yJG_init cJG_init 2 none ∈ gw := gw_of (tb_2 (List.mem_of_getElem? (i := 134) rfl)) rfl
theorem wl_JG_7 : Cond.methodLink RJG 7 yJR_init ∈ gw := gw_of (tb_2 (List.mem_of_getElem? (i := 135) rfl)) rfl
theorem wl_L_95 : Cond.methodLink RL 95 yL_session ∈ gw := gw_of (tb_2 (List.mem_of_getElem? (i := 138) rfl)) rfl
theorem ws_L_session : Cond.static yL_session ∈ gw := gw_of (tb_2 (List.mem_of_getElem? (i := 139) rfl)) rfl
theorem wc_L_session : Cond.codeWith yL_session cL_session 5 (some .int) [((0), (10), (13), (13)), ((0), (10), (17), (15))] ∈ gw := gw_of (tb_2 (List.mem_of_getElem? (i := 140) rfl)) rfl
theorem wl_L_17 : Cond.methodLink RL 17 yE_session ∈ gw := gw_of (tb_2 (List.mem_of_getElem? (i := 141) rfl)) rfl
theorem wi_E_session : Cond.instanceMethod yE_session ∈ gw := gw_of (tb_2 (List.mem_of_getElem? (i := 142) rfl)) rfl
theorem we_E_session : Cond.selects RE yE_session yE_session ∈ gw := gw_of (tb_2 (List.mem_of_getElem? (i := 143) rfl)) rfl
theorem wc_E_session : Cond.code yE_session cE_session 4 (some .int) ∈ gw := gw_of (tb_2 (List.mem_of_getElem? (i := 144) rfl)) rfl
theorem wl_E_52 : Cond.methodLink RE 52 yE_isSession ∈ gw := gw_of (tb_2 (List.mem_of_getElem? (i := 145) rfl)) rfl
theorem ws_E_isSession : Cond.static yE_isSession ∈ gw := gw_of (tb_2 (List.mem_of_getElem? (i := 146) rfl)) rfl
theorem wc_E_isSession : Cond.code yE_isSession cE_isSession 1 (some .boolean) ∈ gw := gw_of (tb_2 (List.mem_of_getElem? (i := 147) rfl)) rfl
theorem wl_L_98 : Cond.methodLink RL 98 yL_enrol ∈ gw := gw_of (tb_2 (List.mem_of_getElem? (i := 148) rfl)) rfl
theorem ws_L_enrol : Cond.static yL_enrol ∈ gw := gw_of (tb_2 (List.mem_of_getElem? (i := 149) rfl)) rfl
theorem wc_L_enrol : Cond.codeWith yL_enrol cL_enrol 6 (some .int) [((0), (19), (22), (13))] ∈ gw := gw_of (tb_2 (List.mem_of_getElem? (i := 150) rfl)) rfl
theorem wl_L_20 : Cond.methodLink RL 20 yE_enrol ∈ gw := gw_of (tb_2 (List.mem_of_getElem? (i := 151) rfl)) rfl
theorem wi_E_enrol : Cond.instanceMethod yE_enrol ∈ gw := gw_of (tb_2 (List.mem_of_getElem? (i := 152) rfl)) rfl
theorem we_E_enrol : Cond.selects RE yE_enrol yE_enrol ∈ gw := gw_of (tb_2 (List.mem_of_getElem? (i := 153) rfl)) rfl
theorem wc_E_enrol : Cond.code yE_enrol cE_enrol 5 (some .boolean) ∈ gw := gw_of (tb_2 (List.mem_of_getElem? (i := 154) rfl)) rfl
theorem wl_E_58 : Cond.methodLink RE 58 yE_isCandidate ∈ gw := gw_of (tb_2 (List.mem_of_getElem? (i := 155) rfl)) rfl
theorem ws_E_isCandidate : Cond.static yE_isCandidate ∈ gw := gw_of (tb_2 (List.mem_of_getElem? (i := 156) rfl)) rfl
theorem wc_E_isCandidate : Cond.code yE_isCandidate cE_isCandidate 1 (some .boolean) ∈ gw := gw_of (tb_2 (List.mem_of_getElem? (i := 157) rfl)) rfl
theorem wl_E_64 : Cond.methodLink RE 64 yE_has ∈ gw := gw_of (tb_2 (List.mem_of_getElem? (i := 158) rfl)) rfl
theorem wl_E_67 : Cond.methodLink RE 67 yE_with ∈ gw := gw_of (tb_2 (List.mem_of_getElem? (i := 159) rfl)) rfl
theorem wl_L_102 : Cond.methodLink RL 102 yL_extra ∈ gw := gw_of (tb_2 (List.mem_of_getElem? (i := 160) rfl)) rfl
theorem ws_L_extra : Cond.static yL_extra ∈ gw := gw_of (tb_2 (List.mem_of_getElem? (i := 161) rfl)) rfl
theorem wc_L_extra : Cond.codeWith yL_extra cL_extra 5 (some .int) [((0), (17), (20), (13))] ∈ gw := gw_of (tb_2 (List.mem_of_getElem? (i := 162) rfl)) rfl
theorem wl_L_24 : Cond.methodLink RL 24 yE_extra ∈ gw := gw_of (tb_2 (List.mem_of_getElem? (i := 163) rfl)) rfl
theorem wi_E_extra : Cond.instanceMethod yE_extra ∈ gw := gw_of (tb_2 (List.mem_of_getElem? (i := 164) rfl)) rfl
theorem we_E_extra : Cond.selects RE yE_extra yE_extra ∈ gw := gw_of (tb_2 (List.mem_of_getElem? (i := 165) rfl)) rfl
theorem wc_E_extra : Cond.code yE_extra cE_extra 4 (some .boolean) ∈ gw := gw_of (tb_2 (List.mem_of_getElem? (i := 166) rfl)) rfl
theorem wl_L_106 : Cond.methodLink RL 106 yL_rule ∈ gw := gw_of (tb_2 (List.mem_of_getElem? (i := 167) rfl)) rfl
theorem ws_L_rule : Cond.static yL_rule ∈ gw := gw_of (tb_2 (List.mem_of_getElem? (i := 168) rfl)) rfl
theorem wc_L_rule : Cond.codeWith yL_rule cL_rule 7 (some .int) [((0), (21), (24), (13)), ((0), (21), (28), (15))] ∈ gw := gw_of (tb_2 (List.mem_of_getElem? (i := 169) rfl)) rfl
theorem wl_L_28 : Cond.methodLink RL 28 yE_rule ∈ gw := gw_of (tb_2 (List.mem_of_getElem? (i := 170) rfl)) rfl
theorem wi_E_rule : Cond.instanceMethod yE_rule ∈ gw := gw_of (tb_2 (List.mem_of_getElem? (i := 171) rfl)) rfl
theorem we_E_rule : Cond.selects RE yE_rule yE_rule ∈ gw := gw_of (tb_2 (List.mem_of_getElem? (i := 172) rfl)) rfl
theorem wc_E_rule : Cond.code yE_rule cE_rule 5 (some .boolean) ∈ gw := gw_of (tb_2 (List.mem_of_getElem? (i := 173) rfl)) rfl
theorem wl_E_78 : Cond.methodLink RE 78 yT_hasRule ∈ gw := gw_of (tb_2 (List.mem_of_getElem? (i := 174) rfl)) rfl
theorem wi_T_hasRule : Cond.instanceMethod yT_hasRule ∈ gw := gw_of (tb_2 (List.mem_of_getElem? (i := 175) rfl)) rfl
theorem we_T_hasRule : Cond.selects RT yT_hasRule yT_hasRule ∈ gw := gw_of (tb_2 (List.mem_of_getElem? (i := 176) rfl)) rfl
theorem wc_T_hasRule : Cond.code yT_hasRule cT_hasRule 4 (some .boolean) ∈ gw := gw_of (tb_2 (List.mem_of_getElem? (i := 177) rfl)) rfl
theorem wl_E_82 : Cond.methodLink RE 82 yT_setRule ∈ gw := gw_of (tb_2 (List.mem_of_getElem? (i := 178) rfl)) rfl
theorem wi_T_setRule : Cond.instanceMethod yT_setRule ∈ gw := gw_of (tb_2 (List.mem_of_getElem? (i := 179) rfl)) rfl
theorem we_T_setRule : Cond.selects RT yT_setRule yT_setRule ∈ gw := gw_of (tb_2 (List.mem_of_getElem? (i := 180) rfl)) rfl
theorem wc_T_setRule : Cond.code yT_setRule cT_setRule 5 none ∈ gw := gw_of (tb_2 (List.mem_of_getElem? (i := 181) rfl)) rfl
theorem wl_L_110 : Cond.methodLink RL 110 yL_fix ∈ gw := gw_of (tb_2 (List.mem_of_getElem? (i := 182) rfl)) rfl
theorem ws_L_fix : Cond.static yL_fix ∈ gw := gw_of (tb_2 (List.mem_of_getElem? (i := 183) rfl)) rfl
theorem wc_L_fix : Cond.codeWith yL_fix cL_fix 5 (some .int) [((0), (10), (13), (13))] ∈ gw := gw_of (tb_2 (List.mem_of_getElem? (i := 184) rfl)) rfl
theorem wl_L_32 : Cond.methodLink RL 32 yE_fix ∈ gw := gw_of (tb_2 (List.mem_of_getElem? (i := 185) rfl)) rfl
theorem wi_E_fix : Cond.instanceMethod yE_fix ∈ gw := gw_of (tb_2 (List.mem_of_getElem? (i := 186) rfl)) rfl
theorem we_E_fix : Cond.selects RE yE_fix yE_fix ∈ gw := gw_of (tb_2 (List.mem_of_getElem? (i := 187) rfl)) rfl
theorem wc_E_fix : Cond.code yE_fix cE_fix 4 (some .int) ∈ gw := gw_of (tb_2 (List.mem_of_getElem? (i := 188) rfl)) rfl
theorem wl_L_113 : Cond.methodLink RL 113 yL_clash ∈ gw := gw_of (tb_2 (List.mem_of_getElem? (i := 189) rfl)) rfl
theorem ws_L_clash : Cond.static yL_clash ∈ gw := gw_of (tb_2 (List.mem_of_getElem? (i := 190) rfl)) rfl
theorem wc_L_clash : Cond.codeWith yL_clash cL_clash 5 (some .int) [((0), (10), (13), (13))] ∈ gw := gw_of (tb_2 (List.mem_of_getElem? (i := 191) rfl)) rfl
theorem wl_L_35 : Cond.methodLink RL 35 yE_clash ∈ gw := gw_of (tb_2 (List.mem_of_getElem? (i := 192) rfl)) rfl
theorem wi_E_clash : Cond.instanceMethod yE_clash ∈ gw := gw_of (tb_2 (List.mem_of_getElem? (i := 193) rfl)) rfl
theorem we_E_clash : Cond.selects RE yE_clash yE_clash ∈ gw := gw_of (tb_2 (List.mem_of_getElem? (i := 194) rfl)) rfl
theorem wc_E_clash : Cond.code yE_clash cE_clash 3 (some .int) ∈ gw := gw_of (tb_2 (List.mem_of_getElem? (i := 195) rfl)) rfl
theorem wl_E_89 : Cond.methodLink RE 89 yT_enrolledForBoth ∈ gw := gw_of (tb_2 (List.mem_of_getElem? (i := 196) rfl)) rfl
theorem wi_T_enrolledForBoth : Cond.instanceMethod yT_enrolledForBoth ∈ gw := gw_of (tb_2 (List.mem_of_getElem? (i := 197) rfl)) rfl
theorem we_T_enrolledForBoth : Cond.selects RT yT_enrolledForBoth yT_enrolledForBoth ∈ gw := gw_of (tb_2 (List.mem_of_getElem? (i := 198) rfl)) rfl
theorem wc_T_enrolledForBoth : Cond.code yT_enrolledForBoth cT_enrolledForBoth 5 (some .int) ∈ gw := gw_of (tb_2 (List.mem_of_getElem? (i := 199) rfl)) rfl
theorem wl_L_120 : Cond.methodLink RL 120 yL_planned ∈ gw := gw_of (tb_2 (List.mem_of_getElem? (i := 200) rfl)) rfl
theorem ws_L_planned : Cond.static yL_planned ∈ gw := gw_of (tb_2 (List.mem_of_getElem? (i := 201) rfl)) rfl
theorem wc_L_planned : Cond.codeWith yL_planned cL_planned 4 (some .int) [((0), (9), (12), (13))] ∈ gw := gw_of (tb_2 (List.mem_of_getElem? (i := 202) rfl)) rfl
theorem wl_L_38 : Cond.methodLink RL 38 yE_planned ∈ gw := gw_of (tb_2 (List.mem_of_getElem? (i := 203) rfl)) rfl
theorem wi_E_planned : Cond.instanceMethod yE_planned ∈ gw := gw_of (tb_2 (List.mem_of_getElem? (i := 204) rfl)) rfl
theorem we_E_planned : Cond.selects RE yE_planned yE_planned ∈ gw := gw_of (tb_2 (List.mem_of_getElem? (i := 205) rfl)) rfl
theorem wc_E_planned : Cond.code yE_planned cE_planned 2 (some .int) ∈ gw := gw_of (tb_2 (List.mem_of_getElem? (i := 206) rfl)) rfl
theorem wl_L_128 : Cond.methodLink RL 128 yL_room ∈ gw := gw_of (tb_2 (List.mem_of_getElem? (i := 207) rfl)) rfl
theorem ws_L_room : Cond.static yL_room ∈ gw := gw_of (tb_2 (List.mem_of_getElem? (i := 208) rfl)) rfl
theorem wc_L_room : Cond.codeWith yL_room cL_room 6 (some .int) [((0), (9), (12), (13)), ((0), (9), (16), (15))] ∈ gw := gw_of (tb_2 (List.mem_of_getElem? (i := 209) rfl)) rfl
theorem wl_L_42 : Cond.methodLink RL 42 yE_room ∈ gw := gw_of (tb_2 (List.mem_of_getElem? (i := 210) rfl)) rfl
theorem wi_E_room : Cond.instanceMethod yE_room ∈ gw := gw_of (tb_2 (List.mem_of_getElem? (i := 211) rfl)) rfl
theorem we_E_room : Cond.selects RE yE_room yE_room ∈ gw := gw_of (tb_2 (List.mem_of_getElem? (i := 212) rfl)) rfl
theorem wc_E_room : Cond.code yE_room cE_room 5 none ∈ gw := gw_of (tb_2 (List.mem_of_getElem? (i := 213) rfl)) rfl
theorem wl_E_103 : Cond.methodLink RE 103 yE_isRoom ∈ gw := gw_of (tb_2 (List.mem_of_getElem? (i := 214) rfl)) rfl
theorem ws_E_isRoom : Cond.static yE_isRoom ∈ gw := gw_of (tb_2 (List.mem_of_getElem? (i := 215) rfl)) rfl
theorem wc_E_isRoom : Cond.code yE_isRoom cE_isRoom 1 (some .boolean) ∈ gw := gw_of (tb_2 (List.mem_of_getElem? (i := 216) rfl)) rfl
theorem wl_E_106 : Cond.methodLink RE 106 yR_furnish ∈ gw := gw_of (tb_2 (List.mem_of_getElem? (i := 217) rfl)) rfl
theorem wi_R_furnish : Cond.instanceMethod yR_furnish ∈ gw := gw_of (tb_2 (List.mem_of_getElem? (i := 218) rfl)) rfl
theorem we_R_furnish : Cond.selects RR yR_furnish yR_furnish ∈ gw := gw_of (tb_2 (List.mem_of_getElem? (i := 219) rfl)) rfl
theorem wc_R_furnish : Cond.code yR_furnish cR_furnish 7 none ∈ gw := gw_of (tb_2 (List.mem_of_getElem? (i := 220) rfl)) rfl
theorem wl_L_132 : Cond.methodLink RL 132 yL_block ∈ gw := gw_of (tb_2 (List.mem_of_getElem? (i := 221) rfl)) rfl
theorem ws_L_block : Cond.static yL_block ∈ gw := gw_of (tb_2 (List.mem_of_getElem? (i := 222) rfl)) rfl
theorem wc_L_block : Cond.codeWith yL_block cL_block 7 (some .int) [((0), (21), (24), (13)), ((0), (21), (28), (49))] ∈ gw := gw_of (tb_2 (List.mem_of_getElem? (i := 223) rfl)) rfl
theorem wq_L_49 : Cond.classLink RL 49 "java/lang/IllegalStateException" ∈ gw := gw_of (tb_2 (List.mem_of_getElem? (i := 224) rfl)) rfl
theorem wl_L_46 : Cond.methodLink RL 46 yE_block ∈ gw := gw_of (tb_2 (List.mem_of_getElem? (i := 225) rfl)) rfl
theorem wi_E_block : Cond.instanceMethod yE_block ∈ gw := gw_of (tb_2 (List.mem_of_getElem? (i := 226) rfl)) rfl
theorem we_E_block : Cond.selects RE yE_block yE_block ∈ gw := gw_of (tb_2 (List.mem_of_getElem? (i := 227) rfl)) rfl
theorem wc_E_block : Cond.code yE_block cE_block 7 (some .boolean) ∈ gw := gw_of (tb_2 (List.mem_of_getElem? (i := 228) rfl)) rfl
theorem wl_E_112 : Cond.methodLink RE 112 yR_hasPlace ∈ gw := gw_of (tb_2 (List.mem_of_getElem? (i := 229) rfl)) rfl
theorem wi_R_hasPlace : Cond.instanceMethod yR_hasPlace ∈ gw := gw_of (tb_2 (List.mem_of_getElem? (i := 230) rfl)) rfl
theorem we_R_hasPlace : Cond.selects RR yR_hasPlace yR_hasPlace ∈ gw := gw_of (tb_2 (List.mem_of_getElem? (i := 231) rfl)) rfl
theorem wc_R_hasPlace : Cond.code yR_hasPlace cR_hasPlace 4 (some .boolean) ∈ gw := gw_of (tb_2 (List.mem_of_getElem? (i := 232) rfl)) rfl
theorem wl_E_115 : Cond.methodLink RE 115 yE_placeAt ∈ gw := gw_of (tb_2 (List.mem_of_getElem? (i := 234) rfl)) rfl
theorem ws_E_placeAt : Cond.static yE_placeAt ∈ gw := gw_of (tb_2 (List.mem_of_getElem? (i := 235) rfl)) rfl
theorem wc_E_placeAt : Cond.code yE_placeAt cE_placeAt 3 (some .int) ∈ gw := gw_of (tb_2 (List.mem_of_getElem? (i := 236) rfl)) rfl
theorem wl_E_119 : Cond.methodLink RE 119 yR_isTaken ∈ gw := gw_of (tb_2 (List.mem_of_getElem? (i := 237) rfl)) rfl
theorem wi_R_isTaken : Cond.instanceMethod yR_isTaken ∈ gw := gw_of (tb_2 (List.mem_of_getElem? (i := 238) rfl)) rfl
theorem we_R_isTaken : Cond.selects RR yR_isTaken yR_isTaken ∈ gw := gw_of (tb_2 (List.mem_of_getElem? (i := 239) rfl)) rfl
theorem wc_R_isTaken : Cond.code yR_isTaken cR_isTaken 3 (some .boolean) ∈ gw := gw_of (tb_3 (List.mem_of_getElem? (i := 0) rfl)) rfl
theorem wq_E_122 : Cond.classLink RE 122 "java/lang/IllegalStateException" ∈ gw := gw_of (tb_3 (List.mem_of_getElem? (i := 1) rfl)) rfl
theorem wb_JS : Cond.instantiable RJS 6 ∈ gw := gw_of (tb_3 (List.mem_of_getElem? (i := 2) rfl)) rfl
theorem wl_E_126 : Cond.methodLink RE 126 yJS_init ∈ gw := gw_of (tb_3 (List.mem_of_getElem? (i := 11) rfl)) rfl
theorem wi_JS_init : Cond.instanceMethod yJS_init ∈ gw := gw_of (tb_3 (List.mem_of_getElem? (i := 12) rfl)) rfl
theorem wc_JS_init : Cond.code yJS_init cJS_init 2 none ∈ gw := gw_of (tb_3 (List.mem_of_getElem? (i := 13) rfl)) rfl
theorem wl_JS_7 : Cond.methodLink RJS 7 yJR_init ∈ gw := gw_of (tb_3 (List.mem_of_getElem? (i := 14) rfl)) rfl
theorem wl_L_135 : Cond.methodLink RL 135 yL_seat ∈ gw := gw_of (tb_3 (List.mem_of_getElem? (i := 17) rfl)) rfl
theorem ws_L_seat : Cond.static yL_seat ∈ gw := gw_of (tb_3 (List.mem_of_getElem? (i := 18) rfl)) rfl
theorem wc_L_seat : Cond.codeWith yL_seat cL_seat 4 (some .int) [((0), (9), (12), (13)), ((0), (9), (15), (49))] ∈ gw := gw_of (tb_3 (List.mem_of_getElem? (i := 19) rfl)) rfl
theorem wl_L_51 : Cond.methodLink RL 51 yE_seat ∈ gw := gw_of (tb_3 (List.mem_of_getElem? (i := 20) rfl)) rfl
theorem wi_E_seat : Cond.instanceMethod yE_seat ∈ gw := gw_of (tb_3 (List.mem_of_getElem? (i := 21) rfl)) rfl
theorem we_E_seat : Cond.selects RE yE_seat yE_seat ∈ gw := gw_of (tb_3 (List.mem_of_getElem? (i := 22) rfl)) rfl
theorem wc_E_seat : Cond.code yE_seat cE_seat 5 (some .int) ∈ gw := gw_of (tb_3 (List.mem_of_getElem? (i := 23) rfl)) rfl
theorem wl_E_138 : Cond.methodLink RE 138 yT_paperOf ∈ gw := gw_of (tb_3 (List.mem_of_getElem? (i := 25) rfl)) rfl
theorem wi_T_paperOf : Cond.instanceMethod yT_paperOf ∈ gw := gw_of (tb_3 (List.mem_of_getElem? (i := 26) rfl)) rfl
theorem we_T_paperOf : Cond.selects RT yT_paperOf yT_paperOf ∈ gw := gw_of (tb_3 (List.mem_of_getElem? (i := 27) rfl)) rfl
theorem wc_T_paperOf : Cond.code yT_paperOf cT_paperOf 4 (some .int) ∈ gw := gw_of (tb_3 (List.mem_of_getElem? (i := 28) rfl)) rfl
theorem wl_E_141 : Cond.methodLink RE 141 yR_giveSeat ∈ gw := gw_of (tb_3 (List.mem_of_getElem? (i := 29) rfl)) rfl
theorem wi_R_giveSeat : Cond.instanceMethod yR_giveSeat ∈ gw := gw_of (tb_3 (List.mem_of_getElem? (i := 30) rfl)) rfl
theorem we_R_giveSeat : Cond.selects RR yR_giveSeat yR_giveSeat ∈ gw := gw_of (tb_3 (List.mem_of_getElem? (i := 31) rfl)) rfl
theorem wc_R_giveSeat : Cond.code yR_giveSeat cR_giveSeat 7 (some .boolean) ∈ gw := gw_of (tb_3 (List.mem_of_getElem? (i := 32) rfl)) rfl
theorem wl_R_50 : Cond.methodLink RR 50 yR_firstPlace ∈ gw := gw_of (tb_3 (List.mem_of_getElem? (i := 33) rfl)) rfl
theorem wi_R_firstPlace : Cond.instanceMethod yR_firstPlace ∈ gw := gw_of (tb_3 (List.mem_of_getElem? (i := 35) rfl)) rfl
theorem wc_R_firstPlace : Cond.code yR_firstPlace cR_firstPlace 7 (some .int) ∈ gw := gw_of (tb_3 (List.mem_of_getElem? (i := 36) rfl)) rfl
theorem wl_R_57 : Cond.methodLink RR 57 yR_hasNeighbour ∈ gw := gw_of (tb_3 (List.mem_of_getElem? (i := 38) rfl)) rfl
theorem wi_R_hasNeighbour : Cond.instanceMethod yR_hasNeighbour ∈ gw := gw_of (tb_3 (List.mem_of_getElem? (i := 40) rfl)) rfl
theorem wc_R_hasNeighbour : Cond.code yR_hasNeighbour cR_hasNeighbour 6 (some .boolean) ∈ gw := gw_of (tb_3 (List.mem_of_getElem? (i := 41) rfl)) rfl
theorem wl_R_61 : Cond.methodLink RR 61 yR_isWritten ∈ gw := gw_of (tb_3 (List.mem_of_getElem? (i := 42) rfl)) rfl
theorem wi_R_isWritten : Cond.instanceMethod yR_isWritten ∈ gw := gw_of (tb_3 (List.mem_of_getElem? (i := 44) rfl)) rfl
theorem wc_R_isWritten : Cond.code yR_isWritten cR_isWritten 6 (some .boolean) ∈ gw := gw_of (tb_3 (List.mem_of_getElem? (i := 45) rfl)) rfl
theorem wl_R_64 : Cond.methodLink RR 64 yR_hasPlace ∈ gw := gw_of (tb_3 (List.mem_of_getElem? (i := 46) rfl)) rfl
theorem wl_L_138 : Cond.methodLink RL 138 yL_leave ∈ gw := gw_of (tb_3 (List.mem_of_getElem? (i := 47) rfl)) rfl
theorem ws_L_leave : Cond.static yL_leave ∈ gw := gw_of (tb_3 (List.mem_of_getElem? (i := 48) rfl)) rfl
theorem wc_L_leave : Cond.codeWith yL_leave cL_leave 5 (some .int) [((0), (10), (13), (13))] ∈ gw := gw_of (tb_3 (List.mem_of_getElem? (i := 49) rfl)) rfl
theorem wl_L_54 : Cond.methodLink RL 54 yE_leave ∈ gw := gw_of (tb_3 (List.mem_of_getElem? (i := 50) rfl)) rfl
theorem wi_E_leave : Cond.instanceMethod yE_leave ∈ gw := gw_of (tb_3 (List.mem_of_getElem? (i := 51) rfl)) rfl
theorem we_E_leave : Cond.selects RE yE_leave yE_leave ∈ gw := gw_of (tb_3 (List.mem_of_getElem? (i := 52) rfl)) rfl
theorem wc_E_leave : Cond.code yE_leave cE_leave 4 (some .int) ∈ gw := gw_of (tb_3 (List.mem_of_getElem? (i := 53) rfl)) rfl
theorem wl_E_149 : Cond.methodLink RE 149 yR_vacate ∈ gw := gw_of (tb_3 (List.mem_of_getElem? (i := 54) rfl)) rfl
theorem wl_E_153 : Cond.methodLink RE 153 yE_seatNumber ∈ gw := gw_of (tb_3 (List.mem_of_getElem? (i := 55) rfl)) rfl
theorem ws_E_seatNumber : Cond.static yE_seatNumber ∈ gw := gw_of (tb_3 (List.mem_of_getElem? (i := 56) rfl)) rfl
theorem wc_E_seatNumber : Cond.code yE_seatNumber cE_seatNumber 2 (some .int) ∈ gw := gw_of (tb_3 (List.mem_of_getElem? (i := 57) rfl)) rfl
theorem wl_L_141 : Cond.methodLink RL 141 yL_where ∈ gw := gw_of (tb_3 (List.mem_of_getElem? (i := 58) rfl)) rfl
theorem ws_L_where : Cond.static yL_where ∈ gw := gw_of (tb_3 (List.mem_of_getElem? (i := 59) rfl)) rfl
theorem wc_L_where : Cond.codeWith yL_where cL_where 5 (some .int) [((0), (10), (13), (13))] ∈ gw := gw_of (tb_3 (List.mem_of_getElem? (i := 60) rfl)) rfl
theorem wl_L_57 : Cond.methodLink RL 57 yE_where ∈ gw := gw_of (tb_3 (List.mem_of_getElem? (i := 61) rfl)) rfl
theorem wi_E_where : Cond.instanceMethod yE_where ∈ gw := gw_of (tb_3 (List.mem_of_getElem? (i := 62) rfl)) rfl
theorem we_E_where : Cond.selects RE yE_where yE_where ∈ gw := gw_of (tb_3 (List.mem_of_getElem? (i := 63) rfl)) rfl
theorem wc_E_where : Cond.code yE_where cE_where 3 (some .int) ∈ gw := gw_of (tb_3 (List.mem_of_getElem? (i := 64) rfl)) rfl
theorem wl_L_144 : Cond.methodLink RL 144 yL_who ∈ gw := gw_of (tb_3 (List.mem_of_getElem? (i := 65) rfl)) rfl
theorem ws_L_who : Cond.static yL_who ∈ gw := gw_of (tb_3 (List.mem_of_getElem? (i := 66) rfl)) rfl
theorem wc_L_who : Cond.codeWith yL_who cL_who 7 (some .int) [((0), (14), (17), (13))] ∈ gw := gw_of (tb_3 (List.mem_of_getElem? (i := 67) rfl)) rfl
theorem wl_L_60 : Cond.methodLink RL 60 yE_who ∈ gw := gw_of (tb_3 (List.mem_of_getElem? (i := 68) rfl)) rfl
theorem wi_E_who : Cond.instanceMethod yE_who ∈ gw := gw_of (tb_3 (List.mem_of_getElem? (i := 69) rfl)) rfl
theorem we_E_who : Cond.selects RE yE_who yE_who ∈ gw := gw_of (tb_3 (List.mem_of_getElem? (i := 70) rfl)) rfl
theorem wc_E_who : Cond.code yE_who cE_who 5 (some .int) ∈ gw := gw_of (tb_3 (List.mem_of_getElem? (i := 71) rfl)) rfl
theorem wl_L_148 : Cond.methodLink RL 148 yL_most ∈ gw := gw_of (tb_3 (List.mem_of_getElem? (i := 72) rfl)) rfl
theorem ws_L_most : Cond.static yL_most ∈ gw := gw_of (tb_3 (List.mem_of_getElem? (i := 73) rfl)) rfl
theorem wc_L_most : Cond.codeWith yL_most cL_most 5 (some .int) [((0), (10), (13), (13)), ((0), (10), (17), (15))] ∈ gw := gw_of (tb_3 (List.mem_of_getElem? (i := 74) rfl)) rfl
theorem wl_L_64 : Cond.methodLink RL 64 yE_most ∈ gw := gw_of (tb_3 (List.mem_of_getElem? (i := 75) rfl)) rfl
theorem wi_E_most : Cond.instanceMethod yE_most ∈ gw := gw_of (tb_3 (List.mem_of_getElem? (i := 76) rfl)) rfl
theorem we_E_most : Cond.selects RE yE_most yE_most ∈ gw := gw_of (tb_3 (List.mem_of_getElem? (i := 77) rfl)) rfl
theorem wc_E_most : Cond.code yE_most cE_most 4 (some .int) ∈ gw := gw_of (tb_3 (List.mem_of_getElem? (i := 78) rfl)) rfl
theorem wl_E_160 : Cond.methodLink RE 160 yE_isInvigilator ∈ gw := gw_of (tb_3 (List.mem_of_getElem? (i := 79) rfl)) rfl
theorem ws_E_isInvigilator : Cond.static yE_isInvigilator ∈ gw := gw_of (tb_3 (List.mem_of_getElem? (i := 80) rfl)) rfl
theorem wc_E_isInvigilator : Cond.code yE_isInvigilator cE_isInvigilator 1 (some .boolean) ∈ gw := gw_of (tb_3 (List.mem_of_getElem? (i := 81) rfl)) rfl
theorem wl_L_151 : Cond.methodLink RL 151 yL_own ∈ gw := gw_of (tb_3 (List.mem_of_getElem? (i := 82) rfl)) rfl
theorem ws_L_own : Cond.static yL_own ∈ gw := gw_of (tb_3 (List.mem_of_getElem? (i := 83) rfl)) rfl
theorem wc_L_own : Cond.codeWith yL_own cL_own 6 (some .int) [((0), (19), (22), (13))] ∈ gw := gw_of (tb_3 (List.mem_of_getElem? (i := 84) rfl)) rfl
theorem wl_L_67 : Cond.methodLink RL 67 yE_own ∈ gw := gw_of (tb_3 (List.mem_of_getElem? (i := 85) rfl)) rfl
theorem wi_E_own : Cond.instanceMethod yE_own ∈ gw := gw_of (tb_3 (List.mem_of_getElem? (i := 86) rfl)) rfl
theorem we_E_own : Cond.selects RE yE_own yE_own ∈ gw := gw_of (tb_3 (List.mem_of_getElem? (i := 87) rfl)) rfl
theorem wc_E_own : Cond.code yE_own cE_own 5 (some .boolean) ∈ gw := gw_of (tb_3 (List.mem_of_getElem? (i := 88) rfl)) rfl
theorem wl_L_154 : Cond.methodLink RL 154 yL_watch ∈ gw := gw_of (tb_3 (List.mem_of_getElem? (i := 89) rfl)) rfl
theorem ws_L_watch : Cond.static yL_watch ∈ gw := gw_of (tb_3 (List.mem_of_getElem? (i := 90) rfl)) rfl
theorem wc_L_watch : Cond.codeWith yL_watch cL_watch 4 (some .int) [((0), (16), (19), (13))] ∈ gw := gw_of (tb_3 (List.mem_of_getElem? (i := 91) rfl)) rfl
theorem wl_L_70 : Cond.methodLink RL 70 yE_watch ∈ gw := gw_of (tb_3 (List.mem_of_getElem? (i := 92) rfl)) rfl
theorem wi_E_watch : Cond.instanceMethod yE_watch ∈ gw := gw_of (tb_3 (List.mem_of_getElem? (i := 93) rfl)) rfl
theorem we_E_watch : Cond.selects RE yE_watch yE_watch ∈ gw := gw_of (tb_3 (List.mem_of_getElem? (i := 94) rfl)) rfl
theorem wc_E_watch : Cond.code yE_watch cE_watch 2 (some .boolean) ∈ gw := gw_of (tb_3 (List.mem_of_getElem? (i := 95) rfl)) rfl
theorem wl_E_169 : Cond.methodLink RE 169 yO_staff ∈ gw := gw_of (tb_3 (List.mem_of_getElem? (i := 96) rfl)) rfl
theorem wi_O_staff : Cond.instanceMethod yO_staff ∈ gw := gw_of (tb_3 (List.mem_of_getElem? (i := 97) rfl)) rfl
theorem we_O_staff : Cond.selects RO yO_staff yO_staff ∈ gw := gw_of (tb_3 (List.mem_of_getElem? (i := 98) rfl)) rfl
theorem wc_O_staff : Cond.code yO_staff cO_staff 5 (some .boolean) ∈ gw := gw_of (tb_3 (List.mem_of_getElem? (i := 99) rfl)) rfl
theorem wl_O_35 : Cond.methodLink RO 35 yO_thoseWithTime ∈ gw := gw_of (tb_3 (List.mem_of_getElem? (i := 100) rfl)) rfl
theorem wi_O_thoseWithTime : Cond.instanceMethod yO_thoseWithTime ∈ gw := gw_of (tb_3 (List.mem_of_getElem? (i := 102) rfl)) rfl
theorem wc_O_thoseWithTime : Cond.code yO_thoseWithTime cO_thoseWithTime 3 (some .int) ∈ gw := gw_of (tb_3 (List.mem_of_getElem? (i := 103) rfl)) rfl
theorem wl_O_63 : Cond.methodLink RO 63 yO_watchesOf ∈ gw := gw_of (tb_3 (List.mem_of_getElem? (i := 104) rfl)) rfl
theorem wi_O_watchesOf : Cond.instanceMethod yO_watchesOf ∈ gw := gw_of (tb_3 (List.mem_of_getElem? (i := 106) rfl)) rfl
theorem wc_O_watchesOf : Cond.code yO_watchesOf cO_watchesOf 5 (some .int) ∈ gw := gw_of (tb_3 (List.mem_of_getElem? (i := 107) rfl)) rfl
theorem wl_O_39 : Cond.methodLink RO 39 yR_sittersIn ∈ gw := gw_of (tb_3 (List.mem_of_getElem? (i := 110) rfl)) rfl
theorem wi_R_sittersIn : Cond.instanceMethod yR_sittersIn ∈ gw := gw_of (tb_3 (List.mem_of_getElem? (i := 111) rfl)) rfl
theorem we_R_sittersIn : Cond.selects RR yR_sittersIn yR_sittersIn ∈ gw := gw_of (tb_3 (List.mem_of_getElem? (i := 112) rfl)) rfl
theorem wc_R_sittersIn : Cond.code yR_sittersIn cR_sittersIn 5 (some .int) ∈ gw := gw_of (tb_3 (List.mem_of_getElem? (i := 113) rfl)) rfl
theorem wl_O_45 : Cond.methodLink RO 45 yO_needed ∈ gw := gw_of (tb_3 (List.mem_of_getElem? (i := 114) rfl)) rfl
theorem ws_O_needed : Cond.static yO_needed ∈ gw := gw_of (tb_3 (List.mem_of_getElem? (i := 115) rfl)) rfl
theorem wc_O_needed : Cond.code yO_needed cO_needed 1 (some .int) ∈ gw := gw_of (tb_3 (List.mem_of_getElem? (i := 116) rfl)) rfl
theorem wl_O_49 : Cond.methodLink RO 49 yR_papersIn ∈ gw := gw_of (tb_3 (List.mem_of_getElem? (i := 117) rfl)) rfl
theorem wi_R_papersIn : Cond.instanceMethod yR_papersIn ∈ gw := gw_of (tb_3 (List.mem_of_getElem? (i := 118) rfl)) rfl
theorem we_R_papersIn : Cond.selects RR yR_papersIn yR_papersIn ∈ gw := gw_of (tb_3 (List.mem_of_getElem? (i := 119) rfl)) rfl
theorem wc_R_papersIn : Cond.code yR_papersIn cR_papersIn 5 (some .int) ∈ gw := gw_of (tb_3 (List.mem_of_getElem? (i := 120) rfl)) rfl
theorem wl_O_52 : Cond.methodLink RO 52 yO_thoseWithout ∈ gw := gw_of (tb_3 (List.mem_of_getElem? (i := 121) rfl)) rfl
theorem wi_O_thoseWithout : Cond.instanceMethod yO_thoseWithout ∈ gw := gw_of (tb_3 (List.mem_of_getElem? (i := 123) rfl)) rfl
theorem wc_O_thoseWithout : Cond.code yO_thoseWithout cO_thoseWithout 4 (some .int) ∈ gw := gw_of (tb_3 (List.mem_of_getElem? (i := 124) rfl)) rfl
theorem wl_O_55 : Cond.methodLink RO 55 yO_areEnough ∈ gw := gw_of (tb_3 (List.mem_of_getElem? (i := 125) rfl)) rfl
theorem wi_O_areEnough : Cond.instanceMethod yO_areEnough ∈ gw := gw_of (tb_3 (List.mem_of_getElem? (i := 127) rfl)) rfl
theorem wc_O_areEnough : Cond.code yO_areEnough cO_areEnough 6 (some .boolean) ∈ gw := gw_of (tb_3 (List.mem_of_getElem? (i := 128) rfl)) rfl
theorem wl_O_74 : Cond.methodLink RO 74 yJI_bitCount ∈ gw := gw_of (tb_3 (List.mem_of_getElem? (i := 129) rfl)) rfl
theorem wl_O_59 : Cond.methodLink RO 59 yO_staffRoom ∈ gw := gw_of (tb_3 (List.mem_of_getElem? (i := 130) rfl)) rfl
theorem wi_O_staffRoom : Cond.instanceMethod yO_staffRoom ∈ gw := gw_of (tb_3 (List.mem_of_getElem? (i := 132) rfl)) rfl
theorem wc_O_staffRoom : Cond.code yO_staffRoom cO_staffRoom 6 (some .int) ∈ gw := gw_of (tb_3 (List.mem_of_getElem? (i := 133) rfl)) rfl
theorem wl_L_157 : Cond.methodLink RL 157 yL_watcher ∈ gw := gw_of (tb_3 (List.mem_of_getElem? (i := 134) rfl)) rfl
theorem ws_L_watcher : Cond.static yL_watcher ∈ gw := gw_of (tb_3 (List.mem_of_getElem? (i := 135) rfl)) rfl
theorem wc_L_watcher : Cond.codeWith yL_watcher cL_watcher 6 (some .int) [((0), (12), (15), (13))] ∈ gw := gw_of (tb_3 (List.mem_of_getElem? (i := 136) rfl)) rfl
theorem wl_L_74 : Cond.methodLink RL 74 yE_watcher ∈ gw := gw_of (tb_3 (List.mem_of_getElem? (i := 137) rfl)) rfl
theorem wi_E_watcher : Cond.instanceMethod yE_watcher ∈ gw := gw_of (tb_3 (List.mem_of_getElem? (i := 138) rfl)) rfl
theorem we_E_watcher : Cond.selects RE yE_watcher yE_watcher ∈ gw := gw_of (tb_3 (List.mem_of_getElem? (i := 139) rfl)) rfl
theorem wc_E_watcher : Cond.code yE_watcher cE_watcher 4 (some .int) ∈ gw := gw_of (tb_3 (List.mem_of_getElem? (i := 140) rfl)) rfl
theorem wl_E_173 : Cond.methodLink RE 173 yO_watcherAt ∈ gw := gw_of (tb_3 (List.mem_of_getElem? (i := 141) rfl)) rfl
theorem wi_O_watcherAt : Cond.instanceMethod yO_watcherAt ∈ gw := gw_of (tb_3 (List.mem_of_getElem? (i := 142) rfl)) rfl
theorem we_O_watcherAt : Cond.selects RO yO_watcherAt yO_watcherAt ∈ gw := gw_of (tb_3 (List.mem_of_getElem? (i := 143) rfl)) rfl
theorem wc_O_watcherAt : Cond.code yO_watcherAt cO_watcherAt 6 (some .int) ∈ gw := gw_of (tb_3 (List.mem_of_getElem? (i := 144) rfl)) rfl
theorem wl_L_161 : Cond.methodLink RL 161 yL_count ∈ gw := gw_of (tb_3 (List.mem_of_getElem? (i := 145) rfl)) rfl
theorem ws_L_count : Cond.static yL_count ∈ gw := gw_of (tb_3 (List.mem_of_getElem? (i := 146) rfl)) rfl
theorem wc_L_count : Cond.codeWith yL_count cL_count 4 (some .int) [((0), (9), (12), (15))] ∈ gw := gw_of (tb_3 (List.mem_of_getElem? (i := 147) rfl)) rfl
theorem wl_L_78 : Cond.methodLink RL 78 yE_count ∈ gw := gw_of (tb_3 (List.mem_of_getElem? (i := 148) rfl)) rfl
theorem wi_E_count : Cond.instanceMethod yE_count ∈ gw := gw_of (tb_3 (List.mem_of_getElem? (i := 149) rfl)) rfl
theorem we_E_count : Cond.selects RE yE_count yE_count ∈ gw := gw_of (tb_3 (List.mem_of_getElem? (i := 150) rfl)) rfl
theorem wc_E_count : Cond.code yE_count cE_count 2 (some .int) ∈ gw := gw_of (tb_3 (List.mem_of_getElem? (i := 151) rfl)) rfl
theorem wl_E_176 : Cond.methodLink RE 176 yT_heldPapers ∈ gw := gw_of (tb_3 (List.mem_of_getElem? (i := 152) rfl)) rfl
theorem wl_E_179 : Cond.methodLink RE 179 yJI_bitCount ∈ gw := gw_of (tb_3 (List.mem_of_getElem? (i := 153) rfl)) rfl
theorem wl_E_184 : Cond.methodLink RE 184 yT_enrolments ∈ gw := gw_of (tb_3 (List.mem_of_getElem? (i := 154) rfl)) rfl
theorem wi_T_enrolments : Cond.instanceMethod yT_enrolments ∈ gw := gw_of (tb_3 (List.mem_of_getElem? (i := 155) rfl)) rfl
theorem we_T_enrolments : Cond.selects RT yT_enrolments yT_enrolments ∈ gw := gw_of (tb_3 (List.mem_of_getElem? (i := 156) rfl)) rfl
theorem wc_T_enrolments : Cond.code yT_enrolments cT_enrolments 3 (some .int) ∈ gw := gw_of (tb_3 (List.mem_of_getElem? (i := 157) rfl)) rfl
theorem wl_E_191 : Cond.methodLink RE 191 yR_seatsTaken ∈ gw := gw_of (tb_3 (List.mem_of_getElem? (i := 158) rfl)) rfl
theorem wi_R_seatsTaken : Cond.instanceMethod yR_seatsTaken ∈ gw := gw_of (tb_3 (List.mem_of_getElem? (i := 159) rfl)) rfl
theorem we_R_seatsTaken : Cond.selects RR yR_seatsTaken yR_seatsTaken ∈ gw := gw_of (tb_3 (List.mem_of_getElem? (i := 160) rfl)) rfl
theorem wc_R_seatsTaken : Cond.code yR_seatsTaken cR_seatsTaken 4 (some .int) ∈ gw := gw_of (tb_3 (List.mem_of_getElem? (i := 161) rfl)) rfl
theorem wl_R_68 : Cond.methodLink RR 68 yR_sittersIn ∈ gw := gw_of (tb_3 (List.mem_of_getElem? (i := 162) rfl)) rfl
theorem wl_E_194 : Cond.methodLink RE 194 yO_watches ∈ gw := gw_of (tb_3 (List.mem_of_getElem? (i := 163) rfl)) rfl
theorem wi_O_watches : Cond.instanceMethod yO_watches ∈ gw := gw_of (tb_3 (List.mem_of_getElem? (i := 164) rfl)) rfl
theorem we_O_watches : Cond.selects RO yO_watches yO_watches ∈ gw := gw_of (tb_3 (List.mem_of_getElem? (i := 165) rfl)) rfl
theorem wc_O_watches : Cond.code yO_watches cO_watches 4 (some .int) ∈ gw := gw_of (tb_3 (List.mem_of_getElem? (i := 166) rfl)) rfl
theorem wq_L_82 : Cond.classLink RL 82 "ExamDeskModel" ∈ gw := gw_of (tb_3 (List.mem_of_getElem? (i := 168) rfl)) rfl
theorem wb_M : Cond.instantiable RM 25 ∈ gw := gw_of (tb_3 (List.mem_of_getElem? (i := 169) rfl)) rfl
theorem wl_L_84 : Cond.methodLink RL 84 yM_init ∈ gw := gw_of (tb_3 (List.mem_of_getElem? (i := 170) rfl)) rfl
theorem wi_M_init : Cond.instanceMethod yM_init ∈ gw := gw_of (tb_3 (List.mem_of_getElem? (i := 171) rfl)) rfl
theorem wc_M_init : Cond.code yM_init cM_init 2 none ∈ gw := gw_of (tb_3 (List.mem_of_getElem? (i := 172) rfl)) rfl
theorem wl_M_1 : Cond.methodLink RM 1 yJO_init ∈ gw := gw_of (tb_3 (List.mem_of_getElem? (i := 173) rfl)) rfl
theorem wk_M_77 : Cond.constant RM 77 41984 ∈ gw := gw_of (tb_3 (List.mem_of_getElem? (i := 174) rfl)) rfl
theorem wf_M_81 : Cond.fieldLink RM 81 "ExamDeskModel" "thrown" "I" ∈ gw := gw_of (tb_3 (List.mem_of_getElem? (i := 175) rfl)) rfl
theorem wf_M_7 : Cond.fieldLink RM 7 "ExamDeskModel" "minutes" "[I" ∈ gw := gw_of (tb_3 (List.mem_of_getElem? (i := 176) rfl)) rfl
theorem wf_M_13 : Cond.fieldLink RM 13 "ExamDeskModel" "open" "[I" ∈ gw := gw_of (tb_3 (List.mem_of_getElem? (i := 177) rfl)) rfl
theorem wf_M_16 : Cond.fieldLink RM 16 "ExamDeskModel" "fixed" "[I" ∈ gw := gw_of (tb_3 (List.mem_of_getElem? (i := 178) rfl)) rfl
theorem wf_M_19 : Cond.fieldLink RM 19 "ExamDeskModel" "enrolled" "[Z" ∈ gw := gw_of (tb_3 (List.mem_of_getElem? (i := 179) rfl)) rfl
theorem wf_M_23 : Cond.fieldLink RM 23 "ExamDeskModel" "extras" "[Z" ∈ gw := gw_of (tb_3 (List.mem_of_getElem? (i := 180) rfl)) rfl
theorem wf_M_26 : Cond.fieldLink RM 26 "ExamDeskModel" "rules" "[Z" ∈ gw := gw_of (tb_3 (List.mem_of_getElem? (i := 181) rfl)) rfl
theorem wf_M_85 : Cond.fieldLink RM 85 "ExamDeskModel" "isPlan" "Z" ∈ gw := gw_of (tb_3 (List.mem_of_getElem? (i := 182) rfl)) rfl
theorem wf_M_29 : Cond.fieldLink RM 29 "ExamDeskModel" "plans" "[I" ∈ gw := gw_of (tb_3 (List.mem_of_getElem? (i := 183) rfl)) rfl
theorem wf_M_32 : Cond.fieldLink RM 32 "ExamDeskModel" "needs" "[I" ∈ gw := gw_of (tb_3 (List.mem_of_getElem? (i := 184) rfl)) rfl
theorem wf_M_35 : Cond.fieldLink RM 35 "ExamDeskModel" "bound" "[I" ∈ gw := gw_of (tb_3 (List.mem_of_getElem? (i := 185) rfl)) rfl
theorem wf_M_38 : Cond.fieldLink RM 38 "ExamDeskModel" "may" "[Z" ∈ gw := gw_of (tb_3 (List.mem_of_getElem? (i := 186) rfl)) rfl
theorem wf_M_41 : Cond.fieldLink RM 41 "ExamDeskModel" "good" "[Z" ∈ gw := gw_of (tb_3 (List.mem_of_getElem? (i := 187) rfl)) rfl
theorem wf_M_44 : Cond.fieldLink RM 44 "ExamDeskModel" "clashes" "[Z" ∈ gw := gw_of (tb_3 (List.mem_of_getElem? (i := 188) rfl)) rfl
theorem wf_M_47 : Cond.fieldLink RM 47 "ExamDeskModel" "rows" "[I" ∈ gw := gw_of (tb_3 (List.mem_of_getElem? (i := 189) rfl)) rfl
theorem wf_M_50 : Cond.fieldLink RM 50 "ExamDeskModel" "columns" "[I" ∈ gw := gw_of (tb_3 (List.mem_of_getElem? (i := 190) rfl)) rfl
theorem wf_M_53 : Cond.fieldLink RM 53 "ExamDeskModel" "forExtra" "[Z" ∈ gw := gw_of (tb_3 (List.mem_of_getElem? (i := 191) rfl)) rfl
theorem wf_M_56 : Cond.fieldLink RM 56 "ExamDeskModel" "blocked" "[Z" ∈ gw := gw_of (tb_3 (List.mem_of_getElem? (i := 192) rfl)) rfl
theorem wf_M_59 : Cond.fieldLink RM 59 "ExamDeskModel" "seated" "[I" ∈ gw := gw_of (tb_3 (List.mem_of_getElem? (i := 193) rfl)) rfl
theorem wf_M_62 : Cond.fieldLink RM 62 "ExamDeskModel" "forPaper" "[I" ∈ gw := gw_of (tb_3 (List.mem_of_getElem? (i := 194) rfl)) rfl
theorem wf_M_65 : Cond.fieldLink RM 65 "ExamDeskModel" "mosts" "[I" ∈ gw := gw_of (tb_3 (List.mem_of_getElem? (i := 195) rfl)) rfl
theorem wf_M_68 : Cond.fieldLink RM 68 "ExamDeskModel" "own" "[Z" ∈ gw := gw_of (tb_3 (List.mem_of_getElem? (i := 196) rfl)) rfl
theorem wf_M_71 : Cond.fieldLink RM 71 "ExamDeskModel" "watches" "[Z" ∈ gw := gw_of (tb_3 (List.mem_of_getElem? (i := 197) rfl)) rfl
theorem wf_M_74 : Cond.fieldLink RM 74 "ExamDeskModel" "places" "[I" ∈ gw := gw_of (tb_3 (List.mem_of_getElem? (i := 198) rfl)) rfl
theorem wf_M_78 : Cond.fieldLink RM 78 "ExamDeskModel" "can" "[Z" ∈ gw := gw_of (tb_3 (List.mem_of_getElem? (i := 199) rfl)) rfl
theorem wl_L_91 : Cond.methodLink RL 91 yM_thrown ∈ gw := gw_of (tb_4 (List.mem_of_getElem? (i := 11) rfl)) rfl
theorem wi_M_thrown : Cond.instanceMethod yM_thrown ∈ gw := gw_of (tb_4 (List.mem_of_getElem? (i := 12) rfl)) rfl
theorem we_M_thrown : Cond.selects RM yM_thrown yM_thrown ∈ gw := gw_of (tb_4 (List.mem_of_getElem? (i := 13) rfl)) rfl
theorem wc_M_thrown : Cond.code yM_thrown cM_thrown 1 (some .int) ∈ gw := gw_of (tb_4 (List.mem_of_getElem? (i := 14) rfl)) rfl
theorem wl_L_90 : Cond.methodLink RL 90 yM_paper ∈ gw := gw_of (tb_4 (List.mem_of_getElem? (i := 15) rfl)) rfl
theorem wi_M_paper : Cond.instanceMethod yM_paper ∈ gw := gw_of (tb_4 (List.mem_of_getElem? (i := 16) rfl)) rfl
theorem we_M_paper : Cond.selects RM yM_paper yM_paper ∈ gw := gw_of (tb_4 (List.mem_of_getElem? (i := 17) rfl)) rfl
theorem wc_M_paper : Cond.code yM_paper cM_paper 4 (some .int) ∈ gw := gw_of (tb_4 (List.mem_of_getElem? (i := 18) rfl)) rfl
theorem wl_M_89 : Cond.methodLink RM 89 yM_isPaper ∈ gw := gw_of (tb_4 (List.mem_of_getElem? (i := 19) rfl)) rfl
theorem ws_M_isPaper : Cond.static yM_isPaper ∈ gw := gw_of (tb_4 (List.mem_of_getElem? (i := 20) rfl)) rfl
theorem wc_M_isPaper : Cond.code yM_isPaper cM_isPaper 1 (some .boolean) ∈ gw := gw_of (tb_4 (List.mem_of_getElem? (i := 21) rfl)) rfl
theorem wl_M_93 : Cond.methodLink RM 93 yM_within ∈ gw := gw_of (tb_4 (List.mem_of_getElem? (i := 22) rfl)) rfl
theorem ws_M_within : Cond.static yM_within ∈ gw := gw_of (tb_4 (List.mem_of_getElem? (i := 23) rfl)) rfl
theorem wc_M_within : Cond.code yM_within cM_within 3 (some .boolean) ∈ gw := gw_of (tb_4 (List.mem_of_getElem? (i := 24) rfl)) rfl
theorem wl_M_97 : Cond.methodLink RM 97 yM_goes ∈ gw := gw_of (tb_4 (List.mem_of_getElem? (i := 25) rfl)) rfl
theorem wi_M_goes : Cond.instanceMethod yM_goes ∈ gw := gw_of (tb_4 (List.mem_of_getElem? (i := 27) rfl)) rfl
theorem wc_M_goes : Cond.code yM_goes cM_goes 3 (some .boolean) ∈ gw := gw_of (tb_4 (List.mem_of_getElem? (i := 28) rfl)) rfl
theorem wl_M_101 : Cond.methodLink RM 101 yM_forget ∈ gw := gw_of (tb_4 (List.mem_of_getElem? (i := 29) rfl)) rfl
theorem wi_M_forget : Cond.instanceMethod yM_forget ∈ gw := gw_of (tb_4 (List.mem_of_getElem? (i := 31) rfl)) rfl
theorem wc_M_forget : Cond.code yM_forget cM_forget 2 none ∈ gw := gw_of (tb_4 (List.mem_of_getElem? (i := 32) rfl)) rfl
theorem wl_L_97 : Cond.methodLink RL 97 yM_session ∈ gw := gw_of (tb_4 (List.mem_of_getElem? (i := 33) rfl)) rfl
theorem wi_M_session : Cond.instanceMethod yM_session ∈ gw := gw_of (tb_4 (List.mem_of_getElem? (i := 34) rfl)) rfl
theorem we_M_session : Cond.selects RM yM_session yM_session ∈ gw := gw_of (tb_4 (List.mem_of_getElem? (i := 35) rfl)) rfl
theorem wc_M_session : Cond.code yM_session cM_session 4 (some .int) ∈ gw := gw_of (tb_4 (List.mem_of_getElem? (i := 36) rfl)) rfl
theorem wl_M_104 : Cond.methodLink RM 104 yM_isSession ∈ gw := gw_of (tb_4 (List.mem_of_getElem? (i := 37) rfl)) rfl
theorem ws_M_isSession : Cond.static yM_isSession ∈ gw := gw_of (tb_4 (List.mem_of_getElem? (i := 38) rfl)) rfl
theorem wc_M_isSession : Cond.code yM_isSession cM_isSession 1 (some .boolean) ∈ gw := gw_of (tb_4 (List.mem_of_getElem? (i := 39) rfl)) rfl
theorem wl_L_101 : Cond.methodLink RL 101 yM_enrol ∈ gw := gw_of (tb_4 (List.mem_of_getElem? (i := 40) rfl)) rfl
theorem wi_M_enrol : Cond.instanceMethod yM_enrol ∈ gw := gw_of (tb_4 (List.mem_of_getElem? (i := 41) rfl)) rfl
theorem we_M_enrol : Cond.selects RM yM_enrol yM_enrol ∈ gw := gw_of (tb_4 (List.mem_of_getElem? (i := 42) rfl)) rfl
theorem wc_M_enrol : Cond.code yM_enrol cM_enrol 5 (some .boolean) ∈ gw := gw_of (tb_4 (List.mem_of_getElem? (i := 43) rfl)) rfl
theorem wl_M_107 : Cond.methodLink RM 107 yM_isCandidate ∈ gw := gw_of (tb_4 (List.mem_of_getElem? (i := 44) rfl)) rfl
theorem ws_M_isCandidate : Cond.static yM_isCandidate ∈ gw := gw_of (tb_4 (List.mem_of_getElem? (i := 45) rfl)) rfl
theorem wc_M_isCandidate : Cond.code yM_isCandidate cM_isCandidate 1 (some .boolean) ∈ gw := gw_of (tb_4 (List.mem_of_getElem? (i := 46) rfl)) rfl
theorem wl_L_105 : Cond.methodLink RL 105 yM_extra ∈ gw := gw_of (tb_4 (List.mem_of_getElem? (i := 47) rfl)) rfl
theorem wi_M_extra : Cond.instanceMethod yM_extra ∈ gw := gw_of (tb_4 (List.mem_of_getElem? (i := 48) rfl)) rfl
theorem we_M_extra : Cond.selects RM yM_extra yM_extra ∈ gw := gw_of (tb_4 (List.mem_of_getElem? (i := 49) rfl)) rfl
theorem wc_M_extra : Cond.code yM_extra cM_extra 4 (some .boolean) ∈ gw := gw_of (tb_4 (List.mem_of_getElem? (i := 50) rfl)) rfl
theorem wl_L_109 : Cond.methodLink RL 109 yM_rule ∈ gw := gw_of (tb_4 (List.mem_of_getElem? (i := 51) rfl)) rfl
theorem wi_M_rule : Cond.instanceMethod yM_rule ∈ gw := gw_of (tb_4 (List.mem_of_getElem? (i := 52) rfl)) rfl
theorem we_M_rule : Cond.selects RM yM_rule yM_rule ∈ gw := gw_of (tb_4 (List.mem_of_getElem? (i := 53) rfl)) rfl
theorem wc_M_rule : Cond.code yM_rule cM_rule 8 (some .boolean) ∈ gw := gw_of (tb_4 (List.mem_of_getElem? (i := 54) rfl)) rfl
theorem wl_L_112 : Cond.methodLink RL 112 yM_fix ∈ gw := gw_of (tb_4 (List.mem_of_getElem? (i := 55) rfl)) rfl
theorem wi_M_fix : Cond.instanceMethod yM_fix ∈ gw := gw_of (tb_4 (List.mem_of_getElem? (i := 56) rfl)) rfl
theorem we_M_fix : Cond.selects RM yM_fix yM_fix ∈ gw := gw_of (tb_4 (List.mem_of_getElem? (i := 57) rfl)) rfl
theorem wc_M_fix : Cond.code yM_fix cM_fix 4 (some .int) ∈ gw := gw_of (tb_4 (List.mem_of_getElem? (i := 58) rfl)) rfl
theorem wl_L_115 : Cond.methodLink RL 115 yM_clash ∈ gw := gw_of (tb_4 (List.mem_of_getElem? (i := 59) rfl)) rfl
theorem wi_M_clash : Cond.instanceMethod yM_clash ∈ gw := gw_of (tb_4 (List.mem_of_getElem? (i := 60) rfl)) rfl
theorem we_M_clash : Cond.selects RM yM_clash yM_clash ∈ gw := gw_of (tb_4 (List.mem_of_getElem? (i := 61) rfl)) rfl
theorem wc_M_clash : Cond.code yM_clash cM_clash 3 (some .int) ∈ gw := gw_of (tb_4 (List.mem_of_getElem? (i := 62) rfl)) rfl
theorem wl_M_110 : Cond.methodLink RM 110 yM_common ∈ gw := gw_of (tb_4 (List.mem_of_getElem? (i := 63) rfl)) rfl
theorem wi_M_common : Cond.instanceMethod yM_common ∈ gw := gw_of (tb_4 (List.mem_of_getElem? (i := 65) rfl)) rfl
theorem wc_M_common : Cond.code yM_common cM_common 5 (some .int) ∈ gw := gw_of (tb_4 (List.mem_of_getElem? (i := 66) rfl)) rfl
theorem wl_L_119 : Cond.methodLink RL 119 yM_plan ∈ gw := gw_of (tb_4 (List.mem_of_getElem? (i := 67) rfl)) rfl
theorem wi_M_plan : Cond.instanceMethod yM_plan ∈ gw := gw_of (tb_4 (List.mem_of_getElem? (i := 68) rfl)) rfl
theorem we_M_plan : Cond.selects RM yM_plan yM_plan ∈ gw := gw_of (tb_4 (List.mem_of_getElem? (i := 69) rfl)) rfl
theorem wc_M_plan : Cond.code yM_plan cM_plan 5 (some .int) ∈ gw := gw_of (tb_4 (List.mem_of_getElem? (i := 70) rfl)) rfl
theorem wl_M_124 : Cond.methodLink RM 124 yM_held ∈ gw := gw_of (tb_4 (List.mem_of_getElem? (i := 71) rfl)) rfl
theorem wi_M_held : Cond.instanceMethod yM_held ∈ gw := gw_of (tb_4 (List.mem_of_getElem? (i := 73) rfl)) rfl
theorem wc_M_held : Cond.code yM_held cM_held 3 (some .int) ∈ gw := gw_of (tb_4 (List.mem_of_getElem? (i := 74) rfl)) rfl
theorem wl_M_128 : Cond.methodLink RM 128 yM_fits ∈ gw := gw_of (tb_4 (List.mem_of_getElem? (i := 75) rfl)) rfl
theorem wi_M_fits : Cond.instanceMethod yM_fits ∈ gw := gw_of (tb_4 (List.mem_of_getElem? (i := 77) rfl)) rfl
theorem wc_M_fits : Cond.code yM_fits cM_fits 9 (some .boolean) ∈ gw := gw_of (tb_4 (List.mem_of_getElem? (i := 78) rfl)) rfl
theorem wl_M_114 : Cond.methodLink RM 114 yM_has ∈ gw := gw_of (tb_4 (List.mem_of_getElem? (i := 79) rfl)) rfl
theorem ws_M_has : Cond.static yM_has ∈ gw := gw_of (tb_4 (List.mem_of_getElem? (i := 80) rfl)) rfl
theorem wc_M_has : Cond.code yM_has cM_has 2 (some .boolean) ∈ gw := gw_of (tb_4 (List.mem_of_getElem? (i := 81) rfl)) rfl
theorem wl_M_131 : Cond.methodLink RM 131 yM_least ∈ gw := gw_of (tb_4 (List.mem_of_getElem? (i := 82) rfl)) rfl
theorem wi_M_least : Cond.instanceMethod yM_least ∈ gw := gw_of (tb_4 (List.mem_of_getElem? (i := 84) rfl)) rfl
theorem wc_M_least : Cond.code yM_least cM_least 8 (some .int) ∈ gw := gw_of (tb_4 (List.mem_of_getElem? (i := 85) rfl)) rfl
theorem wl_M_118 : Cond.methodLink RM 118 yM_keeps ∈ gw := gw_of (tb_4 (List.mem_of_getElem? (i := 86) rfl)) rfl
theorem wi_M_keeps : Cond.instanceMethod yM_keeps ∈ gw := gw_of (tb_4 (List.mem_of_getElem? (i := 88) rfl)) rfl
theorem wc_M_keeps : Cond.code yM_keeps cM_keeps 5 (some .boolean) ∈ gw := gw_of (tb_4 (List.mem_of_getElem? (i := 89) rfl)) rfl
theorem wl_M_121 : Cond.methodLink RM 121 yM_follows ∈ gw := gw_of (tb_4 (List.mem_of_getElem? (i := 90) rfl)) rfl
theorem wi_M_follows : Cond.instanceMethod yM_follows ∈ gw := gw_of (tb_4 (List.mem_of_getElem? (i := 92) rfl)) rfl
theorem wc_M_follows : Cond.code yM_follows cM_follows 7 (some .boolean) ∈ gw := gw_of (tb_4 (List.mem_of_getElem? (i := 93) rfl)) rfl
theorem wl_L_123 : Cond.methodLink RL 123 yM_planned ∈ gw := gw_of (tb_4 (List.mem_of_getElem? (i := 94) rfl)) rfl
theorem wi_M_planned : Cond.instanceMethod yM_planned ∈ gw := gw_of (tb_4 (List.mem_of_getElem? (i := 95) rfl)) rfl
theorem we_M_planned : Cond.selects RM yM_planned yM_planned ∈ gw := gw_of (tb_4 (List.mem_of_getElem? (i := 96) rfl)) rfl
theorem wc_M_planned : Cond.code yM_planned cM_planned 2 (some .int) ∈ gw := gw_of (tb_4 (List.mem_of_getElem? (i := 97) rfl)) rfl
theorem wl_L_127 : Cond.methodLink RL 127 yM_strain ∈ gw := gw_of (tb_4 (List.mem_of_getElem? (i := 98) rfl)) rfl
theorem wi_M_strain : Cond.instanceMethod yM_strain ∈ gw := gw_of (tb_4 (List.mem_of_getElem? (i := 99) rfl)) rfl
theorem we_M_strain : Cond.selects RM yM_strain yM_strain ∈ gw := gw_of (tb_4 (List.mem_of_getElem? (i := 100) rfl)) rfl
theorem wc_M_strain : Cond.code yM_strain cM_strain 4 (some .int) ∈ gw := gw_of (tb_4 (List.mem_of_getElem? (i := 101) rfl)) rfl
theorem wl_M_135 : Cond.methodLink RM 135 yM_paperOf ∈ gw := gw_of (tb_4 (List.mem_of_getElem? (i := 102) rfl)) rfl
theorem wi_M_paperOf : Cond.instanceMethod yM_paperOf ∈ gw := gw_of (tb_4 (List.mem_of_getElem? (i := 104) rfl)) rfl
theorem wc_M_paperOf : Cond.code yM_paperOf cM_paperOf 4 (some .int) ∈ gw := gw_of (tb_4 (List.mem_of_getElem? (i := 105) rfl)) rfl
theorem wl_L_131 : Cond.methodLink RL 131 yM_room ∈ gw := gw_of (tb_4 (List.mem_of_getElem? (i := 106) rfl)) rfl
theorem wi_M_room : Cond.instanceMethod yM_room ∈ gw := gw_of (tb_4 (List.mem_of_getElem? (i := 107) rfl)) rfl
theorem we_M_room : Cond.selects RM yM_room yM_room ∈ gw := gw_of (tb_4 (List.mem_of_getElem? (i := 108) rfl)) rfl
theorem wc_M_room : Cond.code yM_room cM_room 7 none ∈ gw := gw_of (tb_4 (List.mem_of_getElem? (i := 109) rfl)) rfl
theorem wl_M_138 : Cond.methodLink RM 138 yM_isRoom ∈ gw := gw_of (tb_4 (List.mem_of_getElem? (i := 110) rfl)) rfl
theorem ws_M_isRoom : Cond.static yM_isRoom ∈ gw := gw_of (tb_4 (List.mem_of_getElem? (i := 111) rfl)) rfl
theorem wc_M_isRoom : Cond.code yM_isRoom cM_isRoom 1 (some .boolean) ∈ gw := gw_of (tb_4 (List.mem_of_getElem? (i := 112) rfl)) rfl
theorem wl_L_134 : Cond.methodLink RL 134 yM_block ∈ gw := gw_of (tb_4 (List.mem_of_getElem? (i := 113) rfl)) rfl
theorem wi_M_block : Cond.instanceMethod yM_block ∈ gw := gw_of (tb_4 (List.mem_of_getElem? (i := 114) rfl)) rfl
theorem we_M_block : Cond.selects RM yM_block yM_block ∈ gw := gw_of (tb_4 (List.mem_of_getElem? (i := 115) rfl)) rfl
theorem wc_M_block : Cond.code yM_block cM_block 9 (some .boolean) ∈ gw := gw_of (tb_4 (List.mem_of_getElem? (i := 116) rfl)) rfl
theorem wl_M_141 : Cond.methodLink RM 141 yM_isSeat ∈ gw := gw_of (tb_4 (List.mem_of_getElem? (i := 117) rfl)) rfl
theorem wi_M_isSeat : Cond.instanceMethod yM_isSeat ∈ gw := gw_of (tb_4 (List.mem_of_getElem? (i := 119) rfl)) rfl
theorem wc_M_isSeat : Cond.code yM_isSeat cM_isSeat 4 (some .boolean) ∈ gw := gw_of (tb_4 (List.mem_of_getElem? (i := 120) rfl)) rfl
theorem wl_L_137 : Cond.methodLink RL 137 yM_seat ∈ gw := gw_of (tb_4 (List.mem_of_getElem? (i := 121) rfl)) rfl
theorem wi_M_seat : Cond.instanceMethod yM_seat ∈ gw := gw_of (tb_4 (List.mem_of_getElem? (i := 122) rfl)) rfl
theorem we_M_seat : Cond.selects RM yM_seat yM_seat ∈ gw := gw_of (tb_4 (List.mem_of_getElem? (i := 123) rfl)) rfl
theorem wc_M_seat : Cond.code yM_seat cM_seat 6 (some .int) ∈ gw := gw_of (tb_4 (List.mem_of_getElem? (i := 124) rfl)) rfl
theorem wl_M_148 : Cond.methodLink RM 148 yM_place ∈ gw := gw_of (tb_4 (List.mem_of_getElem? (i := 125) rfl)) rfl
theorem wi_M_place : Cond.instanceMethod yM_place ∈ gw := gw_of (tb_4 (List.mem_of_getElem? (i := 127) rfl)) rfl
theorem wc_M_place : Cond.code yM_place cM_place 4 (some .int) ∈ gw := gw_of (tb_4 (List.mem_of_getElem? (i := 128) rfl)) rfl
theorem wl_M_151 : Cond.methodLink RM 151 yM_seatFor ∈ gw := gw_of (tb_4 (List.mem_of_getElem? (i := 129) rfl)) rfl
theorem wi_M_seatFor : Cond.instanceMethod yM_seatFor ∈ gw := gw_of (tb_4 (List.mem_of_getElem? (i := 131) rfl)) rfl
theorem wc_M_seatFor : Cond.code yM_seatFor cM_seatFor 10 (some .int) ∈ gw := gw_of (tb_4 (List.mem_of_getElem? (i := 132) rfl)) rfl
theorem wl_M_144 : Cond.methodLink RM 144 yM_sitsFor ∈ gw := gw_of (tb_4 (List.mem_of_getElem? (i := 133) rfl)) rfl
theorem wi_M_sitsFor : Cond.instanceMethod yM_sitsFor ∈ gw := gw_of (tb_4 (List.mem_of_getElem? (i := 135) rfl)) rfl
theorem wc_M_sitsFor : Cond.code yM_sitsFor cM_sitsFor 7 (some .boolean) ∈ gw := gw_of (tb_4 (List.mem_of_getElem? (i := 136) rfl)) rfl
theorem wl_L_140 : Cond.methodLink RL 140 yM_leave ∈ gw := gw_of (tb_4 (List.mem_of_getElem? (i := 137) rfl)) rfl
theorem wi_M_leave : Cond.instanceMethod yM_leave ∈ gw := gw_of (tb_4 (List.mem_of_getElem? (i := 138) rfl)) rfl
theorem we_M_leave : Cond.selects RM yM_leave yM_leave ∈ gw := gw_of (tb_4 (List.mem_of_getElem? (i := 139) rfl)) rfl
theorem wc_M_leave : Cond.code yM_leave cM_leave 4 (some .int) ∈ gw := gw_of (tb_4 (List.mem_of_getElem? (i := 140) rfl)) rfl
theorem wl_M_155 : Cond.methodLink RM 155 yM_told ∈ gw := gw_of (tb_4 (List.mem_of_getElem? (i := 141) rfl)) rfl
theorem ws_M_told : Cond.static yM_told ∈ gw := gw_of (tb_4 (List.mem_of_getElem? (i := 142) rfl)) rfl
theorem wc_M_told : Cond.code yM_told cM_told 1 (some .int) ∈ gw := gw_of (tb_4 (List.mem_of_getElem? (i := 143) rfl)) rfl
theorem wl_L_143 : Cond.methodLink RL 143 yM_where ∈ gw := gw_of (tb_4 (List.mem_of_getElem? (i := 144) rfl)) rfl
theorem wi_M_where : Cond.instanceMethod yM_where ∈ gw := gw_of (tb_4 (List.mem_of_getElem? (i := 145) rfl)) rfl
theorem we_M_where : Cond.selects RM yM_where yM_where ∈ gw := gw_of (tb_4 (List.mem_of_getElem? (i := 146) rfl)) rfl
theorem wc_M_where : Cond.code yM_where cM_where 3 (some .int) ∈ gw := gw_of (tb_4 (List.mem_of_getElem? (i := 147) rfl)) rfl
theorem wl_L_147 : Cond.methodLink RL 147 yM_who ∈ gw := gw_of (tb_4 (List.mem_of_getElem? (i := 148) rfl)) rfl
theorem wi_M_who : Cond.instanceMethod yM_who ∈ gw := gw_of (tb_4 (List.mem_of_getElem? (i := 149) rfl)) rfl
theorem we_M_who : Cond.selects RM yM_who yM_who ∈ gw := gw_of (tb_4 (List.mem_of_getElem? (i := 150) rfl)) rfl
theorem wc_M_who : Cond.code yM_who cM_who 5 (some .int) ∈ gw := gw_of (tb_4 (List.mem_of_getElem? (i := 151) rfl)) rfl
theorem wl_L_150 : Cond.methodLink RL 150 yM_most ∈ gw := gw_of (tb_4 (List.mem_of_getElem? (i := 152) rfl)) rfl
theorem wi_M_most : Cond.instanceMethod yM_most ∈ gw := gw_of (tb_4 (List.mem_of_getElem? (i := 153) rfl)) rfl
theorem we_M_most : Cond.selects RM yM_most yM_most ∈ gw := gw_of (tb_4 (List.mem_of_getElem? (i := 154) rfl)) rfl
theorem wc_M_most : Cond.code yM_most cM_most 4 (some .int) ∈ gw := gw_of (tb_4 (List.mem_of_getElem? (i := 155) rfl)) rfl
theorem wl_M_158 : Cond.methodLink RM 158 yM_isInvigilator ∈ gw := gw_of (tb_4 (List.mem_of_getElem? (i := 156) rfl)) rfl
theorem ws_M_isInvigilator : Cond.static yM_isInvigilator ∈ gw := gw_of (tb_4 (List.mem_of_getElem? (i := 157) rfl)) rfl
theorem wc_M_isInvigilator : Cond.code yM_isInvigilator cM_isInvigilator 1 (some .boolean) ∈ gw := gw_of (tb_4 (List.mem_of_getElem? (i := 158) rfl)) rfl
theorem wl_L_153 : Cond.methodLink RL 153 yM_own ∈ gw := gw_of (tb_4 (List.mem_of_getElem? (i := 159) rfl)) rfl
theorem wi_M_own : Cond.instanceMethod yM_own ∈ gw := gw_of (tb_4 (List.mem_of_getElem? (i := 160) rfl)) rfl
theorem we_M_own : Cond.selects RM yM_own yM_own ∈ gw := gw_of (tb_4 (List.mem_of_getElem? (i := 161) rfl)) rfl
theorem wc_M_own : Cond.code yM_own cM_own 5 (some .boolean) ∈ gw := gw_of (tb_4 (List.mem_of_getElem? (i := 162) rfl)) rfl
theorem wl_L_156 : Cond.methodLink RL 156 yM_watch ∈ gw := gw_of (tb_4 (List.mem_of_getElem? (i := 163) rfl)) rfl
theorem wi_M_watch : Cond.instanceMethod yM_watch ∈ gw := gw_of (tb_4 (List.mem_of_getElem? (i := 164) rfl)) rfl
theorem we_M_watch : Cond.selects RM yM_watch yM_watch ∈ gw := gw_of (tb_4 (List.mem_of_getElem? (i := 165) rfl)) rfl
theorem wc_M_watch : Cond.code yM_watch cM_watch 7 (some .boolean) ∈ gw := gw_of (tb_4 (List.mem_of_getElem? (i := 166) rfl)) rfl
theorem wl_M_164 : Cond.methodLink RM 164 yM_sitting ∈ gw := gw_of (tb_4 (List.mem_of_getElem? (i := 167) rfl)) rfl
theorem wi_M_sitting : Cond.instanceMethod yM_sitting ∈ gw := gw_of (tb_4 (List.mem_of_getElem? (i := 169) rfl)) rfl
theorem wc_M_sitting : Cond.code yM_sitting cM_sitting 5 (some .int) ∈ gw := gw_of (tb_4 (List.mem_of_getElem? (i := 170) rfl)) rfl
theorem wl_M_167 : Cond.methodLink RM 167 yM_mayWatch ∈ gw := gw_of (tb_4 (List.mem_of_getElem? (i := 171) rfl)) rfl
theorem wi_M_mayWatch : Cond.instanceMethod yM_mayWatch ∈ gw := gw_of (tb_4 (List.mem_of_getElem? (i := 173) rfl)) rfl
theorem wc_M_mayWatch : Cond.code yM_mayWatch cM_mayWatch 6 (some .boolean) ∈ gw := gw_of (tb_4 (List.mem_of_getElem? (i := 174) rfl)) rfl
theorem wl_M_161 : Cond.methodLink RM 161 yM_sessionsOf ∈ gw := gw_of (tb_4 (List.mem_of_getElem? (i := 175) rfl)) rfl
theorem wi_M_sessionsOf : Cond.instanceMethod yM_sessionsOf ∈ gw := gw_of (tb_4 (List.mem_of_getElem? (i := 177) rfl)) rfl
theorem wc_M_sessionsOf : Cond.code yM_sessionsOf cM_sessionsOf 6 (some .int) ∈ gw := gw_of (tb_4 (List.mem_of_getElem? (i := 178) rfl)) rfl
theorem wl_M_170 : Cond.methodLink RM 170 yM_given ∈ gw := gw_of (tb_4 (List.mem_of_getElem? (i := 179) rfl)) rfl
theorem wi_M_given : Cond.instanceMethod yM_given ∈ gw := gw_of (tb_4 (List.mem_of_getElem? (i := 181) rfl)) rfl
theorem wc_M_given : Cond.code yM_given cM_given 7 (some .boolean) ∈ gw := gw_of (tb_4 (List.mem_of_getElem? (i := 182) rfl)) rfl
theorem wl_L_160 : Cond.methodLink RL 160 yM_watcher ∈ gw := gw_of (tb_4 (List.mem_of_getElem? (i := 183) rfl)) rfl
theorem wi_M_watcher : Cond.instanceMethod yM_watcher ∈ gw := gw_of (tb_4 (List.mem_of_getElem? (i := 184) rfl)) rfl
theorem we_M_watcher : Cond.selects RM yM_watcher yM_watcher ∈ gw := gw_of (tb_4 (List.mem_of_getElem? (i := 185) rfl)) rfl
theorem wc_M_watcher : Cond.code yM_watcher cM_watcher 6 (some .int) ∈ gw := gw_of (tb_4 (List.mem_of_getElem? (i := 186) rfl)) rfl
theorem wl_L_163 : Cond.methodLink RL 163 yM_count ∈ gw := gw_of (tb_4 (List.mem_of_getElem? (i := 187) rfl)) rfl
theorem wi_M_count : Cond.instanceMethod yM_count ∈ gw := gw_of (tb_4 (List.mem_of_getElem? (i := 188) rfl)) rfl
theorem we_M_count : Cond.selects RM yM_count yM_count ∈ gw := gw_of (tb_4 (List.mem_of_getElem? (i := 189) rfl)) rfl
theorem wc_M_count : Cond.code yM_count cM_count 4 (some .int) ∈ gw := gw_of (tb_4 (List.mem_of_getElem? (i := 190) rfl)) rfl
theorem wl_M_173 : Cond.methodLink RM 173 yM_used ∈ gw := gw_of (tb_4 (List.mem_of_getElem? (i := 191) rfl)) rfl
theorem wi_M_used : Cond.instanceMethod yM_used ∈ gw := gw_of (tb_4 (List.mem_of_getElem? (i := 193) rfl)) rfl
theorem wc_M_used : Cond.code yM_used cM_used 5 (some .int) ∈ gw := gw_of (tb_4 (List.mem_of_getElem? (i := 194) rfl)) rfl
theorem wa_long : Cond.arrayClass .long ∈ gw := gw_of (tb_4 (List.mem_of_getElem? (i := 195) rfl)) rfl
theorem we_E_dropPlan : Cond.selects RE yE_dropPlan yE_dropPlan ∈ gw := sl_of (q := (yE_dropPlan, 3)) (List.mem_of_getElem? (i := 0) rfl)
theorem we_P_gatherRules : Cond.selects RP yP_gatherRules yP_gatherRules ∈ gw := sl_of (q := (yP_gatherRules, 6)) (List.mem_of_getElem? (i := 1) rfl)
theorem we_P_useSession : Cond.selects RP yP_useSession yP_useSession ∈ gw := sl_of (q := (yP_useSession, 6)) (List.mem_of_getElem? (i := 2) rfl)
theorem we_P_papersReady : Cond.selects RP yP_papersReady yP_papersReady ∈ gw := sl_of (q := (yP_papersReady, 6)) (List.mem_of_getElem? (i := 3) rfl)
theorem we_P_addMeetings : Cond.selects RP yP_addMeetings yP_addMeetings ∈ gw := sl_of (q := (yP_addMeetings, 6)) (List.mem_of_getElem? (i := 4) rfl)
theorem we_P_mayMeet : Cond.selects RP yP_mayMeet yP_mayMeet ∈ gw := sl_of (q := (yP_mayMeet, 6)) (List.mem_of_getElem? (i := 5) rfl)
theorem we_T_readPlan : Cond.selects RT yT_readPlan yT_readPlan ∈ gw := sl_of (q := (yT_readPlan, 10)) (List.mem_of_getElem? (i := 6) rfl)
theorem we_T_sessionsOf : Cond.selects RT yT_sessionsOf yT_sessionsOf ∈ gw := sl_of (q := (yT_sessionsOf, 10)) (List.mem_of_getElem? (i := 7) rfl)
theorem we_R_firstPlace : Cond.selects RR yR_firstPlace yR_firstPlace ∈ gw := sl_of (q := (yR_firstPlace, 7)) (List.mem_of_getElem? (i := 9) rfl)
theorem we_R_hasNeighbour : Cond.selects RR yR_hasNeighbour yR_hasNeighbour ∈ gw := sl_of (q := (yR_hasNeighbour, 7)) (List.mem_of_getElem? (i := 10) rfl)
theorem we_R_isWritten : Cond.selects RR yR_isWritten yR_isWritten ∈ gw := sl_of (q := (yR_isWritten, 7)) (List.mem_of_getElem? (i := 11) rfl)
theorem we_O_thoseWithTime : Cond.selects RO yO_thoseWithTime yO_thoseWithTime ∈ gw := sl_of (q := (yO_thoseWithTime, 5)) (List.mem_of_getElem? (i := 12) rfl)
theorem we_O_watchesOf : Cond.selects RO yO_watchesOf yO_watchesOf ∈ gw := sl_of (q := (yO_watchesOf, 5)) (List.mem_of_getElem? (i := 13) rfl)
theorem we_O_thoseWithout : Cond.selects RO yO_thoseWithout yO_thoseWithout ∈ gw := sl_of (q := (yO_thoseWithout, 5)) (List.mem_of_getElem? (i := 14) rfl)
theorem we_O_areEnough : Cond.selects RO yO_areEnough yO_areEnough ∈ gw := sl_of (q := (yO_areEnough, 5)) (List.mem_of_getElem? (i := 15) rfl)
theorem we_O_staffRoom : Cond.selects RO yO_staffRoom yO_staffRoom ∈ gw := sl_of (q := (yO_staffRoom, 5)) (List.mem_of_getElem? (i := 16) rfl)
theorem we_M_goes : Cond.selects RM yM_goes yM_goes ∈ gw := sl_of (q := (yM_goes, 25)) (List.mem_of_getElem? (i := 17) rfl)
theorem we_M_forget : Cond.selects RM yM_forget yM_forget ∈ gw := sl_of (q := (yM_forget, 25)) (List.mem_of_getElem? (i := 18) rfl)
theorem we_M_common : Cond.selects RM yM_common yM_common ∈ gw := sl_of (q := (yM_common, 25)) (List.mem_of_getElem? (i := 19) rfl)
theorem we_M_held : Cond.selects RM yM_held yM_held ∈ gw := sl_of (q := (yM_held, 25)) (List.mem_of_getElem? (i := 20) rfl)
theorem we_M_fits : Cond.selects RM yM_fits yM_fits ∈ gw := sl_of (q := (yM_fits, 25)) (List.mem_of_getElem? (i := 21) rfl)
theorem we_M_least : Cond.selects RM yM_least yM_least ∈ gw := sl_of (q := (yM_least, 25)) (List.mem_of_getElem? (i := 22) rfl)
theorem we_M_keeps : Cond.selects RM yM_keeps yM_keeps ∈ gw := sl_of (q := (yM_keeps, 25)) (List.mem_of_getElem? (i := 23) rfl)
theorem we_M_follows : Cond.selects RM yM_follows yM_follows ∈ gw := sl_of (q := (yM_follows, 25)) (List.mem_of_getElem? (i := 24) rfl)
theorem we_M_paperOf : Cond.selects RM yM_paperOf yM_paperOf ∈ gw := sl_of (q := (yM_paperOf, 25)) (List.mem_of_getElem? (i := 25) rfl)
theorem we_M_isSeat : Cond.selects RM yM_isSeat yM_isSeat ∈ gw := sl_of (q := (yM_isSeat, 25)) (List.mem_of_getElem? (i := 26) rfl)
theorem we_M_place : Cond.selects RM yM_place yM_place ∈ gw := sl_of (q := (yM_place, 25)) (List.mem_of_getElem? (i := 27) rfl)
theorem we_M_seatFor : Cond.selects RM yM_seatFor yM_seatFor ∈ gw := sl_of (q := (yM_seatFor, 25)) (List.mem_of_getElem? (i := 28) rfl)
theorem we_M_sitsFor : Cond.selects RM yM_sitsFor yM_sitsFor ∈ gw := sl_of (q := (yM_sitsFor, 25)) (List.mem_of_getElem? (i := 29) rfl)
theorem we_M_sitting : Cond.selects RM yM_sitting yM_sitting ∈ gw := sl_of (q := (yM_sitting, 25)) (List.mem_of_getElem? (i := 30) rfl)
theorem we_M_mayWatch : Cond.selects RM yM_mayWatch yM_mayWatch ∈ gw := sl_of (q := (yM_mayWatch, 25)) (List.mem_of_getElem? (i := 31) rfl)
theorem we_M_sessionsOf : Cond.selects RM yM_sessionsOf yM_sessionsOf ∈ gw := sl_of (q := (yM_sessionsOf, 25)) (List.mem_of_getElem? (i := 32) rfl)
theorem we_M_given : Cond.selects RM yM_given yM_given ∈ gw := sl_of (q := (yM_given, 25)) (List.mem_of_getElem? (i := 33) rfl)
theorem we_M_used : Cond.selects RM yM_used yM_used ∈ gw := sl_of (q := (yM_used, 25)) (List.mem_of_getElem? (i := 34) rfl)
theorem wm_E_25 : (RE, 25, yO_init) ∈ nl_all := List.mem_of_getElem? (i := 0) rfl
theorem wm_T_61 : (RT, 61, yE_with) ∈ nl_all := List.mem_of_getElem? (i := 1) rfl
theorem wm_T_57 : (RT, 57, yE_has) ∈ nl_all := List.mem_of_getElem? (i := 2) rfl
theorem wm_P_71 : (RP, 71, yE_with) ∈ nl_all := List.mem_of_getElem? (i := 3) rfl
theorem wm_R_46 : (RR, 46, yE_isBelow) ∈ nl_all := List.mem_of_getElem? (i := 4) rfl
theorem wm_R_54 : (RR, 54, yE_placeAt) ∈ nl_all := List.mem_of_getElem? (i := 5) rfl
theorem wm_O_70 : (RO, 70, yE_has) ∈ nl_all := List.mem_of_getElem? (i := 6) rfl
theorem wm_O_66 : (RO, 66, yE_with) ∈ nl_all := List.mem_of_getElem? (i := 7) rfl
def SX : List Kd := [(3, 4, [.inl 1, .inl 18, .inl 44]), (3, 3, [.inl 2, .inl 3, .inl 4, .inl 5, .inl 6, .inl 10, .inl 11, .inr 7, .inr 8, .inl 12]), (0, 9, []), (0, 6, []), (0, 40, []), (1, 40, []), (2, 3, []), (0, 9, []), (0, 9, []), (0, 9, []), (0, 9, []), (0, 9, []), (3, 0, [.inl 13, .inl 14, .inl 15, .inl 16, .inl 17, .inr 5]), (0, 512, []), (0, 512, []), (0, 512, []), (0, 512, []), (0, 9, []), (3, 1, [.inl 19, .inl 20, .inl 21, .inl 22, .inl 23, .inl 30, .inl 37]), (0, 4, []), (0, 4, []), (1, 4, []), (1, 144, []), (2, 6, []), (0, 144, []), (0, 144, []), (0, 144, []), (0, 144, []), (0, 144, []), (0, 144, []), (2, 6, []), (0, 144, []), (0, 144, []), (0, 144, []), (0, 144, []), (0, 144, []), (0, 144, []), (2, 6, []), (0, 40, []), (0, 40, []), (0, 40, []), (0, 40, []), (0, 40, []), (0, 40, []), (3, 2, [.inl 45, .inl 46, .inl 47, .inl 54, .inl 55]), (0, 10, []), (0, 10, []), (2, 6, []), (0, 4, []), (0, 4, []), (0, 4, []), (0, 4, []), (0, 4, []), (0, 4, []), (0, 4, []), (0, 4, [])]
theorem sX_len : SX.length = 56 := rfl
theorem sX_0 : SX[0]? = some (3, 4, [.inl 1, .inl 18, .inl 44]) := rfl
theorem sX_1 : SX[1]? = some (3, 3, [.inl 2, .inl 3, .inl 4, .inl 5, .inl 6, .inl 10, .inl 11, .inr 7, .inr 8, .inl 12]) := rfl
theorem sX_2 : SX[2]? = some (0, 9, []) := rfl
theorem sX_3 : SX[3]? = some (0, 6, []) := rfl
theorem sX_4 : SX[4]? = some (0, 40, []) := rfl
theorem sX_5 : SX[5]? = some (1, 40, []) := rfl
theorem sX_6 : SX[6]? = some (2, 3, []) := rfl
theorem sX_7 : SX[7]? = some (0, 9, []) := rfl
theorem sX_8 : SX[8]? = some (0, 9, []) := rfl
theorem sX_9 : SX[9]? = some (0, 9, []) := rfl
theorem sX_10 : SX[10]? = some (0, 9, []) := rfl
theorem sX_11 : SX[11]? = some (0, 9, []) := rfl
theorem sX_12 : SX[12]? = some (3, 0, [.inl 13, .inl 14, .inl 15, .inl 16, .inl 17, .inr 5]) := rfl
theorem sX_13 : SX[13]? = some (0, 512, []) := rfl
theorem sX_14 : SX[14]? = some (0, 512, []) := rfl
theorem sX_15 : SX[15]? = some (0, 512, []) := rfl
theorem sX_16 : SX[16]? = some (0, 512, []) := rfl
theorem sX_17 : SX[17]? = some (0, 9, []) := rfl
theorem sX_18 : SX[18]? = some (3, 1, [.inl 19, .inl 20, .inl 21, .inl 22, .inl 23, .inl 30, .inl 37]) := rfl
theorem sX_19 : SX[19]? = some (0, 4, []) := rfl
theorem sX_20 : SX[20]? = some (0, 4, []) := rfl
theorem sX_21 : SX[21]? = some (1, 4, []) := rfl
theorem sX_22 : SX[22]? = some (1, 144, []) := rfl
theorem sX_23 : SX[23]? = some (2, 6, []) := rfl
theorem sX_24 : SX[24]? = some (0, 144, []) := rfl
theorem sX_25 : SX[25]? = some (0, 144, []) := rfl
theorem sX_26 : SX[26]? = some (0, 144, []) := rfl
theorem sX_27 : SX[27]? = some (0, 144, []) := rfl
theorem sX_28 : SX[28]? = some (0, 144, []) := rfl
theorem sX_29 : SX[29]? = some (0, 144, []) := rfl
theorem sX_30 : SX[30]? = some (2, 6, []) := rfl
theorem sX_31 : SX[31]? = some (0, 144, []) := rfl
theorem sX_32 : SX[32]? = some (0, 144, []) := rfl
theorem sX_33 : SX[33]? = some (0, 144, []) := rfl
theorem sX_34 : SX[34]? = some (0, 144, []) := rfl
theorem sX_35 : SX[35]? = some (0, 144, []) := rfl
theorem sX_36 : SX[36]? = some (0, 144, []) := rfl
theorem sX_37 : SX[37]? = some (2, 6, []) := rfl
theorem sX_38 : SX[38]? = some (0, 40, []) := rfl
theorem sX_39 : SX[39]? = some (0, 40, []) := rfl
theorem sX_40 : SX[40]? = some (0, 40, []) := rfl
theorem sX_41 : SX[41]? = some (0, 40, []) := rfl
theorem sX_42 : SX[42]? = some (0, 40, []) := rfl
theorem sX_43 : SX[43]? = some (0, 40, []) := rfl
theorem sX_44 : SX[44]? = some (3, 2, [.inl 45, .inl 46, .inl 47, .inl 54, .inl 55]) := rfl
theorem sX_45 : SX[45]? = some (0, 10, []) := rfl
theorem sX_46 : SX[46]? = some (0, 10, []) := rfl
theorem sX_47 : SX[47]? = some (2, 6, []) := rfl
theorem sX_48 : SX[48]? = some (0, 4, []) := rfl
theorem sX_49 : SX[49]? = some (0, 4, []) := rfl
theorem sX_50 : SX[50]? = some (0, 4, []) := rfl
theorem sX_51 : SX[51]? = some (0, 4, []) := rfl
theorem sX_52 : SX[52]? = some (0, 4, []) := rfl
theorem sX_53 : SX[53]? = some (0, 4, []) := rfl
theorem sX_54 : SX[54]? = some (0, 4, []) := rfl
theorem sX_55 : SX[55]? = some (0, 4, []) := rfl
theorem fX_1_7 : fldI [.inl 2, .inl 3, .inl 4, .inl 5, .inl 6, .inl 10, .inl 11, .inr 7, .inr 8, .inl 12] 7 := ⟨rfl, fun j hj h => hj (by have hl := (List.getElem?_eq_some_iff.mp h).1; revert h hl; revert j; intro j hj; exact (show ∀ j, j < 10 → [(.inl 2 : Nat ⊕ Nat), (.inl 3 : Nat ⊕ Nat), (.inl 4 : Nat ⊕ Nat), (.inl 5 : Nat ⊕ Nat), (.inl 6 : Nat ⊕ Nat), (.inl 10 : Nat ⊕ Nat), (.inl 11 : Nat ⊕ Nat), (.inr 7 : Nat ⊕ Nat), (.inr 8 : Nat ⊕ Nat), (.inl 12 : Nat ⊕ Nat)][j]? = some (.inr 7) → j = 7 by decide +kernel) j |> fun q h hl => q hl h)⟩
theorem fX_1_8 : fldI [.inl 2, .inl 3, .inl 4, .inl 5, .inl 6, .inl 10, .inl 11, .inr 7, .inr 8, .inl 12] 8 := ⟨rfl, fun j hj h => hj (by have hl := (List.getElem?_eq_some_iff.mp h).1; revert h hl; revert j; intro j hj; exact (show ∀ j, j < 10 → [(.inl 2 : Nat ⊕ Nat), (.inl 3 : Nat ⊕ Nat), (.inl 4 : Nat ⊕ Nat), (.inl 5 : Nat ⊕ Nat), (.inl 6 : Nat ⊕ Nat), (.inl 10 : Nat ⊕ Nat), (.inl 11 : Nat ⊕ Nat), (.inr 7 : Nat ⊕ Nat), (.inr 8 : Nat ⊕ Nat), (.inl 12 : Nat ⊕ Nat)][j]? = some (.inr 8) → j = 8 by decide +kernel) j |> fun q h hl => q hl h)⟩
theorem sX_q6 : ∀ j, j < 3 → SX[6 + 1 + j]? = some (0, 9, [])
  | 0, _ => rfl
  | 1, _ => rfl
  | 2, _ => rfl
  | n + 3, h => absurd h (by omega)
theorem sX_r6 {i : Int32} (h : vp_in i 3) : SX[6 + 1 + i.toNatClampNeg]? = some (0, 9, []) := sX_q6 _ (Nat.not_le.mp fun q => h (Or.inr q))
theorem fX_12_5 : fldI [.inl 13, .inl 14, .inl 15, .inl 16, .inl 17, .inr 5] 5 := ⟨rfl, fun j hj h => hj (by have hl := (List.getElem?_eq_some_iff.mp h).1; revert h hl; revert j; intro j hj; exact (show ∀ j, j < 6 → [(.inl 13 : Nat ⊕ Nat), (.inl 14 : Nat ⊕ Nat), (.inl 15 : Nat ⊕ Nat), (.inl 16 : Nat ⊕ Nat), (.inl 17 : Nat ⊕ Nat), (.inr 5 : Nat ⊕ Nat)][j]? = some (.inr 5) → j = 5 by decide +kernel) j |> fun q h hl => q hl h)⟩
theorem sX_q23 : ∀ j, j < 6 → SX[23 + 1 + j]? = some (0, 144, [])
  | 0, _ => rfl
  | 1, _ => rfl
  | 2, _ => rfl
  | 3, _ => rfl
  | 4, _ => rfl
  | 5, _ => rfl
  | n + 6, h => absurd h (by omega)
theorem sX_r23 {i : Int32} (h : vp_in i 6) : SX[23 + 1 + i.toNatClampNeg]? = some (0, 144, []) := sX_q23 _ (Nat.not_le.mp fun q => h (Or.inr q))
theorem sX_q30 : ∀ j, j < 6 → SX[30 + 1 + j]? = some (0, 144, [])
  | 0, _ => rfl
  | 1, _ => rfl
  | 2, _ => rfl
  | 3, _ => rfl
  | 4, _ => rfl
  | 5, _ => rfl
  | n + 6, h => absurd h (by omega)
theorem sX_r30 {i : Int32} (h : vp_in i 6) : SX[30 + 1 + i.toNatClampNeg]? = some (0, 144, []) := sX_q30 _ (Nat.not_le.mp fun q => h (Or.inr q))
theorem sX_q37 : ∀ j, j < 6 → SX[37 + 1 + j]? = some (0, 40, [])
  | 0, _ => rfl
  | 1, _ => rfl
  | 2, _ => rfl
  | 3, _ => rfl
  | 4, _ => rfl
  | 5, _ => rfl
  | n + 6, h => absurd h (by omega)
theorem sX_r37 {i : Int32} (h : vp_in i 6) : SX[37 + 1 + i.toNatClampNeg]? = some (0, 40, []) := sX_q37 _ (Nat.not_le.mp fun q => h (Or.inr q))
theorem sX_q47 : ∀ j, j < 6 → SX[47 + 1 + j]? = some (0, 4, [])
  | 0, _ => rfl
  | 1, _ => rfl
  | 2, _ => rfl
  | 3, _ => rfl
  | 4, _ => rfl
  | 5, _ => rfl
  | n + 6, h => absurd h (by omega)
theorem sX_r47 {i : Int32} (h : vp_in i 6) : SX[47 + 1 + i.toNatClampNeg]? = some (0, 4, []) := sX_q47 _ (Nat.not_le.mp fun q => h (Or.inr q))
def SM : List Kd := [(3, 5, [.inr 0, .inl 1, .inl 2, .inl 3, .inl 4, .inl 5, .inl 6, .inr 7, .inl 7, .inl 8, .inl 9, .inl 10, .inl 11, .inl 12, .inl 13, .inl 14, .inl 15, .inl 16, .inl 17, .inl 18, .inl 19, .inl 20, .inl 21, .inl 22, .inl 23]), (0, 9, []), (0, 6, []), (0, 9, []), (1, 360, []), (1, 40, []), (1, 243, []), (0, 9, []), (0, 3584, []), (0, 9, []), (1, 3072, []), (1, 512, []), (1, 81, []), (0, 4, []), (0, 4, []), (1, 4, []), (1, 144, []), (0, 864, []), (0, 864, []), (0, 10, []), (1, 90, []), (1, 240, []), (0, 41, []), (1, 41984, [])]
theorem sM_len : SM.length = 24 := rfl
theorem sM_0 : SM[0]? = some (3, 5, [.inr 0, .inl 1, .inl 2, .inl 3, .inl 4, .inl 5, .inl 6, .inr 7, .inl 7, .inl 8, .inl 9, .inl 10, .inl 11, .inl 12, .inl 13, .inl 14, .inl 15, .inl 16, .inl 17, .inl 18, .inl 19, .inl 20, .inl 21, .inl 22, .inl 23]) := rfl
theorem sM_1 : SM[1]? = some (0, 9, []) := rfl
theorem sM_2 : SM[2]? = some (0, 6, []) := rfl
theorem sM_3 : SM[3]? = some (0, 9, []) := rfl
theorem sM_4 : SM[4]? = some (1, 360, []) := rfl
theorem sM_5 : SM[5]? = some (1, 40, []) := rfl
theorem sM_6 : SM[6]? = some (1, 243, []) := rfl
theorem sM_7 : SM[7]? = some (0, 9, []) := rfl
theorem sM_8 : SM[8]? = some (0, 3584, []) := rfl
theorem sM_9 : SM[9]? = some (0, 9, []) := rfl
theorem sM_10 : SM[10]? = some (1, 3072, []) := rfl
theorem sM_11 : SM[11]? = some (1, 512, []) := rfl
theorem sM_12 : SM[12]? = some (1, 81, []) := rfl
theorem sM_13 : SM[13]? = some (0, 4, []) := rfl
theorem sM_14 : SM[14]? = some (0, 4, []) := rfl
theorem sM_15 : SM[15]? = some (1, 4, []) := rfl
theorem sM_16 : SM[16]? = some (1, 144, []) := rfl
theorem sM_17 : SM[17]? = some (0, 864, []) := rfl
theorem sM_18 : SM[18]? = some (0, 864, []) := rfl
theorem sM_19 : SM[19]? = some (0, 10, []) := rfl
theorem sM_20 : SM[20]? = some (1, 90, []) := rfl
theorem sM_21 : SM[21]? = some (1, 240, []) := rfl
theorem sM_22 : SM[22]? = some (0, 41, []) := rfl
theorem sM_23 : SM[23]? = some (1, 41984, []) := rfl
theorem fM_0_0 : fldI [.inr 0, .inl 1, .inl 2, .inl 3, .inl 4, .inl 5, .inl 6, .inr 7, .inl 7, .inl 8, .inl 9, .inl 10, .inl 11, .inl 12, .inl 13, .inl 14, .inl 15, .inl 16, .inl 17, .inl 18, .inl 19, .inl 20, .inl 21, .inl 22, .inl 23] 0 := ⟨rfl, fun j hj h => hj (by have hl := (List.getElem?_eq_some_iff.mp h).1; revert h hl; revert j; intro j hj; exact (show ∀ j, j < 25 → [(.inr 0 : Nat ⊕ Nat), (.inl 1 : Nat ⊕ Nat), (.inl 2 : Nat ⊕ Nat), (.inl 3 : Nat ⊕ Nat), (.inl 4 : Nat ⊕ Nat), (.inl 5 : Nat ⊕ Nat), (.inl 6 : Nat ⊕ Nat), (.inr 7 : Nat ⊕ Nat), (.inl 7 : Nat ⊕ Nat), (.inl 8 : Nat ⊕ Nat), (.inl 9 : Nat ⊕ Nat), (.inl 10 : Nat ⊕ Nat), (.inl 11 : Nat ⊕ Nat), (.inl 12 : Nat ⊕ Nat), (.inl 13 : Nat ⊕ Nat), (.inl 14 : Nat ⊕ Nat), (.inl 15 : Nat ⊕ Nat), (.inl 16 : Nat ⊕ Nat), (.inl 17 : Nat ⊕ Nat), (.inl 18 : Nat ⊕ Nat), (.inl 19 : Nat ⊕ Nat), (.inl 20 : Nat ⊕ Nat), (.inl 21 : Nat ⊕ Nat), (.inl 22 : Nat ⊕ Nat), (.inl 23 : Nat ⊕ Nat)][j]? = some (.inr 0) → j = 0 by decide +kernel) j |> fun q h hl => q hl h)⟩
theorem fM_0_7 : fldI [.inr 0, .inl 1, .inl 2, .inl 3, .inl 4, .inl 5, .inl 6, .inr 7, .inl 7, .inl 8, .inl 9, .inl 10, .inl 11, .inl 12, .inl 13, .inl 14, .inl 15, .inl 16, .inl 17, .inl 18, .inl 19, .inl 20, .inl 21, .inl 22, .inl 23] 7 := ⟨rfl, fun j hj h => hj (by have hl := (List.getElem?_eq_some_iff.mp h).1; revert h hl; revert j; intro j hj; exact (show ∀ j, j < 25 → [(.inr 0 : Nat ⊕ Nat), (.inl 1 : Nat ⊕ Nat), (.inl 2 : Nat ⊕ Nat), (.inl 3 : Nat ⊕ Nat), (.inl 4 : Nat ⊕ Nat), (.inl 5 : Nat ⊕ Nat), (.inl 6 : Nat ⊕ Nat), (.inr 7 : Nat ⊕ Nat), (.inl 7 : Nat ⊕ Nat), (.inl 8 : Nat ⊕ Nat), (.inl 9 : Nat ⊕ Nat), (.inl 10 : Nat ⊕ Nat), (.inl 11 : Nat ⊕ Nat), (.inl 12 : Nat ⊕ Nat), (.inl 13 : Nat ⊕ Nat), (.inl 14 : Nat ⊕ Nat), (.inl 15 : Nat ⊕ Nat), (.inl 16 : Nat ⊕ Nat), (.inl 17 : Nat ⊕ Nat), (.inl 18 : Nat ⊕ Nat), (.inl 19 : Nat ⊕ Nat), (.inl 20 : Nat ⊕ Nat), (.inl 21 : Nat ⊕ Nat), (.inl 22 : Nat ⊕ Nat), (.inl 23 : Nat ⊕ Nat)][j]? = some (.inr 7) → j = 7 by decide +kernel) j |> fun q h hl => q hl h)⟩
