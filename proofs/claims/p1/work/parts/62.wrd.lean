/-! ===== printed by program: the words of all methods, and that they are among the claim's ===== -/
def cfd (r : Nat) : String × (String × (String × Bool)) := (clsT.getD (r / 1024) ("", fdT [], 0)).2.1 (r % 1024 / 4)
def stn (g : Nat) : String × (String × String) := bif Nat.beq g 1000 then ("PostHouse$Bars", "DIVISOR", "[I") else bif Nat.beq g 1001 then ("PostHouse$Bars", "LOGS", "[I") else bif Nat.beq g 1002 then ("PostHouse$Bars", "POWERS", "[I") else bif Nat.beq g 1003 then ("PostHouse$Log", "ARGUMENTS", "[I") else bif Nat.beq g 1004 then ("PostHouse$Sheet", "SYMBOLS", "[I") else ("", "", "")
def wf_fl (q : Nat × (Nat × Nat)) : Cond := .fieldLink (cnm q.1) q.2.1 (cfd q.2.2).1 (cfd q.2.2).2.1 (cfd q.2.2).2.2.1
def wf_lk (q : Nat × (Nat × Nat)) : Cond := .methodLink (cnm q.1) q.2.1 (namT q.2.2)
noncomputable def wf_code (q : Nat) : Cond := .code (namT q) (bysT q) (datT q).1 (rtyT q)
def wf_stat (q : Nat) : Cond := .static (namT q)
def wf_inst (q : Nat) : Cond := .instanceMethod (namT q)
def wf_sel (q : Nat) : Cond := .selects (cnm (oclT q)) (namT q) (namT q)
def wf_ini (q : Nat) : Cond := .initialized (cnm q)
def wf_ins (q : Nat) : Cond := .instantiable (cnm q) (clsT.getD q ("", fdT [], 0)).2.2
def wf_clk (q : Nat × (Nat × Nat)) : Cond := .classLink (cnm q.1) q.2.1 (cnm q.2.2)
def wf_clm (q : Nat × Nat) : Cond := .classLink (cnm q.1) q.2 "[[I"
def wf_cst (q : Nat × (Nat × Int)) : Cond := .constant (cnm q.1) q.2.1 (cI q.2.2)
def wf_csl (q : Nat × (Nat × Int)) : Cond := .constantLong (cnm q.1) q.2.1 (cL q.2.2)
def wf_arr (q : FieldType) : Cond := .arrayClass q
def wf_oi (q : Nat × Nat) : Cond := .methodLink (cnm q.1) q.2 objectInit
def wf_ac (q : Nat × Nat) : Cond := .methodLink (cnm q.1) q.2 arraycopyName
def wf_sl (q : Nat × (Nat × Nat)) : Cond := .fieldLink (cnm q.1) q.2.1 (stn q.2.2).1 (stn q.2.2).2.1 (stn q.2.2).2.2
def wf_ly (q : Nat × Nat) : Cond := u_lay (cnm q.1) (clsT.getD q.1 ("", fdT [], 0)).2.1 q.2
theorem w_pos {α : Type} {f : α → Cond} {ws : List α} {big : List Cond} {ps : List Nat} (h : ws.map f = ps.filterMap (fun i => big[i]?)) : ∀ q ∈ ws, f q ∈ big := fun q hq => by
  have hw : f q ∈ ws.map f := List.mem_map_of_mem hq
  rw [h] at hw
  obtain ⟨i, -, hi⟩ := List.mem_filterMap.mp hw
  exact List.mem_of_getElem? hi
theorem tq_mem : (∀ w ∈ tables_1_1, w ∈ lw_tbl) ∧ (∀ w ∈ tables_1_2, w ∈ lw_tbl) ∧ (∀ w ∈ tables_1_3, w ∈ lw_tbl) ∧ (∀ w ∈ tables_1_4, w ∈ lw_tbl) ∧ (∀ w ∈ tables_1_5, w ∈ lw_tbl) ∧ (∀ w ∈ tables_1_6, w ∈ lw_tbl) ∧ (∀ w ∈ tables_1_7, w ∈ lw_tbl) ∧ (∀ w ∈ tables_1_8, w ∈ lw_tbl) ∧ (∀ w ∈ tables_1_9, w ∈ lw_tbl) ∧ (∀ w ∈ tables_1_10, w ∈ lw_tbl) ∧ (∀ w ∈ tables_1_11, w ∈ lw_tbl) ∧ (∀ w ∈ tables_1_12, w ∈ lw_tbl) ∧ (∀ w ∈ tables_1_13, w ∈ lw_tbl) ∧ (∀ w ∈ tables_1_14, w ∈ lw_tbl) ∧ (∀ w ∈ tables_1_15, w ∈ lw_tbl) ∧ (∀ w ∈ tables_1_16, w ∈ lw_tbl) := by
  unfold lw_tbl tables_1
  refine ⟨fun w h => ?_, fun w h => ?_, fun w h => ?_, fun w h => ?_, fun w h => ?_, fun w h => ?_, fun w h => ?_, fun w h => ?_, fun w h => ?_, fun w h => ?_, fun w h => ?_, fun w h => ?_, fun w h => ?_, fun w h => ?_, fun w h => ?_, fun w h => ?_⟩ <;> simp only [List.mem_append, h, true_or, or_true]
noncomputable def tq_1 : List Cond := [
  (Jvm.Cond.initialized "PostHouseLaw"),
  wf_ini 11,
  wf_ini 10,
  wf_ini 0,
  wf_ini 6,
  wf_ini 2,
  wf_ini 16,
  wf_ini 1,
  wf_ini 9,
  wf_ini 7,
  wf_ini 3,
  wf_ini 5,
  wf_ini 8,
  wf_ini 4,
  wf_ini 12,
  (Jvm.Cond.initialized "java/lang/Throwable"),
  (Jvm.Cond.initialized "java/lang/Exception"),
  (Jvm.Cond.initialized "java/lang/RuntimeException"),
  (Jvm.Cond.initialized "java/lang/IllegalStateException"),
  (Jvm.Cond.initialized "java/lang/IllegalArgumentException"),
  wf_ini 15,
  .initialized "java/lang/System",
  (Jvm.Cond.initialized "java/lang/String"),
  (Jvm.Cond.initialized "java/lang/StringLatin1"),
  (Jvm.Cond.initialized "java/lang/StringUTF16"),
  (Jvm.Cond.initialized "jdk/internal/util/Preconditions"),
  (Jvm.Cond.initialized "java/lang/Character"),
  wf_ini 14,
  (Jvm.Cond.initialized "java/lang/IndexOutOfBoundsException"),
  wf_clk (13, 8, 11),
  wf_ins 11,
  wf_lk (13, 31, 230),
  wf_inst 230,
  wf_code 230,
  wf_oi (11, 1),
  .instanceMethod objectInit,
  .code objectInit ⟨#[0xb1]⟩ 1 none,
  wf_clk (11, 7, 10),
  wf_ins 10,
  wf_lk (11, 9, 221),
  wf_inst 221,
  wf_code 221,
  wf_oi (10, 3),
  wf_fl (10, 11, 10243),
  wf_fl (6, 88, 10243),
  wf_fl (11, 105, 10244),
  wf_fl (10, 19, 10244),
  wf_fl (9, 70, 10244),
  wf_fl (6, 63, 10244),
  wf_fl (1, 64, 10248),
  wf_fl (10, 23, 10248),
  wf_fl (7, 100, 10248),
  wf_fl (10, 15, 10255),
  wf_fl (1, 88, 10255),
  wf_fl (7, 124, 10255),
  wf_fl (10, 26, 10256),
  wf_fl (1, 102, 10261),
  wf_fl (10, 56, 10261),
  wf_ly (10, 0),
  (Jvm.Cond.soleField "PostHouse$Tape" "bytes"),
  wf_ly (10, 1),
  (Jvm.Cond.soleField "PostHouse$Tape" "length"),
  wf_ly (10, 2),
  (Jvm.Cond.soleField "PostHouse$Tape" "at"),
  wf_ly (10, 3),
  (Jvm.Cond.soleField "PostHouse$Tape" "numbers"),
  wf_ly (10, 4),
  (Jvm.Cond.soleField "PostHouse$Tape" "numbersRead"),
  wf_ly (10, 5),
  (Jvm.Cond.soleField "PostHouse$Tape" "name"),
  (Jvm.Cond.superclass "PostHouse$Tape" "java/lang/Object"),
  wf_arr .byte,
  wf_arr .int,
  wf_clk (11, 19, 0),
  wf_ins 0,
  wf_lk (11, 21, 0),
  wf_inst 0,
  wf_code 0,
  wf_oi (0, 3),
  wf_fl (0, 11, 3),
  wf_fl (11, 276, 3),
  wf_fl (0, 15, 4),
  wf_fl (11, 290, 4),
  wf_ly (0, 0),
  (Jvm.Cond.soleField "PostHouse$Bars" "row"),
  wf_ly (0, 1),
  (Jvm.Cond.soleField "PostHouse$Bars" "mended"),
  (Jvm.Cond.superclass "PostHouse$Bars" "java/lang/Object"),
  wf_clk (11, 26, 6),
  wf_ins 6,
  wf_lk (11, 28, 121),
  wf_inst 121,
  wf_code 121,
  wf_oi (6, 5),
  wf_cst (6, 11, 38400),
  wf_cst (6, 23, 37200),
  wf_fl (6, 35, 6147),
  wf_fl (6, 12, 6151),
  wf_fl (6, 16, 6155),
  wf_fl (6, 20, 6159),
  wf_fl (6, 75, 6160),
  wf_fl (11, 147, 6160),
  wf_fl (6, 24, 6167),
  wf_fl (6, 68, 6168),
  wf_fl (11, 231, 6168),
  wf_fl (6, 81, 6172),
  wf_fl (11, 228, 6172),
  wf_fl (6, 140, 6176),
  wf_fl (6, 42, 6182),
  wf_fl (11, 129, 6182),
  wf_fl (6, 27, 6184),
  wf_fl (6, 114, 6188),
  wf_fl (6, 46, 6194),
  wf_fl (6, 49, 6196),
  wf_fl (6, 39, 6200),
  wf_fl (11, 367, 6200),
  wf_fl (6, 31, 6207),
  wf_fl (11, 364, 6207),
  wf_ly (6, 0),
  (Jvm.Cond.soleField "PostHouse$Log" "tape"),
  wf_ly (6, 1),
  (Jvm.Cond.soleField "PostHouse$Log" "disk"),
  wf_ly (6, 2),
  (Jvm.Cond.soleField "PostHouse$Log" "torn"),
  wf_ly (6, 3),
  (Jvm.Cond.soleField "PostHouse$Log" "fresh"),
  wf_ly (6, 4),
  (Jvm.Cond.soleField "PostHouse$Log" "used"),
  wf_ly (6, 5),
  (Jvm.Cond.soleField "PostHouse$Log" "waiting"),
  wf_ly (6, 6),
  (Jvm.Cond.soleField "PostHouse$Log" "waitingBytes"),
  wf_ly (6, 7),
  (Jvm.Cond.soleField "PostHouse$Log" "waitingRecords"),
  wf_ly (6, 8),
  (Jvm.Cond.soleField "PostHouse$Log" "readTo"),
  wf_ly (6, 9),
  (Jvm.Cond.soleField "PostHouse$Log" "down"),
  wf_ly (6, 10),
  (Jvm.Cond.soleField "PostHouse$Log" "blocksTillCut"),
  wf_ly (6, 11),
  (Jvm.Cond.soleField "PostHouse$Log" "tear"),
  wf_ly (6, 12),
  (Jvm.Cond.soleField "PostHouse$Log" "again"),
  wf_ly (6, 13),
  (Jvm.Cond.soleField "PostHouse$Log" "doneAgain"),
  wf_ly (6, 14),
  (Jvm.Cond.soleField "PostHouse$Log" "number"),
  wf_ly (6, 15),
  (Jvm.Cond.soleField "PostHouse$Log" "args"),
  (Jvm.Cond.superclass "PostHouse$Log" "java/lang/Object"),
  wf_arr .boolean,
  wf_clk (11, 35, 2),
  wf_ins 2,
  wf_lk (11, 37, 39),
  wf_inst 39,
  wf_code 39,
  wf_oi (2, 3),
  wf_clm (2, 11),
  (Jvm.Cond.arrayOver (Jvm.ClassFile.FieldType.array Jvm.ClassFile.FieldType.int)),
  wf_lk (2, 43, 40),
  wf_inst 40,
  wf_sel 40,
  wf_code 40,
  wf_lk (2, 56, 537),
  wf_stat 537,
  wf_code 537,
  wf_fl (2, 39, 2051),
  wf_fl (2, 46, 2052),
  wf_fl (4, 76, 2052),
  wf_fl (11, 350, 2052),
  wf_fl (2, 50, 2056),
  wf_fl (11, 222, 2056),
  wf_fl (2, 13, 2063),
  wf_fl (2, 18, 2067),
  wf_fl (2, 22, 2071),
  wf_fl (2, 25, 2075),
  wf_fl (2, 53, 2076),
  wf_fl (11, 225, 2076),
  wf_fl (2, 28, 2083),
  wf_fl (2, 33, 2087),
  wf_fl (2, 36, 2091),
  wf_ly (2, 0),
  (Jvm.Cond.soleField "PostHouse$Chronicle" "log"),
  wf_ly (2, 1),
  (Jvm.Cond.soleField "PostHouse$Chronicle" "time"),
  wf_ly (2, 2),
  (Jvm.Cond.soleField "PostHouse$Chronicle" "events"),
  wf_ly (2, 3),
  (Jvm.Cond.soleField "PostHouse$Chronicle" "event"),
  wf_ly (2, 4),
  (Jvm.Cond.soleField "PostHouse$Chronicle" "firstOf"),
  wf_ly (2, 5),
  (Jvm.Cond.soleField "PostHouse$Chronicle" "lastOf"),
  wf_ly (2, 6),
  (Jvm.Cond.soleField "PostHouse$Chronicle" "behind"),
  wf_ly (2, 7),
  (Jvm.Cond.soleField "PostHouse$Chronicle" "notices"),
  wf_ly (2, 8),
  (Jvm.Cond.soleField "PostHouse$Chronicle" "notice"),
  wf_ly (2, 9),
  (Jvm.Cond.soleField "PostHouse$Chronicle" "wishes"),
  wf_ly (2, 10),
  (Jvm.Cond.soleField "PostHouse$Chronicle" "offset"),
  (Jvm.Cond.superclass "PostHouse$Chronicle" "java/lang/Object"),
  wf_clk (11, 44, 1),
  wf_ins 1,
  wf_lk (11, 46, 10),
  wf_inst 10,
  wf_code 10,
  wf_oi (1, 3),
  wf_clm (1, 15),
  wf_fl (1, 36, 1027),
  wf_fl (1, 40, 1031),
  wf_fl (1, 52, 1032),
  wf_fl (11, 191, 1032),
  wf_fl (4, 117, 1032),
  wf_fl (1, 11, 1039),
  wf_fl (1, 55, 1040),
  wf_fl (11, 194, 1040),
  wf_fl (9, 194, 1040),
  wf_fl (1, 17, 1047),
  wf_fl (1, 20, 1051),
  wf_fl (1, 58, 1052),
  wf_fl (11, 197, 1052),
  wf_fl (1, 24, 1059),
  wf_fl (1, 61, 1060),
  wf_fl (11, 200, 1060),
  wf_fl (1, 27, 1067),
  wf_fl (1, 48, 1068),
  wf_fl (11, 203, 1068),
  wf_fl (1, 30, 1075),
  wf_fl (1, 33, 1079),
  wf_fl (1, 172, 1080),
  wf_fl (11, 241, 1084),
  wf_fl (3, 133, 1084),
  wf_fl (1, 175, 1084),
  wf_ly (1, 0),
  (Jvm.Cond.soleField "PostHouse$Book" "log"),
  wf_ly (1, 1)]
set_option maxRecDepth 100000 in
theorem tq_ok_1 : tables_1_1 = tq_1 := rfl
def wl_ini_1 : List (Nat) := [
  11, 10, 0, 6, 2, 16, 1, 9, 7, 3, 5, 8,
  4, 12, 15, 14]
set_option maxRecDepth 100000 in
theorem wk_ini_1 : wl_ini_1.map wf_ini = ([
  1, 2, 3, 4, 5, 6, 7, 8, 9, 10, 11, 12, 13, 14, 20, 27] : List Nat).filterMap (fun i => tq_1[i]?) := rfl
theorem wi_ini_1 : ∀ q ∈ wl_ini_1, wf_ini q ∈ lw_tbl := fun q h => tq_mem.1 _ (by rw [tq_ok_1]; exact w_pos wk_ini_1 q h)
def wl_clk_1 : List (Nat × (Nat × Nat)) := [
  (13, 8, 11), (11, 7, 10), (11, 19, 0), (11, 26, 6), (11, 35, 2), (11, 44, 1)]
set_option maxRecDepth 100000 in
theorem wk_clk_1 : wl_clk_1.map wf_clk = ([
  29, 37, 73, 88, 152, 205] : List Nat).filterMap (fun i => tq_1[i]?) := rfl
theorem wi_clk_1 : ∀ q ∈ wl_clk_1, wf_clk q ∈ lw_tbl := fun q h => tq_mem.1 _ (by rw [tq_ok_1]; exact w_pos wk_clk_1 q h)
def wl_ins_1 : List (Nat) := [
  11, 10, 0, 6, 2, 1]
set_option maxRecDepth 100000 in
theorem wk_ins_1 : wl_ins_1.map wf_ins = ([
  30, 38, 74, 89, 153, 206] : List Nat).filterMap (fun i => tq_1[i]?) := rfl
theorem wi_ins_1 : ∀ q ∈ wl_ins_1, wf_ins q ∈ lw_tbl := fun q h => tq_mem.1 _ (by rw [tq_ok_1]; exact w_pos wk_ins_1 q h)
def wl_lk_1 : List (Nat × (Nat × Nat)) := [
  (13, 31, 230), (11, 9, 221), (11, 21, 0), (11, 28, 121), (11, 37, 39), (2, 43, 40), (2, 56, 537), (11, 46, 10)]
set_option maxRecDepth 100000 in
theorem wk_lk_1 : wl_lk_1.map wf_lk = ([
  31, 39, 75, 90, 154, 160, 164, 207] : List Nat).filterMap (fun i => tq_1[i]?) := rfl
theorem wi_lk_1 : ∀ q ∈ wl_lk_1, wf_lk q ∈ lw_tbl := fun q h => tq_mem.1 _ (by rw [tq_ok_1]; exact w_pos wk_lk_1 q h)
def wl_inst_1 : List (Nat) := [
  230, 221, 0, 121, 39, 40, 10]
set_option maxRecDepth 100000 in
theorem wk_inst_1 : wl_inst_1.map wf_inst = ([
  32, 40, 76, 91, 155, 161, 208] : List Nat).filterMap (fun i => tq_1[i]?) := rfl
theorem wi_inst_1 : ∀ q ∈ wl_inst_1, wf_inst q ∈ lw_tbl := fun q h => tq_mem.1 _ (by rw [tq_ok_1]; exact w_pos wk_inst_1 q h)
def wl_code_1 : List (Nat) := [
  230, 221, 0, 121, 39, 40, 537, 10]
set_option maxRecDepth 100000 in
theorem wk_code_1 : wl_code_1.map wf_code = ([
  33, 41, 77, 92, 156, 163, 166, 209] : List Nat).filterMap (fun i => tq_1[i]?) := rfl
theorem wi_code_1 : ∀ q ∈ wl_code_1, wf_code q ∈ lw_tbl := fun q h => tq_mem.1 _ (by rw [tq_ok_1]; exact w_pos wk_code_1 q h)
def wl_oi_1 : List (Nat × Nat) := [
  (11, 1), (10, 3), (0, 3), (6, 5), (2, 3), (1, 3)]
set_option maxRecDepth 100000 in
theorem wk_oi_1 : wl_oi_1.map wf_oi = ([
  34, 42, 78, 93, 157, 210] : List Nat).filterMap (fun i => tq_1[i]?) := rfl
theorem wi_oi_1 : ∀ q ∈ wl_oi_1, wf_oi q ∈ lw_tbl := fun q h => tq_mem.1 _ (by rw [tq_ok_1]; exact w_pos wk_oi_1 q h)
def wl_fl_1 : List (Nat × (Nat × Nat)) := [
  (10, 11, 10243), (6, 88, 10243), (11, 105, 10244), (10, 19, 10244), (9, 70, 10244), (6, 63, 10244), (1, 64, 10248), (10, 23, 10248), (7, 100, 10248), (10, 15, 10255), (1, 88, 10255), (7, 124, 10255),
  (10, 26, 10256), (1, 102, 10261), (10, 56, 10261), (0, 11, 3), (11, 276, 3), (0, 15, 4), (11, 290, 4), (6, 35, 6147), (6, 12, 6151), (6, 16, 6155), (6, 20, 6159), (6, 75, 6160),
  (11, 147, 6160), (6, 24, 6167), (6, 68, 6168), (11, 231, 6168), (6, 81, 6172), (11, 228, 6172), (6, 140, 6176), (6, 42, 6182), (11, 129, 6182), (6, 27, 6184), (6, 114, 6188), (6, 46, 6194),
  (6, 49, 6196), (6, 39, 6200), (11, 367, 6200), (6, 31, 6207), (11, 364, 6207), (2, 39, 2051), (2, 46, 2052), (4, 76, 2052), (11, 350, 2052), (2, 50, 2056), (11, 222, 2056), (2, 13, 2063),
  (2, 18, 2067), (2, 22, 2071), (2, 25, 2075), (2, 53, 2076), (11, 225, 2076), (2, 28, 2083), (2, 33, 2087), (2, 36, 2091), (1, 36, 1027), (1, 40, 1031), (1, 52, 1032), (11, 191, 1032),
  (4, 117, 1032), (1, 11, 1039), (1, 55, 1040), (11, 194, 1040), (9, 194, 1040), (1, 17, 1047), (1, 20, 1051), (1, 58, 1052), (11, 197, 1052), (1, 24, 1059), (1, 61, 1060), (11, 200, 1060),
  (1, 27, 1067), (1, 48, 1068), (11, 203, 1068), (1, 30, 1075), (1, 33, 1079), (1, 172, 1080), (11, 241, 1084), (3, 133, 1084), (1, 175, 1084)]
set_option maxRecDepth 100000 in
theorem wk_fl_1 : wl_fl_1.map wf_fl = ([
  43, 44, 45, 46, 47, 48, 49, 50, 51, 52, 53, 54, 55, 56, 57, 79, 80, 81, 82, 96, 97, 98, 99, 100,
  101, 102, 103, 104, 105, 106, 107, 108, 109, 110, 111, 112, 113, 114, 115, 116, 117, 167, 168, 169, 170, 171, 172, 173,
  174, 175, 176, 177, 178, 179, 180, 181, 212, 213, 214, 215, 216, 217, 218, 219, 220, 221, 222, 223, 224, 225, 226, 227,
  228, 229, 230, 231, 232, 233, 234, 235, 236] : List Nat).filterMap (fun i => tq_1[i]?) := rfl
theorem wi_fl_1 : ∀ q ∈ wl_fl_1, wf_fl q ∈ lw_tbl := fun q h => tq_mem.1 _ (by rw [tq_ok_1]; exact w_pos wk_fl_1 q h)
def wl_ly_1 : List (Nat × Nat) := [
  (10, 0), (10, 1), (10, 2), (10, 3), (10, 4), (10, 5), (0, 0), (0, 1), (6, 0), (6, 1), (6, 2), (6, 3),
  (6, 4), (6, 5), (6, 6), (6, 7), (6, 8), (6, 9), (6, 10), (6, 11), (6, 12), (6, 13), (6, 14), (6, 15),
  (2, 0), (2, 1), (2, 2), (2, 3), (2, 4), (2, 5), (2, 6), (2, 7), (2, 8), (2, 9), (2, 10), (1, 0),
  (1, 1)]
set_option maxRecDepth 100000 in
theorem wk_ly_1 : wl_ly_1.map wf_ly = ([
  58, 60, 62, 64, 66, 68, 83, 85, 118, 120, 122, 124, 126, 128, 130, 132, 134, 136, 138, 140, 142, 144, 146, 148,
  182, 184, 186, 188, 190, 192, 194, 196, 198, 200, 202, 237, 239] : List Nat).filterMap (fun i => tq_1[i]?) := rfl
theorem wi_ly_1 : ∀ q ∈ wl_ly_1, wf_ly q ∈ lw_tbl := fun q h => tq_mem.1 _ (by rw [tq_ok_1]; exact w_pos wk_ly_1 q h)
def wl_arr_1 : List (FieldType) := [
  .byte, .int, .boolean]
set_option maxRecDepth 100000 in
theorem wk_arr_1 : wl_arr_1.map wf_arr = ([
  71, 72, 151] : List Nat).filterMap (fun i => tq_1[i]?) := rfl
theorem wi_arr_1 : ∀ q ∈ wl_arr_1, wf_arr q ∈ lw_tbl := fun q h => tq_mem.1 _ (by rw [tq_ok_1]; exact w_pos wk_arr_1 q h)
def wl_cst_1 : List (Nat × (Nat × Int)) := [
  (6, 11, 38400), (6, 23, 37200)]
set_option maxRecDepth 100000 in
theorem wk_cst_1 : wl_cst_1.map wf_cst = ([
  94, 95] : List Nat).filterMap (fun i => tq_1[i]?) := rfl
theorem wi_cst_1 : ∀ q ∈ wl_cst_1, wf_cst q ∈ lw_tbl := fun q h => tq_mem.1 _ (by rw [tq_ok_1]; exact w_pos wk_cst_1 q h)
def wl_clm_1 : List (Nat × Nat) := [
  (2, 11), (1, 15)]
set_option maxRecDepth 100000 in
theorem wk_clm_1 : wl_clm_1.map wf_clm = ([
  158, 211] : List Nat).filterMap (fun i => tq_1[i]?) := rfl
theorem wi_clm_1 : ∀ q ∈ wl_clm_1, wf_clm q ∈ lw_tbl := fun q h => tq_mem.1 _ (by rw [tq_ok_1]; exact w_pos wk_clm_1 q h)
def wl_sel_1 : List (Nat) := [
  40]
set_option maxRecDepth 100000 in
theorem wk_sel_1 : wl_sel_1.map wf_sel = ([
  162] : List Nat).filterMap (fun i => tq_1[i]?) := rfl
theorem wi_sel_1 : ∀ q ∈ wl_sel_1, wf_sel q ∈ lw_tbl := fun q h => tq_mem.1 _ (by rw [tq_ok_1]; exact w_pos wk_sel_1 q h)
def wl_stat_1 : List (Nat) := [
  537]
set_option maxRecDepth 100000 in
theorem wk_stat_1 : wl_stat_1.map wf_stat = ([
  165] : List Nat).filterMap (fun i => tq_1[i]?) := rfl
theorem wi_stat_1 : ∀ q ∈ wl_stat_1, wf_stat q ∈ lw_tbl := fun q h => tq_mem.1 _ (by rw [tq_ok_1]; exact w_pos wk_stat_1 q h)
noncomputable def tq_2 : List Cond := [
  (Jvm.Cond.soleField "PostHouse$Book" "chronicle"),
  wf_ly (1, 2),
  (Jvm.Cond.soleField "PostHouse$Book" "places"),
  wf_ly (1, 3),
  (Jvm.Cond.soleField "PostHouse$Book" "code"),
  wf_ly (1, 4),
  (Jvm.Cond.soleField "PostHouse$Book" "streets"),
  wf_ly (1, 5),
  (Jvm.Cond.soleField "PostHouse$Book" "street"),
  wf_ly (1, 6),
  (Jvm.Cond.soleField "PostHouse$Book" "streetName"),
  wf_ly (1, 7),
  (Jvm.Cond.soleField "PostHouse$Book" "ranges"),
  wf_ly (1, 8),
  (Jvm.Cond.soleField "PostHouse$Book" "range"),
  wf_ly (1, 9),
  (Jvm.Cond.soleField "PostHouse$Book" "points"),
  wf_ly (1, 10),
  (Jvm.Cond.soleField "PostHouse$Book" "pointFact"),
  wf_ly (1, 11),
  (Jvm.Cond.soleField "PostHouse$Book" "orders"),
  wf_ly (1, 12),
  (Jvm.Cond.soleField "PostHouse$Book" "order"),
  wf_ly (1, 13),
  (Jvm.Cond.soleField "PostHouse$Book" "askedIn"),
  wf_ly (1, 14),
  (Jvm.Cond.soleField "PostHouse$Book" "asking"),
  wf_ly (1, 15),
  (Jvm.Cond.soleField "PostHouse$Book" "lastAsked"),
  (Jvm.Cond.superclass "PostHouse$Book" "java/lang/Object"),
  wf_arr .long,
  wf_clk (11, 53, 9),
  wf_ins 9,
  wf_lk (11, 55, 195),
  wf_inst 195,
  wf_code 195,
  wf_oi (9, 3),
  wf_clm (9, 21),
  wf_lk (9, 52, 196),
  wf_inst 196,
  wf_sel 196,
  wf_code 196,
  wf_fl (9, 44, 9219),
  wf_fl (9, 48, 9223),
  wf_fl (9, 55, 9226),
  wf_fl (3, 96, 9226),
  wf_fl (9, 59, 9228),
  wf_fl (3, 102, 9228),
  wf_fl (11, 257, 9228),
  wf_fl (9, 79, 9232),
  wf_fl (9, 82, 9236),
  wf_fl (9, 11, 9243),
  wf_fl (9, 17, 9247),
  wf_fl (9, 125, 9248),
  wf_fl (9, 118, 9252),
  wf_fl (9, 23, 9259),
  wf_fl (9, 26, 9263),
  wf_fl (9, 29, 9267),
  wf_fl (9, 63, 9268),
  wf_fl (9, 32, 9275),
  wf_fl (9, 35, 9279),
  wf_fl (9, 38, 9283),
  wf_fl (9, 41, 9287),
  wf_ly (9, 0),
  (Jvm.Cond.soleField "PostHouse$Sheet" "log"),
  wf_ly (9, 1),
  (Jvm.Cond.soleField "PostHouse$Sheet" "book"),
  wf_ly (9, 2),
  (Jvm.Cond.soleField "PostHouse$Sheet" "given"),
  wf_ly (9, 3),
  (Jvm.Cond.soleField "PostHouse$Sheet" "point"),
  wf_ly (9, 4),
  (Jvm.Cond.soleField "PostHouse$Sheet" "width"),
  wf_ly (9, 5),
  (Jvm.Cond.soleField "PostHouse$Sheet" "height"),
  wf_ly (9, 6),
  (Jvm.Cond.soleField "PostHouse$Sheet" "shade"),
  wf_ly (9, 7),
  (Jvm.Cond.soleField "PostHouse$Sheet" "queue"),
  wf_ly (9, 8),
  (Jvm.Cond.soleField "PostHouse$Sheet" "queued"),
  wf_ly (9, 9),
  (Jvm.Cond.soleField "PostHouse$Sheet" "parts"),
  wf_ly (9, 10),
  (Jvm.Cond.soleField "PostHouse$Sheet" "part"),
  wf_ly (9, 11),
  (Jvm.Cond.soleField "PostHouse$Sheet" "lineOfPart"),
  wf_ly (9, 12),
  (Jvm.Cond.soleField "PostHouse$Sheet" "order"),
  wf_ly (9, 13),
  (Jvm.Cond.soleField "PostHouse$Sheet" "lines"),
  wf_ly (9, 14),
  (Jvm.Cond.soleField "PostHouse$Sheet" "line"),
  wf_ly (9, 15),
  (Jvm.Cond.soleField "PostHouse$Sheet" "box"),
  wf_ly (9, 16),
  (Jvm.Cond.soleField "PostHouse$Sheet" "name"),
  wf_ly (9, 17),
  (Jvm.Cond.soleField "PostHouse$Sheet" "changeRow"),
  (Jvm.Cond.superclass "PostHouse$Sheet" "java/lang/Object"),
  wf_clk (11, 62, 7),
  wf_ins 7,
  wf_lk (11, 64, 145),
  wf_inst 145,
  wf_code 145,
  wf_oi (7, 5),
  wf_clm (7, 19),
  wf_fl (7, 33, 7171),
  wf_fl (7, 37, 7175),
  wf_fl (7, 41, 7179),
  wf_fl (7, 45, 7180),
  wf_fl (11, 215, 7180),
  wf_fl (7, 11, 7187),
  wf_fl (7, 15, 7191),
  wf_fl (3, 178, 7191),
  wf_fl (11, 322, 7191),
  wf_fl (7, 49, 7192),
  wf_fl (11, 218, 7192),
  wf_fl (7, 21, 7199),
  wf_fl (7, 52, 7200),
  wf_fl (11, 221, 7200),
  wf_fl (7, 55, 7204),
  wf_fl (7, 24, 7211),
  wf_fl (11, 337, 7211),
  wf_fl (7, 58, 7212),
  wf_fl (7, 27, 7219),
  wf_fl (7, 97, 7220),
  wf_fl (7, 30, 7227),
  wf_ly (7, 0),
  (Jvm.Cond.soleField "PostHouse$Money" "log"),
  wf_ly (7, 1),
  (Jvm.Cond.soleField "PostHouse$Money" "chronicle"),
  wf_ly (7, 2),
  (Jvm.Cond.soleField "PostHouse$Money" "book"),
  wf_ly (7, 3),
  (Jvm.Cond.soleField "PostHouse$Money" "customers"),
  wf_ly (7, 4),
  (Jvm.Cond.soleField "PostHouse$Money" "home"),
  wf_ly (7, 5),
  (Jvm.Cond.soleField "PostHouse$Money" "balance"),
  wf_ly (7, 6),
  (Jvm.Cond.soleField "PostHouse$Money" "bookings"),
  wf_ly (7, 7),
  (Jvm.Cond.soleField "PostHouse$Money" "booking"),
  wf_ly (7, 8),
  (Jvm.Cond.soleField "PostHouse$Money" "orders"),
  wf_ly (7, 9),
  (Jvm.Cond.soleField "PostHouse$Money" "openOrders"),
  wf_ly (7, 10),
  (Jvm.Cond.soleField "PostHouse$Money" "order"),
  wf_ly (7, 11),
  (Jvm.Cond.soleField "PostHouse$Money" "rows"),
  wf_ly (7, 12),
  (Jvm.Cond.soleField "PostHouse$Money" "row"),
  wf_ly (7, 13),
  (Jvm.Cond.soleField "PostHouse$Money" "newRows"),
  wf_ly (7, 14),
  (Jvm.Cond.soleField "PostHouse$Money" "newRow"),
  (Jvm.Cond.superclass "PostHouse$Money" "java/lang/Object"),
  wf_clk (11, 71, 3),
  wf_ins 3,
  wf_lk (11, 73, 49),
  wf_inst 49,
  wf_code 49,
  wf_oi (3, 3),
  wf_clm (3, 11),
  wf_fl (3, 20, 3075),
  wf_fl (3, 24, 3079),
  wf_fl (3, 28, 3083),
  wf_fl (3, 32, 3087),
  wf_fl (3, 36, 3091),
  wf_fl (3, 40, 3092),
  wf_fl (11, 206, 3092),
  wf_fl (5, 102, 3092),
  wf_fl (8, 173, 3092),
  wf_fl (3, 44, 3096),
  wf_fl (3, 13, 3103),
  wf_fl (5, 78, 3103),
  wf_fl (4, 98, 3103),
  wf_fl (8, 178, 3103),
  wf_fl (3, 16, 3107),
  wf_fl (5, 99, 3107),
  wf_fl (4, 141, 3107),
  wf_fl (8, 201, 3107),
  wf_ly (3, 0),
  (Jvm.Cond.soleField "PostHouse$Items" "log"),
  wf_ly (3, 1),
  (Jvm.Cond.soleField "PostHouse$Items" "chronicle"),
  wf_ly (3, 2),
  (Jvm.Cond.soleField "PostHouse$Items" "book"),
  wf_ly (3, 3),
  (Jvm.Cond.soleField "PostHouse$Items" "sheet"),
  wf_ly (3, 4),
  (Jvm.Cond.soleField "PostHouse$Items" "money"),
  wf_ly (3, 5),
  (Jvm.Cond.soleField "PostHouse$Items" "count"),
  wf_ly (3, 6),
  (Jvm.Cond.soleField "PostHouse$Items" "arrivals"),
  wf_ly (3, 7),
  (Jvm.Cond.soleField "PostHouse$Items" "fact"),
  wf_ly (3, 8),
  (Jvm.Cond.soleField "PostHouse$Items" "seen"),
  (Jvm.Cond.superclass "PostHouse$Items" "java/lang/Object"),
  wf_clk (11, 80, 5),
  wf_ins 5,
  wf_lk (11, 82, 108),
  wf_inst 108,
  wf_code 108,
  wf_oi (5, 3),
  wf_clm (5, 21),
  wf_fl (5, 26, 5123),
  wf_fl (5, 30, 5127),
  wf_fl (5, 34, 5131),
  wf_fl (5, 38, 5132),
  wf_fl (11, 214, 5132),
  wf_fl (5, 11, 5139),
  wf_fl (5, 15, 5143),
  wf_fl (5, 18, 5147),
  wf_fl (5, 23, 5151),
  wf_ly (5, 0),
  (Jvm.Cond.soleField "PostHouse$Lockers" "log"),
  wf_ly (5, 1),
  (Jvm.Cond.soleField "PostHouse$Lockers" "book"),
  wf_ly (5, 2),
  (Jvm.Cond.soleField "PostHouse$Lockers" "items"),
  wf_ly (5, 3),
  (Jvm.Cond.soleField "PostHouse$Lockers" "count"),
  wf_ly (5, 4),
  (Jvm.Cond.soleField "PostHouse$Lockers" "place"),
  wf_ly (5, 5),
  (Jvm.Cond.soleField "PostHouse$Lockers" "boxes"),
  wf_ly (5, 6),
  (Jvm.Cond.soleField "PostHouse$Lockers" "wrongKeys"),
  wf_ly (5, 7),
  (Jvm.Cond.soleField "PostHouse$Lockers" "box"),
  (Jvm.Cond.superclass "PostHouse$Lockers" "java/lang/Object"),
  wf_clk (11, 89, 8),
  wf_ins 8,
  wf_lk (11, 91, 166),
  wf_inst 166]
set_option maxRecDepth 100000 in
theorem tq_ok_2 : tables_1_2 = tq_2 := rfl
def wl_ly_2 : List (Nat × Nat) := [
  (1, 2), (1, 3), (1, 4), (1, 5), (1, 6), (1, 7), (1, 8), (1, 9), (1, 10), (1, 11), (1, 12), (1, 13),
  (1, 14), (1, 15), (9, 0), (9, 1), (9, 2), (9, 3), (9, 4), (9, 5), (9, 6), (9, 7), (9, 8), (9, 9),
  (9, 10), (9, 11), (9, 12), (9, 13), (9, 14), (9, 15), (9, 16), (9, 17), (7, 0), (7, 1), (7, 2), (7, 3),
  (7, 4), (7, 5), (7, 6), (7, 7), (7, 8), (7, 9), (7, 10), (7, 11), (7, 12), (7, 13), (7, 14), (3, 0),
  (3, 1), (3, 2), (3, 3), (3, 4), (3, 5), (3, 6), (3, 7), (3, 8), (5, 0), (5, 1), (5, 2), (5, 3),
  (5, 4), (5, 5), (5, 6), (5, 7)]
set_option maxRecDepth 100000 in
theorem wk_ly_2 : wl_ly_2.map wf_ly = ([
  1, 3, 5, 7, 9, 11, 13, 15, 17, 19, 21, 23, 25, 27, 63, 65, 67, 69, 71, 73, 75, 77, 79, 81,
  83, 85, 87, 89, 91, 93, 95, 97, 128, 130, 132, 134, 136, 138, 140, 142, 144, 146, 148, 150, 152, 154, 156, 184,
  186, 188, 190, 192, 194, 196, 198, 200, 219, 221, 223, 225, 227, 229, 231, 233] : List Nat).filterMap (fun i => tq_2[i]?) := rfl
theorem wi_ly_2 : ∀ q ∈ wl_ly_2, wf_ly q ∈ lw_tbl := fun q h => tq_mem.2.1 _ (by rw [tq_ok_2]; exact w_pos wk_ly_2 q h)
def wl_arr_2 : List (FieldType) := [
  .long]
set_option maxRecDepth 100000 in
theorem wk_arr_2 : wl_arr_2.map wf_arr = ([
  30] : List Nat).filterMap (fun i => tq_2[i]?) := rfl
theorem wi_arr_2 : ∀ q ∈ wl_arr_2, wf_arr q ∈ lw_tbl := fun q h => tq_mem.2.1 _ (by rw [tq_ok_2]; exact w_pos wk_arr_2 q h)
def wl_clk_2 : List (Nat × (Nat × Nat)) := [
  (11, 53, 9), (11, 62, 7), (11, 71, 3), (11, 80, 5), (11, 89, 8)]
set_option maxRecDepth 100000 in
theorem wk_clk_2 : wl_clk_2.map wf_clk = ([
  31, 100, 159, 203, 236] : List Nat).filterMap (fun i => tq_2[i]?) := rfl
theorem wi_clk_2 : ∀ q ∈ wl_clk_2, wf_clk q ∈ lw_tbl := fun q h => tq_mem.2.1 _ (by rw [tq_ok_2]; exact w_pos wk_clk_2 q h)
def wl_ins_2 : List (Nat) := [
  9, 7, 3, 5, 8]
set_option maxRecDepth 100000 in
theorem wk_ins_2 : wl_ins_2.map wf_ins = ([
  32, 101, 160, 204, 237] : List Nat).filterMap (fun i => tq_2[i]?) := rfl
theorem wi_ins_2 : ∀ q ∈ wl_ins_2, wf_ins q ∈ lw_tbl := fun q h => tq_mem.2.1 _ (by rw [tq_ok_2]; exact w_pos wk_ins_2 q h)
def wl_lk_2 : List (Nat × (Nat × Nat)) := [
  (11, 55, 195), (9, 52, 196), (11, 64, 145), (11, 73, 49), (11, 82, 108), (11, 91, 166)]
set_option maxRecDepth 100000 in
theorem wk_lk_2 : wl_lk_2.map wf_lk = ([
  33, 38, 102, 161, 205, 238] : List Nat).filterMap (fun i => tq_2[i]?) := rfl
theorem wi_lk_2 : ∀ q ∈ wl_lk_2, wf_lk q ∈ lw_tbl := fun q h => tq_mem.2.1 _ (by rw [tq_ok_2]; exact w_pos wk_lk_2 q h)
def wl_inst_2 : List (Nat) := [
  195, 196, 145, 49, 108, 166]
set_option maxRecDepth 100000 in
theorem wk_inst_2 : wl_inst_2.map wf_inst = ([
  34, 39, 103, 162, 206, 239] : List Nat).filterMap (fun i => tq_2[i]?) := rfl
theorem wi_inst_2 : ∀ q ∈ wl_inst_2, wf_inst q ∈ lw_tbl := fun q h => tq_mem.2.1 _ (by rw [tq_ok_2]; exact w_pos wk_inst_2 q h)
def wl_code_2 : List (Nat) := [
  195, 196, 145, 49, 108]
set_option maxRecDepth 100000 in
theorem wk_code_2 : wl_code_2.map wf_code = ([
  35, 41, 104, 163, 207] : List Nat).filterMap (fun i => tq_2[i]?) := rfl
theorem wi_code_2 : ∀ q ∈ wl_code_2, wf_code q ∈ lw_tbl := fun q h => tq_mem.2.1 _ (by rw [tq_ok_2]; exact w_pos wk_code_2 q h)
def wl_oi_2 : List (Nat × Nat) := [
  (9, 3), (7, 5), (3, 3), (5, 3)]
set_option maxRecDepth 100000 in
theorem wk_oi_2 : wl_oi_2.map wf_oi = ([
  36, 105, 164, 208] : List Nat).filterMap (fun i => tq_2[i]?) := rfl
theorem wi_oi_2 : ∀ q ∈ wl_oi_2, wf_oi q ∈ lw_tbl := fun q h => tq_mem.2.1 _ (by rw [tq_ok_2]; exact w_pos wk_oi_2 q h)
def wl_clm_2 : List (Nat × Nat) := [
  (9, 21), (7, 19), (3, 11), (5, 21)]
set_option maxRecDepth 100000 in
theorem wk_clm_2 : wl_clm_2.map wf_clm = ([
  37, 106, 165, 209] : List Nat).filterMap (fun i => tq_2[i]?) := rfl
theorem wi_clm_2 : ∀ q ∈ wl_clm_2, wf_clm q ∈ lw_tbl := fun q h => tq_mem.2.1 _ (by rw [tq_ok_2]; exact w_pos wk_clm_2 q h)
def wl_sel_2 : List (Nat) := [
  196]
set_option maxRecDepth 100000 in
theorem wk_sel_2 : wl_sel_2.map wf_sel = ([
  40] : List Nat).filterMap (fun i => tq_2[i]?) := rfl
theorem wi_sel_2 : ∀ q ∈ wl_sel_2, wf_sel q ∈ lw_tbl := fun q h => tq_mem.2.1 _ (by rw [tq_ok_2]; exact w_pos wk_sel_2 q h)
def wl_fl_2 : List (Nat × (Nat × Nat)) := [
  (9, 44, 9219), (9, 48, 9223), (9, 55, 9226), (3, 96, 9226), (9, 59, 9228), (3, 102, 9228), (11, 257, 9228), (9, 79, 9232), (9, 82, 9236), (9, 11, 9243), (9, 17, 9247), (9, 125, 9248),
  (9, 118, 9252), (9, 23, 9259), (9, 26, 9263), (9, 29, 9267), (9, 63, 9268), (9, 32, 9275), (9, 35, 9279), (9, 38, 9283), (9, 41, 9287), (7, 33, 7171), (7, 37, 7175), (7, 41, 7179),
  (7, 45, 7180), (11, 215, 7180), (7, 11, 7187), (7, 15, 7191), (3, 178, 7191), (11, 322, 7191), (7, 49, 7192), (11, 218, 7192), (7, 21, 7199), (7, 52, 7200), (11, 221, 7200), (7, 55, 7204),
  (7, 24, 7211), (11, 337, 7211), (7, 58, 7212), (7, 27, 7219), (7, 97, 7220), (7, 30, 7227), (3, 20, 3075), (3, 24, 3079), (3, 28, 3083), (3, 32, 3087), (3, 36, 3091), (3, 40, 3092),
  (11, 206, 3092), (5, 102, 3092), (8, 173, 3092), (3, 44, 3096), (3, 13, 3103), (5, 78, 3103), (4, 98, 3103), (8, 178, 3103), (3, 16, 3107), (5, 99, 3107), (4, 141, 3107), (8, 201, 3107),
  (5, 26, 5123), (5, 30, 5127), (5, 34, 5131), (5, 38, 5132), (11, 214, 5132), (5, 11, 5139), (5, 15, 5143), (5, 18, 5147), (5, 23, 5151)]
set_option maxRecDepth 100000 in
theorem wk_fl_2 : wl_fl_2.map wf_fl = ([
  42, 43, 44, 45, 46, 47, 48, 49, 50, 51, 52, 53, 54, 55, 56, 57, 58, 59, 60, 61, 62, 107, 108, 109,
  110, 111, 112, 113, 114, 115, 116, 117, 118, 119, 120, 121, 122, 123, 124, 125, 126, 127, 166, 167, 168, 169, 170, 171,
  172, 173, 174, 175, 176, 177, 178, 179, 180, 181, 182, 183, 210, 211, 212, 213, 214, 215, 216, 217, 218] : List Nat).filterMap (fun i => tq_2[i]?) := rfl
theorem wi_fl_2 : ∀ q ∈ wl_fl_2, wf_fl q ∈ lw_tbl := fun q h => tq_mem.2.1 _ (by rw [tq_ok_2]; exact w_pos wk_fl_2 q h)
noncomputable def tq_3 : List Cond := [
  wf_code 166,
  wf_oi (8, 3),
  wf_clm (8, 11),
  wf_lk (8, 70, 167),
  wf_inst 167,
  wf_sel 167,
  wf_code 167,
  wf_lk (8, 83, 537),
  wf_fl (8, 58, 8195),
  wf_fl (8, 62, 8199),
  wf_fl (8, 66, 8203),
  wf_fl (8, 73, 8204),
  wf_fl (11, 209, 8204),
  wf_fl (8, 13, 8211),
  wf_fl (8, 16, 8215),
  wf_fl (8, 21, 8219),
  wf_fl (8, 27, 8223),
  wf_fl (8, 30, 8227),
  wf_fl (8, 77, 8228),
  wf_fl (11, 297, 8228),
  wf_fl (8, 80, 8232),
  wf_fl (11, 300, 8232),
  wf_fl (8, 33, 8239),
  wf_fl (11, 303, 8239),
  wf_fl (8, 164, 8240),
  wf_fl (8, 36, 8247),
  wf_fl (8, 39, 8251),
  wf_fl (8, 42, 8255),
  wf_fl (8, 45, 8259),
  wf_fl (8, 49, 8263),
  wf_fl (8, 52, 8267),
  wf_fl (8, 55, 8271),
  wf_ly (8, 0),
  (Jvm.Cond.soleField "PostHouse$Rounds" "log"),
  wf_ly (8, 1),
  (Jvm.Cond.soleField "PostHouse$Rounds" "book"),
  wf_ly (8, 2),
  (Jvm.Cond.soleField "PostHouse$Rounds" "items"),
  wf_ly (8, 3),
  (Jvm.Cond.soleField "PostHouse$Rounds" "count"),
  wf_ly (8, 4),
  (Jvm.Cond.soleField "PostHouse$Rounds" "fact"),
  wf_ly (8, 5),
  (Jvm.Cond.soleField "PostHouse$Rounds" "stop"),
  wf_ly (8, 6),
  (Jvm.Cond.soleField "PostHouse$Rounds" "roundOfPoint"),
  wf_ly (8, 7),
  (Jvm.Cond.soleField "PostHouse$Rounds" "sorted"),
  wf_ly (8, 8),
  (Jvm.Cond.soleField "PostHouse$Rounds" "machine"),
  wf_ly (8, 9),
  (Jvm.Cond.soleField "PostHouse$Rounds" "passCount"),
  wf_ly (8, 10),
  (Jvm.Cond.soleField "PostHouse$Rounds" "strayCount"),
  wf_ly (8, 11),
  (Jvm.Cond.soleField "PostHouse$Rounds" "strays"),
  wf_ly (8, 12),
  (Jvm.Cond.soleField "PostHouse$Rounds" "fedCount"),
  wf_ly (8, 13),
  (Jvm.Cond.soleField "PostHouse$Rounds" "fed"),
  wf_ly (8, 14),
  (Jvm.Cond.soleField "PostHouse$Rounds" "spare"),
  wf_ly (8, 15),
  (Jvm.Cond.soleField "PostHouse$Rounds" "sorting"),
  wf_ly (8, 16),
  (Jvm.Cond.soleField "PostHouse$Rounds" "gateOpen"),
  wf_ly (8, 17),
  (Jvm.Cond.soleField "PostHouse$Rounds" "cameLast"),
  wf_ly (8, 18),
  (Jvm.Cond.soleField "PostHouse$Rounds" "apart"),
  wf_ly (8, 19),
  (Jvm.Cond.soleField "PostHouse$Rounds" "leastWay"),
  (Jvm.Cond.superclass "PostHouse$Rounds" "java/lang/Object"),
  wf_clk (11, 96, 4),
  wf_ins 4,
  wf_lk (11, 98, 84),
  wf_inst 84,
  wf_code 84,
  wf_oi (4, 3),
  wf_clm (4, 11),
  wf_fl (4, 35, 4099),
  wf_fl (4, 39, 4103),
  wf_fl (4, 43, 4107),
  wf_fl (4, 47, 4111),
  wf_fl (4, 51, 4112),
  wf_fl (11, 210, 4112),
  wf_fl (4, 13, 4119),
  wf_fl (4, 55, 4120),
  wf_fl (11, 211, 4120),
  wf_fl (4, 16, 4127),
  wf_fl (11, 312, 4127),
  wf_fl (4, 19, 4131),
  wf_fl (4, 24, 4135),
  wf_fl (4, 28, 4139),
  wf_fl (4, 31, 4143),
  wf_ly (4, 0),
  (Jvm.Cond.soleField "PostHouse$Lines" "log"),
  wf_ly (4, 1),
  (Jvm.Cond.soleField "PostHouse$Lines" "chronicle"),
  wf_ly (4, 2),
  (Jvm.Cond.soleField "PostHouse$Lines" "book"),
  wf_ly (4, 3),
  (Jvm.Cond.soleField "PostHouse$Lines" "items"),
  wf_ly (4, 4),
  (Jvm.Cond.soleField "PostHouse$Lines" "count"),
  wf_ly (4, 5),
  (Jvm.Cond.soleField "PostHouse$Lines" "fact"),
  wf_ly (4, 6),
  (Jvm.Cond.soleField "PostHouse$Lines" "bags"),
  wf_ly (4, 7),
  (Jvm.Cond.soleField "PostHouse$Lines" "bag"),
  wf_ly (4, 8),
  (Jvm.Cond.soleField "PostHouse$Lines" "content"),
  wf_ly (4, 9),
  (Jvm.Cond.soleField "PostHouse$Lines" "reachedAt"),
  wf_ly (4, 10),
  (Jvm.Cond.soleField "PostHouse$Lines" "firstLine"),
  wf_ly (4, 11),
  (Jvm.Cond.soleField "PostHouse$Lines" "lookedAt"),
  (Jvm.Cond.superclass "PostHouse$Lines" "java/lang/Object"),
  wf_fl (11, 10, 11267),
  wf_fl (11, 16, 11271),
  wf_fl (11, 22, 11275),
  wf_fl (11, 31, 11279),
  wf_fl (11, 40, 11283),
  wf_fl (11, 49, 11287),
  wf_fl (11, 58, 11291),
  wf_fl (11, 67, 11295),
  wf_fl (11, 76, 11299),
  wf_fl (11, 85, 11303),
  wf_fl (11, 92, 11307),
  wf_fl (11, 101, 11311),
  wf_ly (11, 0),
  (Jvm.Cond.soleField "PostHouse" "tape"),
  wf_ly (11, 1),
  (Jvm.Cond.soleField "PostHouse" "tapeAgain"),
  wf_ly (11, 2),
  (Jvm.Cond.soleField "PostHouse" "bars"),
  wf_ly (11, 3),
  (Jvm.Cond.soleField "PostHouse" "log"),
  wf_ly (11, 4),
  (Jvm.Cond.soleField "PostHouse" "chronicle"),
  wf_ly (11, 5),
  (Jvm.Cond.soleField "PostHouse" "book"),
  wf_ly (11, 6),
  (Jvm.Cond.soleField "PostHouse" "sheet"),
  wf_ly (11, 7),
  (Jvm.Cond.soleField "PostHouse" "money"),
  wf_ly (11, 8),
  (Jvm.Cond.soleField "PostHouse" "items"),
  wf_ly (11, 9),
  (Jvm.Cond.soleField "PostHouse" "lockers"),
  wf_ly (11, 10),
  (Jvm.Cond.soleField "PostHouse" "rounds"),
  wf_ly (11, 11),
  (Jvm.Cond.soleField "PostHouse" "lines"),
  (Jvm.Cond.superclass "PostHouse" "java/lang/Object"),
  wf_lk (13, 49, 231),
  wf_inst 231,
  wf_sel 231,
  wf_code 231,
  wf_lk (11, 133, 128),
  wf_inst 128,
  wf_sel 128,
  wf_code 128,
  wf_lk (6, 71, 127),
  wf_stat 127,
  wf_code 127,
  wf_lk (6, 91, 129),
  (Jvm.Cond.privateMethod ({ cls := "PostHouse$Log", name := "makeBlock", desc := "(IIZ)V" } : Jvm.MethodName)),
  wf_inst 129,
  wf_code 129,
  wf_lk (6, 98, 535),
  wf_stat 535,
  wf_code 535,
  wf_lk (6, 104, 538),
  wf_stat 538,
  wf_code 538,
  wf_lk (6, 110, 132),
  wf_stat 132,
  wf_code 132,
  wf_cst (6, 123, (-2048144777)),
  wf_lk (6, 95, 130),
  (Jvm.Cond.privateMethod ({ cls := "PostHouse$Log", name := "writes", desc := "(I)Z" } : Jvm.MethodName)),
  wf_inst 130,
  wf_code 130,
  (Jvm.Cond.methodLinkNest "PostHouse$Log" (52 : Nat) ({ cls := "PostHouse", name := "outside", desc := "(III)Z" } : Jvm.MethodName) "PostHouse"),
  wf_stat 308,
  wf_code 308,
  wf_ac (6, 117),
  .static arraycopyName,
  .native arraycopyName,
  wf_lk (13, 53, 232),
  wf_inst 232,
  wf_sel 232,
  wf_code 232,
  wf_lk (11, 137, 131),
  wf_inst 131,
  wf_sel 131,
  wf_code 131,
  wf_lk (13, 57, 233),
  wf_inst 233,
  wf_sel 233,
  wf_code 233,
  wf_lk (11, 141, 303),
  (Jvm.Cond.privateMethod ({ cls := "PostHouse", name := "clearHouse", desc := "()V" } : Jvm.MethodName)),
  wf_inst 303,
  wf_code 303,
  wf_lk (11, 494, 40),
  wf_lk (11, 497, 11),
  wf_inst 11,
  wf_sel 11,
  wf_code 11,
  wf_lk (1, 44, 12),
  (Jvm.Cond.privateMethod ({ cls := "PostHouse$Book", name := "keepFirst", desc := "(IIII)V" } : Jvm.MethodName)),
  wf_inst 12,
  wf_code 12,
  wf_lk (11, 498, 196),
  wf_lk (11, 499, 146),
  wf_inst 146,
  wf_sel 146,
  wf_code 146,
  wf_lk (7, 61, 536),
  wf_stat 536,
  wf_code 536,
  wf_lk (11, 500, 50),
  wf_inst 50,
  wf_sel 50,
  wf_code 50,
  wf_lk (11, 501, 109),
  wf_inst 109,
  wf_sel 109,
  wf_code 109,
  wf_lk (11, 502, 167),
  wf_lk (11, 503, 85),
  wf_inst 85,
  wf_sel 85,
  wf_code 85,
  wf_lk (11, 144, 139),
  wf_inst 139]
set_option maxRecDepth 100000 in
theorem tq_ok_3 : tables_1_3 = tq_3 := rfl
def wl_code_3 : List (Nat) := [
  166, 167, 84, 231, 128, 127, 129, 535, 538, 132, 130, 308,
  232, 131, 233, 303, 11, 12, 146, 536, 50, 109, 85]
set_option maxRecDepth 100000 in
theorem wk_code_3 : wl_code_3.map wf_code = ([
  0, 6, 77, 160, 164, 167, 171, 174, 177, 180, 185, 188, 195, 199, 203, 207, 212, 216, 221, 224, 228, 232, 237] : List Nat).filterMap (fun i => tq_3[i]?) := rfl
theorem wi_code_3 : ∀ q ∈ wl_code_3, wf_code q ∈ lw_tbl := fun q h => tq_mem.2.2.1 _ (by rw [tq_ok_3]; exact w_pos wk_code_3 q h)
def wl_oi_3 : List (Nat × Nat) := [
  (8, 3), (4, 3)]
set_option maxRecDepth 100000 in
theorem wk_oi_3 : wl_oi_3.map wf_oi = ([
  1, 78] : List Nat).filterMap (fun i => tq_3[i]?) := rfl
theorem wi_oi_3 : ∀ q ∈ wl_oi_3, wf_oi q ∈ lw_tbl := fun q h => tq_mem.2.2.1 _ (by rw [tq_ok_3]; exact w_pos wk_oi_3 q h)
def wl_clm_3 : List (Nat × Nat) := [
  (8, 11), (4, 11)]
set_option maxRecDepth 100000 in
theorem wk_clm_3 : wl_clm_3.map wf_clm = ([
  2, 79] : List Nat).filterMap (fun i => tq_3[i]?) := rfl
theorem wi_clm_3 : ∀ q ∈ wl_clm_3, wf_clm q ∈ lw_tbl := fun q h => tq_mem.2.2.1 _ (by rw [tq_ok_3]; exact w_pos wk_clm_3 q h)
def wl_lk_3 : List (Nat × (Nat × Nat)) := [
  (8, 70, 167), (8, 83, 537), (11, 98, 84), (13, 49, 231), (11, 133, 128), (6, 71, 127), (6, 91, 129), (6, 98, 535), (6, 104, 538), (6, 110, 132), (6, 95, 130), (13, 53, 232),
  (11, 137, 131), (13, 57, 233), (11, 141, 303), (11, 494, 40), (11, 497, 11), (1, 44, 12), (11, 498, 196), (11, 499, 146), (7, 61, 536), (11, 500, 50), (11, 501, 109), (11, 502, 167),
  (11, 503, 85), (11, 144, 139)]
set_option maxRecDepth 100000 in
theorem wk_lk_3 : wl_lk_3.map wf_lk = ([
  3, 7, 75, 157, 161, 165, 168, 172, 175, 178, 182, 192, 196, 200, 204, 208, 209, 213, 217, 218, 222, 225, 229, 233,
  234, 238] : List Nat).filterMap (fun i => tq_3[i]?) := rfl
theorem wi_lk_3 : ∀ q ∈ wl_lk_3, wf_lk q ∈ lw_tbl := fun q h => tq_mem.2.2.1 _ (by rw [tq_ok_3]; exact w_pos wk_lk_3 q h)
def wl_inst_3 : List (Nat) := [
  167, 84, 231, 128, 129, 130, 232, 131, 233, 303, 11, 12,
  146, 50, 109, 85, 139]
set_option maxRecDepth 100000 in
theorem wk_inst_3 : wl_inst_3.map wf_inst = ([
  4, 76, 158, 162, 170, 184, 193, 197, 201, 206, 210, 215, 219, 226, 230, 235, 239] : List Nat).filterMap (fun i => tq_3[i]?) := rfl
theorem wi_inst_3 : ∀ q ∈ wl_inst_3, wf_inst q ∈ lw_tbl := fun q h => tq_mem.2.2.1 _ (by rw [tq_ok_3]; exact w_pos wk_inst_3 q h)
def wl_sel_3 : List (Nat) := [
  167, 231, 128, 232, 131, 233, 11, 146, 50, 109, 85]
set_option maxRecDepth 100000 in
theorem wk_sel_3 : wl_sel_3.map wf_sel = ([
  5, 159, 163, 194, 198, 202, 211, 220, 227, 231, 236] : List Nat).filterMap (fun i => tq_3[i]?) := rfl
theorem wi_sel_3 : ∀ q ∈ wl_sel_3, wf_sel q ∈ lw_tbl := fun q h => tq_mem.2.2.1 _ (by rw [tq_ok_3]; exact w_pos wk_sel_3 q h)
def wl_fl_3 : List (Nat × (Nat × Nat)) := [
  (8, 58, 8195), (8, 62, 8199), (8, 66, 8203), (8, 73, 8204), (11, 209, 8204), (8, 13, 8211), (8, 16, 8215), (8, 21, 8219), (8, 27, 8223), (8, 30, 8227), (8, 77, 8228), (11, 297, 8228),
  (8, 80, 8232), (11, 300, 8232), (8, 33, 8239), (11, 303, 8239), (8, 164, 8240), (8, 36, 8247), (8, 39, 8251), (8, 42, 8255), (8, 45, 8259), (8, 49, 8263), (8, 52, 8267), (8, 55, 8271),
  (4, 35, 4099), (4, 39, 4103), (4, 43, 4107), (4, 47, 4111), (4, 51, 4112), (11, 210, 4112), (4, 13, 4119), (4, 55, 4120), (11, 211, 4120), (4, 16, 4127), (11, 312, 4127), (4, 19, 4131),
  (4, 24, 4135), (4, 28, 4139), (4, 31, 4143), (11, 10, 11267), (11, 16, 11271), (11, 22, 11275), (11, 31, 11279), (11, 40, 11283), (11, 49, 11287), (11, 58, 11291), (11, 67, 11295), (11, 76, 11299),
  (11, 85, 11303), (11, 92, 11307), (11, 101, 11311)]
set_option maxRecDepth 100000 in
theorem wk_fl_3 : wl_fl_3.map wf_fl = ([
  8, 9, 10, 11, 12, 13, 14, 15, 16, 17, 18, 19, 20, 21, 22, 23, 24, 25, 26, 27, 28, 29, 30, 31,
  80, 81, 82, 83, 84, 85, 86, 87, 88, 89, 90, 91, 92, 93, 94, 120, 121, 122, 123, 124, 125, 126, 127, 128,
  129, 130, 131] : List Nat).filterMap (fun i => tq_3[i]?) := rfl
theorem wi_fl_3 : ∀ q ∈ wl_fl_3, wf_fl q ∈ lw_tbl := fun q h => tq_mem.2.2.1 _ (by rw [tq_ok_3]; exact w_pos wk_fl_3 q h)
def wl_ly_3 : List (Nat × Nat) := [
  (8, 0), (8, 1), (8, 2), (8, 3), (8, 4), (8, 5), (8, 6), (8, 7), (8, 8), (8, 9), (8, 10), (8, 11),
  (8, 12), (8, 13), (8, 14), (8, 15), (8, 16), (8, 17), (8, 18), (8, 19), (4, 0), (4, 1), (4, 2), (4, 3),
  (4, 4), (4, 5), (4, 6), (4, 7), (4, 8), (4, 9), (4, 10), (4, 11), (11, 0), (11, 1), (11, 2), (11, 3),
  (11, 4), (11, 5), (11, 6), (11, 7), (11, 8), (11, 9), (11, 10), (11, 11)]
set_option maxRecDepth 100000 in
theorem wk_ly_3 : wl_ly_3.map wf_ly = ([
  32, 34, 36, 38, 40, 42, 44, 46, 48, 50, 52, 54, 56, 58, 60, 62, 64, 66, 68, 70, 95, 97, 99, 101,
  103, 105, 107, 109, 111, 113, 115, 117, 132, 134, 136, 138, 140, 142, 144, 146, 148, 150, 152, 154] : List Nat).filterMap (fun i => tq_3[i]?) := rfl
theorem wi_ly_3 : ∀ q ∈ wl_ly_3, wf_ly q ∈ lw_tbl := fun q h => tq_mem.2.2.1 _ (by rw [tq_ok_3]; exact w_pos wk_ly_3 q h)
def wl_clk_3 : List (Nat × (Nat × Nat)) := [
  (11, 96, 4)]
set_option maxRecDepth 100000 in
theorem wk_clk_3 : wl_clk_3.map wf_clk = ([
  73] : List Nat).filterMap (fun i => tq_3[i]?) := rfl
theorem wi_clk_3 : ∀ q ∈ wl_clk_3, wf_clk q ∈ lw_tbl := fun q h => tq_mem.2.2.1 _ (by rw [tq_ok_3]; exact w_pos wk_clk_3 q h)
def wl_ins_3 : List (Nat) := [
  4]
set_option maxRecDepth 100000 in
theorem wk_ins_3 : wl_ins_3.map wf_ins = ([
  74] : List Nat).filterMap (fun i => tq_3[i]?) := rfl
theorem wi_ins_3 : ∀ q ∈ wl_ins_3, wf_ins q ∈ lw_tbl := fun q h => tq_mem.2.2.1 _ (by rw [tq_ok_3]; exact w_pos wk_ins_3 q h)
def wl_stat_3 : List (Nat) := [
  127, 535, 538, 132, 308, 536]
set_option maxRecDepth 100000 in
theorem wk_stat_3 : wl_stat_3.map wf_stat = ([
  166, 173, 176, 179, 187, 223] : List Nat).filterMap (fun i => tq_3[i]?) := rfl
theorem wi_stat_3 : ∀ q ∈ wl_stat_3, wf_stat q ∈ lw_tbl := fun q h => tq_mem.2.2.1 _ (by rw [tq_ok_3]; exact w_pos wk_stat_3 q h)
def wl_cst_3 : List (Nat × (Nat × Int)) := [
  (6, 123, (-2048144777))]
set_option maxRecDepth 100000 in
theorem wk_cst_3 : wl_cst_3.map wf_cst = ([
  181] : List Nat).filterMap (fun i => tq_3[i]?) := rfl
theorem wi_cst_3 : ∀ q ∈ wl_cst_3, wf_cst q ∈ lw_tbl := fun q h => tq_mem.2.2.1 _ (by rw [tq_ok_3]; exact w_pos wk_cst_3 q h)
def wl_ac_3 : List (Nat × Nat) := [
  (6, 117)]
set_option maxRecDepth 100000 in
theorem wk_ac_3 : wl_ac_3.map wf_ac = ([
  189] : List Nat).filterMap (fun i => tq_3[i]?) := rfl
theorem wi_ac_3 : ∀ q ∈ wl_ac_3, wf_ac q ∈ lw_tbl := fun q h => tq_mem.2.2.1 _ (by rw [tq_ok_3]; exact w_pos wk_ac_3 q h)
noncomputable def tq_4 : List Cond := [
  wf_sel 139,
  wf_code 139,
  wf_lk (6, 131, 138),
  (Jvm.Cond.privateMethod ({ cls := "PostHouse$Log", name := "isRight", desc := "(I)Z" } : Jvm.MethodName)),
  wf_inst 138,
  wf_code 138,
  wf_lk (6, 128, 134),
  wf_inst 134,
  wf_sel 134,
  wf_code 134,
  wf_lk (6, 124, 133),
  wf_stat 133,
  wf_code 133,
  wf_lk (6, 134, 137),
  wf_inst 137,
  wf_sel 137,
  wf_code 137,
  wf_lk (6, 137, 141),
  wf_inst 141,
  wf_sel 141,
  wf_code 141,
  wf_lk (11, 150, 140),
  wf_inst 140,
  wf_sel 140,
  wf_code 140,
  wf_lk (6, 84, 125),
  (Jvm.Cond.privateMethod ({ cls := "PostHouse$Log", name := "append", desc := "(I)V" } : Jvm.MethodName)),
  wf_inst 125,
  wf_code 125,
  wf_lk (11, 153, 137),
  wf_cst (11, 157, 37200),
  wf_lk (11, 158, 143),
  wf_inst 143,
  wf_sel 143,
  wf_code 143,
  wf_sl (6, 56, 1003),
  (Jvm.Cond.laysStatic "PostHouse$Log" "ARGUMENTS" "[I"),
  wf_lk (6, 143, 144),
  (Jvm.Cond.privateMethod ({ cls := "PostHouse$Log", name := "wordAt", desc := "(I)I" } : Jvm.MethodName)),
  wf_inst 144,
  wf_code 144,
  wf_lk (6, 59, 126),
  wf_stat 126,
  wf_code 126,
  wf_lk (6, 146, 223),
  wf_inst 223,
  wf_sel 223,
  wf_code 223,
  wf_lk (11, 162, 302),
  (Jvm.Cond.privateMethod ({ cls := "PostHouse", name := "act", desc := "(LPostHouse$Tape;)I" } : Jvm.MethodName)),
  wf_inst 302,
  wf_code 302,
  wf_lk (11, 369, 13),
  wf_inst 13,
  wf_sel 13,
  wf_code 13,
  wf_lk (1, 69, 225),
  wf_inst 225,
  wf_sel 225,
  wf_code 225,
  (Jvm.Cond.stringRef "PostHouse$Book" (73 : Nat) "P#,@;S#,@,#,#,#;R#,@,#,#,#;H#,@,#;"),
  wf_lk (1, 75, 226),
  wf_inst 226,
  wf_sel 226,
  wf_code 226,
  wf_lk (10, 29, 224),
  wf_inst 224,
  wf_sel 224,
  wf_code 224,
  (Jvm.Cond.methodLink "PostHouse$Tape" (33 : Nat) ({ cls := "java/lang/String", name := "indexOf", desc := "(I)I" } : Jvm.MethodName)),
  (Jvm.Cond.instanceMethod ({ cls := "java/lang/String", name := "indexOf", desc := "(I)I" } : Jvm.MethodName)),
  (Jvm.Cond.selects "java/lang/String" ({ cls := "java/lang/String", name := "indexOf", desc := "(I)I" } : Jvm.MethodName) ({ cls := "java/lang/String", name := "indexOf", desc := "(I)I" } : Jvm.MethodName)),
  (Jvm.Cond.code ({ cls := "java/lang/String", name := "indexOf", desc := "(I)I" } : Jvm.MethodName) prog_23_method_79_code (2 : Nat) (Option.some Jvm.ClassFile.FieldType.int)),
  (Jvm.Cond.methodLink "java/lang/String" (633 : Nat) ({ cls := "java/lang/String", name := "indexOf", desc := "(II)I" } : Jvm.MethodName)),
  (Jvm.Cond.instanceMethod ({ cls := "java/lang/String", name := "indexOf", desc := "(II)I" } : Jvm.MethodName)),
  (Jvm.Cond.selects "java/lang/String" ({ cls := "java/lang/String", name := "indexOf", desc := "(II)I" } : Jvm.MethodName) ({ cls := "java/lang/String", name := "indexOf", desc := "(II)I" } : Jvm.MethodName)),
  (Jvm.Cond.code ({ cls := "java/lang/String", name := "indexOf", desc := "(II)I" } : Jvm.MethodName) prog_23_method_80_code (3 : Nat) (Option.some Jvm.ClassFile.FieldType.int)),
  (Jvm.Cond.methodLink "java/lang/String" (492 : Nat) ({ cls := "java/lang/String", name := "isLatin1", desc := "()Z" } : Jvm.MethodName)),
  (Jvm.Cond.instanceMethod ({ cls := "java/lang/String", name := "isLatin1", desc := "()Z" } : Jvm.MethodName)),
  (Jvm.Cond.selects "java/lang/String" ({ cls := "java/lang/String", name := "isLatin1", desc := "()Z" } : Jvm.MethodName) ({ cls := "java/lang/String", name := "isLatin1", desc := "()Z" } : Jvm.MethodName)),
  (Jvm.Cond.code ({ cls := "java/lang/String", name := "isLatin1", desc := "()Z" } : Jvm.MethodName) prog_23_method_154_code (1 : Nat) (Option.some Jvm.ClassFile.FieldType.boolean)),
  (Jvm.Cond.fieldLink "java/lang/String" (38 : Nat) "java/lang/String" "COMPACT_STRINGS" "Z"),
  (Jvm.Cond.laysStatic "java/lang/String" "COMPACT_STRINGS" "Z"),
  (Jvm.Cond.methodLink "java/lang/String" (505 : Nat) ({ cls := "java/lang/String", name := "length", desc := "()I" } : Jvm.MethodName)),
  (Jvm.Cond.instanceMethod ({ cls := "java/lang/String", name := "length", desc := "()I" } : Jvm.MethodName)),
  (Jvm.Cond.selects "java/lang/String" ({ cls := "java/lang/String", name := "length", desc := "()I" } : Jvm.MethodName) ({ cls := "java/lang/String", name := "length", desc := "()I" } : Jvm.MethodName)),
  (Jvm.Cond.code ({ cls := "java/lang/String", name := "length", desc := "()I" } : Jvm.MethodName) prog_23_method_54_code (1 : Nat) (Option.some Jvm.ClassFile.FieldType.int)),
  (Jvm.Cond.methodLink "java/lang/String" (335 : Nat) ({ cls := "java/lang/String", name := "coder", desc := "()B" } : Jvm.MethodName)),
  (Jvm.Cond.instanceMethod ({ cls := "java/lang/String", name := "coder", desc := "()B" } : Jvm.MethodName)),
  (Jvm.Cond.selects "java/lang/String" ({ cls := "java/lang/String", name := "coder", desc := "()B" } : Jvm.MethodName) ({ cls := "java/lang/String", name := "coder", desc := "()B" } : Jvm.MethodName)),
  (Jvm.Cond.code ({ cls := "java/lang/String", name := "coder", desc := "()B" } : Jvm.MethodName) prog_23_method_152_code (1 : Nat) (Option.some Jvm.ClassFile.FieldType.byte)),
  (Jvm.Cond.methodLink "java/lang/String" (637 : Nat) ({ cls := "java/lang/StringLatin1", name := "indexOf", desc := "([BIII)I" } : Jvm.MethodName)),
  (Jvm.Cond.static ({ cls := "java/lang/StringLatin1", name := "indexOf", desc := "([BIII)I" } : Jvm.MethodName)),
  (Jvm.Cond.code ({ cls := "java/lang/StringLatin1", name := "indexOf", desc := "([BIII)I" } : Jvm.MethodName) prog_24_method_22_code (4 : Nat) (Option.some Jvm.ClassFile.FieldType.int)),
  (Jvm.Cond.methodLink "java/lang/StringLatin1" (88 : Nat) ({ cls := "java/lang/StringLatin1", name := "canEncode", desc := "(I)Z" } : Jvm.MethodName)),
  (Jvm.Cond.static ({ cls := "java/lang/StringLatin1", name := "canEncode", desc := "(I)Z" } : Jvm.MethodName)),
  (Jvm.Cond.code ({ cls := "java/lang/StringLatin1", name := "canEncode", desc := "(I)Z" } : Jvm.MethodName) prog_24_method_4_code (1 : Nat) (Option.some Jvm.ClassFile.FieldType.boolean)),
  (Jvm.Cond.methodLink "java/lang/StringLatin1" (92 : Nat) ({ cls := "java/lang/Math", name := "max", desc := "(II)I" } : Jvm.MethodName)),
  wf_stat 534,
  wf_code 534,
  (Jvm.Cond.methodLink "java/lang/StringLatin1" (38 : Nat) ({ cls := "java/lang/Math", name := "min", desc := "(II)I" } : Jvm.MethodName)),
  (Jvm.Cond.methodLink "java/lang/StringLatin1" (95 : Nat) ({ cls := "java/lang/StringLatin1", name := "indexOfChar", desc := "([BIII)I" } : Jvm.MethodName)),
  (Jvm.Cond.static ({ cls := "java/lang/StringLatin1", name := "indexOfChar", desc := "([BIII)I" } : Jvm.MethodName)),
  (Jvm.Cond.code ({ cls := "java/lang/StringLatin1", name := "indexOfChar", desc := "([BIII)I" } : Jvm.MethodName) prog_24_method_23_code (6 : Nat) (Option.some Jvm.ClassFile.FieldType.int)),
  (Jvm.Cond.methodLink "java/lang/String" (640 : Nat) ({ cls := "java/lang/StringUTF16", name := "indexOf", desc := "([BIII)I" } : Jvm.MethodName)),
  (Jvm.Cond.static ({ cls := "java/lang/StringUTF16", name := "indexOf", desc := "([BIII)I" } : Jvm.MethodName)),
  (Jvm.Cond.code ({ cls := "java/lang/StringUTF16", name := "indexOf", desc := "([BIII)I" } : Jvm.MethodName) prog_25_method_40_code (4 : Nat) (Option.some Jvm.ClassFile.FieldType.int)),
  (Jvm.Cond.methodLink "java/lang/StringUTF16" (224 : Nat) ({ cls := "java/lang/Math", name := "max", desc := "(II)I" } : Jvm.MethodName)),
  (Jvm.Cond.methodLink "java/lang/StringUTF16" (183 : Nat) ({ cls := "java/lang/Math", name := "min", desc := "(II)I" } : Jvm.MethodName)),
  (Jvm.Cond.constant "java/lang/StringUTF16" (227 : Nat) (65536 : Int32)),
  (Jvm.Cond.methodLink "java/lang/StringUTF16" (228 : Nat) ({ cls := "java/lang/StringUTF16", name := "indexOfChar", desc := "([BIII)I" } : Jvm.MethodName)),
  (Jvm.Cond.static ({ cls := "java/lang/StringUTF16", name := "indexOfChar", desc := "([BIII)I" } : Jvm.MethodName)),
  (Jvm.Cond.code ({ cls := "java/lang/StringUTF16", name := "indexOfChar", desc := "([BIII)I" } : Jvm.MethodName) prog_25_method_47_code (4 : Nat) (Option.some Jvm.ClassFile.FieldType.int)),
  (Jvm.Cond.methodLink "java/lang/StringUTF16" (96 : Nat) ({ cls := "java/lang/StringUTF16", name := "checkBoundsBeginEnd", desc := "(II[B)V" } : Jvm.MethodName)),
  (Jvm.Cond.static ({ cls := "java/lang/StringUTF16", name := "checkBoundsBeginEnd", desc := "(II[B)V" } : Jvm.MethodName)),
  (Jvm.Cond.code ({ cls := "java/lang/StringUTF16", name := "checkBoundsBeginEnd", desc := "(II[B)V" } : Jvm.MethodName) prog_25_method_93_code (3 : Nat) (Option.none : Option Jvm.ClassFile.FieldType)),
  (Jvm.Cond.methodLink "java/lang/StringUTF16" (48 : Nat) ({ cls := "java/lang/StringUTF16", name := "length", desc := "([B)I" } : Jvm.MethodName)),
  (Jvm.Cond.static ({ cls := "java/lang/StringUTF16", name := "length", desc := "([B)I" } : Jvm.MethodName)),
  (Jvm.Cond.code ({ cls := "java/lang/StringUTF16", name := "length", desc := "([B)I" } : Jvm.MethodName) prog_25_method_6_code (1 : Nat) (Option.some Jvm.ClassFile.FieldType.int)),
  (Jvm.Cond.methodLink "java/lang/StringUTF16" (241 : Nat) ({ cls := "java/lang/String", name := "checkBoundsBeginEnd", desc := "(III)V" } : Jvm.MethodName)),
  (Jvm.Cond.static ({ cls := "java/lang/String", name := "checkBoundsBeginEnd", desc := "(III)V" } : Jvm.MethodName)),
  (Jvm.Cond.code ({ cls := "java/lang/String", name := "checkBoundsBeginEnd", desc := "(III)V" } : Jvm.MethodName) prog_23_method_158_code (3 : Nat) (Option.none : Option Jvm.ClassFile.FieldType)),
  (Jvm.Cond.fieldLink "java/lang/String" (1053 : Nat) "jdk/internal/util/Preconditions" "SIOOBE_FORMATTER" "Ljava/util/function/BiFunction;"),
  (Jvm.Cond.laysStatic "jdk/internal/util/Preconditions" "SIOOBE_FORMATTER" "Ljava/util/function/BiFunction;"),
  (Jvm.Cond.methodLink "java/lang/String" (1062 : Nat) ({ cls := "jdk/internal/util/Preconditions", name := "checkFromToIndex", desc := "(IIILjava/util/function/BiFunction;)I" } : Jvm.MethodName)),
  (Jvm.Cond.static ({ cls := "jdk/internal/util/Preconditions", name := "checkFromToIndex", desc := "(IIILjava/util/function/BiFunction;)I" } : Jvm.MethodName)),
  (Jvm.Cond.code ({ cls := "jdk/internal/util/Preconditions", name := "checkFromToIndex", desc := "(IIILjava/util/function/BiFunction;)I" } : Jvm.MethodName) prog_29_method_12_code (4 : Nat) (Option.some Jvm.ClassFile.FieldType.int)),
  (Jvm.Cond.methodLink "java/lang/StringUTF16" (244 : Nat) ({ cls := "java/lang/StringUTF16", name := "indexOfCharUnsafe", desc := "([BIII)I" } : Jvm.MethodName)),
  (Jvm.Cond.static ({ cls := "java/lang/StringUTF16", name := "indexOfCharUnsafe", desc := "([BIII)I" } : Jvm.MethodName)),
  (Jvm.Cond.code ({ cls := "java/lang/StringUTF16", name := "indexOfCharUnsafe", desc := "([BIII)I" } : Jvm.MethodName) prog_25_method_48_code (5 : Nat) (Option.some Jvm.ClassFile.FieldType.int)),
  (Jvm.Cond.methodLink "java/lang/StringUTF16" (71 : Nat) ({ cls := "java/lang/StringUTF16", name := "getChar", desc := "([BI)C" } : Jvm.MethodName)),
  (Jvm.Cond.static ({ cls := "java/lang/StringUTF16", name := "getChar", desc := "([BI)C" } : Jvm.MethodName)),
  (Jvm.Cond.code ({ cls := "java/lang/StringUTF16", name := "getChar", desc := "([BI)C" } : Jvm.MethodName) prog_25_method_5_code (2 : Nat) (Option.some Jvm.ClassFile.FieldType.char)),
  (Jvm.Cond.fieldLink "java/lang/StringUTF16" (44 : Nat) "java/lang/StringUTF16" "$assertionsDisabled" "Z"),
  (Jvm.Cond.laysStatic "java/lang/StringUTF16" "$assertionsDisabled" "Z"),
  (Jvm.Cond.fieldLink "java/lang/StringUTF16" (59 : Nat) "java/lang/StringUTF16" "HI_BYTE_SHIFT" "I"),
  (Jvm.Cond.laysStatic "java/lang/StringUTF16" "HI_BYTE_SHIFT" "I"),
  (Jvm.Cond.fieldLink "java/lang/StringUTF16" (63 : Nat) "java/lang/StringUTF16" "LO_BYTE_SHIFT" "I"),
  (Jvm.Cond.laysStatic "java/lang/StringUTF16" "LO_BYTE_SHIFT" "I"),
  (Jvm.Cond.methodLink "java/lang/StringUTF16" (232 : Nat) ({ cls := "java/lang/StringUTF16", name := "indexOfSupplementary", desc := "([BIII)I" } : Jvm.MethodName)),
  (Jvm.Cond.static ({ cls := "java/lang/StringUTF16", name := "indexOfSupplementary", desc := "([BIII)I" } : Jvm.MethodName)),
  (Jvm.Cond.code ({ cls := "java/lang/StringUTF16", name := "indexOfSupplementary", desc := "([BIII)I" } : Jvm.MethodName) prog_25_method_49_code (7 : Nat) (Option.some Jvm.ClassFile.FieldType.int)),
  (Jvm.Cond.methodLink "java/lang/StringUTF16" (164 : Nat) ({ cls := "java/lang/Character", name := "isValidCodePoint", desc := "(I)Z" } : Jvm.MethodName)),
  (Jvm.Cond.static ({ cls := "java/lang/Character", name := "isValidCodePoint", desc := "(I)Z" } : Jvm.MethodName)),
  (Jvm.Cond.code ({ cls := "java/lang/Character", name := "isValidCodePoint", desc := "(I)Z" } : Jvm.MethodName) prog_15_method_11_code (2 : Nat) (Option.some Jvm.ClassFile.FieldType.boolean)),
  (Jvm.Cond.methodLink "java/lang/StringUTF16" (157 : Nat) ({ cls := "java/lang/Character", name := "highSurrogate", desc := "(I)C" } : Jvm.MethodName)),
  (Jvm.Cond.static ({ cls := "java/lang/Character", name := "highSurrogate", desc := "(I)C" } : Jvm.MethodName)),
  (Jvm.Cond.code ({ cls := "java/lang/Character", name := "highSurrogate", desc := "(I)C" } : Jvm.MethodName) prog_15_method_28_code (1 : Nat) (Option.some Jvm.ClassFile.FieldType.char)),
  (Jvm.Cond.constant "java/lang/Character" (110 : Nat) (55232 : Int32)),
  (Jvm.Cond.methodLink "java/lang/StringUTF16" (161 : Nat) ({ cls := "java/lang/Character", name := "lowSurrogate", desc := "(I)C" } : Jvm.MethodName)),
  (Jvm.Cond.static ({ cls := "java/lang/Character", name := "lowSurrogate", desc := "(I)C" } : Jvm.MethodName)),
  (Jvm.Cond.code ({ cls := "java/lang/Character", name := "lowSurrogate", desc := "(I)C" } : Jvm.MethodName) prog_15_method_29_code (1 : Nat) (Option.some Jvm.ClassFile.FieldType.char)),
  (Jvm.Cond.constant "java/lang/Character" (76 : Nat) (56320 : Int32)),
  (Jvm.Cond.methodLink "PostHouse$Tape" (38 : Nat) ({ cls := "java/lang/String", name := "length", desc := "()I" } : Jvm.MethodName)),
  (Jvm.Cond.methodLink "PostHouse$Tape" (41 : Nat) ({ cls := "java/lang/String", name := "charAt", desc := "(I)C" } : Jvm.MethodName)),
  (Jvm.Cond.instanceMethod ({ cls := "java/lang/String", name := "charAt", desc := "(I)C" } : Jvm.MethodName)),
  (Jvm.Cond.selects "java/lang/String" ({ cls := "java/lang/String", name := "charAt", desc := "(I)C" } : Jvm.MethodName) ({ cls := "java/lang/String", name := "charAt", desc := "(I)C" } : Jvm.MethodName)),
  (Jvm.Cond.code ({ cls := "java/lang/String", name := "charAt", desc := "(I)C" } : Jvm.MethodName) prog_23_method_56_code (2 : Nat) (Option.some Jvm.ClassFile.FieldType.char)),
  (Jvm.Cond.methodLink "java/lang/String" (495 : Nat) ({ cls := "java/lang/StringLatin1", name := "charAt", desc := "([BI)C" } : Jvm.MethodName)),
  (Jvm.Cond.static ({ cls := "java/lang/StringLatin1", name := "charAt", desc := "([BI)C" } : Jvm.MethodName)),
  (Jvm.Cond.code ({ cls := "java/lang/StringLatin1", name := "charAt", desc := "([BI)C" } : Jvm.MethodName) prog_24_method_2_code (2 : Nat) (Option.some Jvm.ClassFile.FieldType.char)),
  (Jvm.Cond.methodLink "java/lang/StringLatin1" (9 : Nat) ({ cls := "java/lang/String", name := "checkIndex", desc := "(II)V" } : Jvm.MethodName)),
  (Jvm.Cond.static ({ cls := "java/lang/String", name := "checkIndex", desc := "(II)V" } : Jvm.MethodName)),
  (Jvm.Cond.code ({ cls := "java/lang/String", name := "checkIndex", desc := "(II)V" } : Jvm.MethodName) prog_23_method_155_code (2 : Nat) (Option.none : Option Jvm.ClassFile.FieldType)),
  (Jvm.Cond.methodLink "java/lang/String" (1059 : Nat) ({ cls := "jdk/internal/util/Preconditions", name := "checkIndex", desc := "(IILjava/util/function/BiFunction;)I" } : Jvm.MethodName)),
  (Jvm.Cond.static ({ cls := "jdk/internal/util/Preconditions", name := "checkIndex", desc := "(IILjava/util/function/BiFunction;)I" } : Jvm.MethodName)),
  (Jvm.Cond.code ({ cls := "jdk/internal/util/Preconditions", name := "checkIndex", desc := "(IILjava/util/function/BiFunction;)I" } : Jvm.MethodName) prog_29_method_11_code (3 : Nat) (Option.some Jvm.ClassFile.FieldType.int)),
  (Jvm.Cond.methodLink "java/lang/String" (498 : Nat) ({ cls := "java/lang/StringUTF16", name := "charAt", desc := "([BI)C" } : Jvm.MethodName)),
  (Jvm.Cond.static ({ cls := "java/lang/StringUTF16", name := "charAt", desc := "([BI)C" } : Jvm.MethodName)),
  (Jvm.Cond.code ({ cls := "java/lang/StringUTF16", name := "charAt", desc := "([BI)C" } : Jvm.MethodName) prog_25_method_83_code (2 : Nat) (Option.some Jvm.ClassFile.FieldType.char)),
  (Jvm.Cond.methodLink "java/lang/StringUTF16" (67 : Nat) ({ cls := "java/lang/StringUTF16", name := "checkIndex", desc := "(I[B)V" } : Jvm.MethodName)),
  (Jvm.Cond.static ({ cls := "java/lang/StringUTF16", name := "checkIndex", desc := "(I[B)V" } : Jvm.MethodName)),
  (Jvm.Cond.code ({ cls := "java/lang/StringUTF16", name := "checkIndex", desc := "(I[B)V" } : Jvm.MethodName) prog_25_method_91_code (2 : Nat) (Option.none : Option Jvm.ClassFile.FieldType)),
  (Jvm.Cond.methodLink "java/lang/StringUTF16" (414 : Nat) ({ cls := "java/lang/String", name := "checkIndex", desc := "(II)V" } : Jvm.MethodName)),
  wf_lk (10, 45, 227),
  (Jvm.Cond.privateMethod ({ cls := "PostHouse$Tape", name := "reads", desc := "(C)Z" } : Jvm.MethodName)),
  wf_inst 227,
  wf_code 227,
  wf_lk (10, 49, 228),
  (Jvm.Cond.privateMethod ({ cls := "PostHouse$Tape", name := "readsNumber", desc := "()Z" } : Jvm.MethodName)),
  wf_inst 228,
  wf_code 228,
  wf_lk (10, 53, 229),
  (Jvm.Cond.privateMethod ({ cls := "PostHouse$Tape", name := "readsName", desc := "()Z" } : Jvm.MethodName)),
  wf_inst 229,
  wf_code 229,
  wf_csl (10, 60, 27),
  wf_csl (10, 62, 65),
  wf_lk (1, 79, 14),
  (Jvm.Cond.privateMethod ({ cls := "PostHouse$Book", name := "adds", desc := "(ILPostHouse$Tape;)Z" } : Jvm.MethodName)),
  wf_inst 14,
  wf_code 14,
  wf_lk (1, 91, 15),
  (Jvm.Cond.privateMethod ({ cls := "PostHouse$Book", name := "addsPlace", desc := "(I)Z" } : Jvm.MethodName)),
  wf_inst 15,
  wf_code 15,
  wf_cst (1, 117, 99999),
  (Jvm.Cond.methodLinkNest "PostHouse$Book" (118 : Nat) ({ cls := "PostHouse", name := "outside", desc := "(III)Z" } : Jvm.MethodName) "PostHouse"),
  wf_lk (1, 95, 22),
  wf_inst 22,
  wf_sel 22,
  wf_code 22,
  wf_lk (1, 99, 16),
  (Jvm.Cond.privateMethod ({ cls := "PostHouse$Book", name := "addsStreet", desc := "(ILPostHouse$Tape;)Z" } : Jvm.MethodName)),
  wf_inst 16,
  wf_code 16,
  wf_lk (1, 106, 23),
  (Jvm.Cond.privateMethod ({ cls := "PostHouse$Book", name := "streetOf", desc := "(IJ)I" } : Jvm.MethodName)),
  wf_inst 23,
  wf_code 23,
  wf_lk (1, 110, 17),
  (Jvm.Cond.privateMethod ({ cls := "PostHouse$Book", name := "addsRange", desc := "(ILPostHouse$Tape;)Z" } : Jvm.MethodName)),
  wf_inst 17,
  wf_code 17,
  wf_lk (1, 122, 18),
  (Jvm.Cond.privateMethod ({ cls := "PostHouse$Book", name := "sharesHouse", desc := "(IIII)Z" } : Jvm.MethodName)),
  wf_inst 18,
  wf_code 18,
  wf_lk (1, 126, 534),
  wf_lk (1, 132, 535),
  wf_lk (1, 135, 19),
  wf_stat 19,
  wf_code 19,
  wf_lk (1, 113, 20),
  (Jvm.Cond.privateMethod ({ cls := "PostHouse$Book", name := "addsPoint", desc := "(II)Z" } : Jvm.MethodName)),
  wf_inst 20,
  wf_code 20,
  wf_lk (1, 138, 21),
  (Jvm.Cond.privateMethod ({ cls := "PostHouse$Book", name := "hasHouse", desc := "(II)Z" } : Jvm.MethodName)),
  wf_inst 21,
  wf_code 21,
  wf_lk (1, 141, 24),
  wf_inst 24,
  wf_sel 24,
  wf_code 24,
  wf_lk (1, 83, 123),
  wf_inst 123,
  wf_sel 123,
  wf_code 123,
  wf_lk (6, 78, 124)]
set_option maxRecDepth 100000 in
theorem tq_ok_4 : tables_1_4 = tq_4 := rfl
def wl_sel_4 : List (Nat) := [
  139, 134, 137, 141, 140, 143, 223, 13, 225, 226, 224, 22,
  24, 123]
set_option maxRecDepth 100000 in
theorem wk_sel_4 : wl_sel_4.map wf_sel = ([
  0, 8, 15, 19, 23, 33, 46, 54, 58, 63, 67, 200, 233, 237] : List Nat).filterMap (fun i => tq_4[i]?) := rfl
theorem wi_sel_4 : ∀ q ∈ wl_sel_4, wf_sel q ∈ lw_tbl := fun q h => tq_mem.2.2.2.1 _ (by rw [tq_ok_4]; exact w_pos wk_sel_4 q h)
def wl_code_4 : List (Nat) := [
  139, 138, 134, 133, 137, 141, 140, 125, 143, 144, 126, 223,
  302, 13, 225, 226, 224, 534, 227, 228, 229, 14, 15, 22,
  16, 23, 17, 18, 19, 20, 21, 24, 123]
set_option maxRecDepth 100000 in
theorem wk_code_4 : wl_code_4.map wf_code = ([
  1, 5, 9, 12, 16, 20, 24, 28, 34, 40, 43, 47, 51, 55, 59, 64, 68, 99, 177, 181, 185, 191, 195, 201,
  205, 209, 213, 217, 222, 226, 230, 234, 238] : List Nat).filterMap (fun i => tq_4[i]?) := rfl
theorem wi_code_4 : ∀ q ∈ wl_code_4, wf_code q ∈ lw_tbl := fun q h => tq_mem.2.2.2.1 _ (by rw [tq_ok_4]; exact w_pos wk_code_4 q h)
def wl_lk_4 : List (Nat × (Nat × Nat)) := [
  (6, 131, 138), (6, 128, 134), (6, 124, 133), (6, 134, 137), (6, 137, 141), (11, 150, 140), (6, 84, 125), (11, 153, 137), (11, 158, 143), (6, 143, 144), (6, 59, 126), (6, 146, 223),
  (11, 162, 302), (11, 369, 13), (1, 69, 225), (1, 75, 226), (10, 29, 224), (10, 45, 227), (10, 49, 228), (10, 53, 229), (1, 79, 14), (1, 91, 15), (1, 95, 22), (1, 99, 16),
  (1, 106, 23), (1, 110, 17), (1, 122, 18), (1, 126, 534), (1, 132, 535), (1, 135, 19), (1, 113, 20), (1, 138, 21), (1, 141, 24), (1, 83, 123), (6, 78, 124)]
set_option maxRecDepth 100000 in
theorem wk_lk_4 : wl_lk_4.map wf_lk = ([
  2, 6, 10, 13, 17, 21, 25, 29, 31, 37, 41, 44, 48, 52, 56, 61, 65, 174, 178, 182, 188, 192, 198, 202,
  206, 210, 214, 218, 219, 220, 223, 227, 231, 235, 239] : List Nat).filterMap (fun i => tq_4[i]?) := rfl
theorem wi_lk_4 : ∀ q ∈ wl_lk_4, wf_lk q ∈ lw_tbl := fun q h => tq_mem.2.2.2.1 _ (by rw [tq_ok_4]; exact w_pos wk_lk_4 q h)
def wl_inst_4 : List (Nat) := [
  138, 134, 137, 141, 140, 125, 143, 144, 223, 302, 13, 225,
  226, 224, 227, 228, 229, 14, 15, 22, 16, 23, 17, 18,
  20, 21, 24, 123]
set_option maxRecDepth 100000 in
theorem wk_inst_4 : wl_inst_4.map wf_inst = ([
  4, 7, 14, 18, 22, 27, 32, 39, 45, 50, 53, 57, 62, 66, 176, 180, 184, 190, 194, 199, 204, 208, 212, 216,
  225, 229, 232, 236] : List Nat).filterMap (fun i => tq_4[i]?) := rfl
theorem wi_inst_4 : ∀ q ∈ wl_inst_4, wf_inst q ∈ lw_tbl := fun q h => tq_mem.2.2.2.1 _ (by rw [tq_ok_4]; exact w_pos wk_inst_4 q h)
def wl_stat_4 : List (Nat) := [
  133, 126, 534, 19]
set_option maxRecDepth 100000 in
theorem wk_stat_4 : wl_stat_4.map wf_stat = ([
  11, 42, 98, 221] : List Nat).filterMap (fun i => tq_4[i]?) := rfl
theorem wi_stat_4 : ∀ q ∈ wl_stat_4, wf_stat q ∈ lw_tbl := fun q h => tq_mem.2.2.2.1 _ (by rw [tq_ok_4]; exact w_pos wk_stat_4 q h)
def wl_cst_4 : List (Nat × (Nat × Int)) := [
  (11, 157, 37200), (1, 117, 99999)]
set_option maxRecDepth 100000 in
theorem wk_cst_4 : wl_cst_4.map wf_cst = ([
  30, 196] : List Nat).filterMap (fun i => tq_4[i]?) := rfl
theorem wi_cst_4 : ∀ q ∈ wl_cst_4, wf_cst q ∈ lw_tbl := fun q h => tq_mem.2.2.2.1 _ (by rw [tq_ok_4]; exact w_pos wk_cst_4 q h)
def wl_sl_4 : List (Nat × (Nat × Nat)) := [
  (6, 56, 1003)]
set_option maxRecDepth 100000 in
theorem wk_sl_4 : wl_sl_4.map wf_sl = ([
  35] : List Nat).filterMap (fun i => tq_4[i]?) := rfl
theorem wi_sl_4 : ∀ q ∈ wl_sl_4, wf_sl q ∈ lw_tbl := fun q h => tq_mem.2.2.2.1 _ (by rw [tq_ok_4]; exact w_pos wk_sl_4 q h)
def wl_csl_4 : List (Nat × (Nat × Int)) := [
  (10, 60, 27), (10, 62, 65)]
set_option maxRecDepth 100000 in
theorem wk_csl_4 : wl_csl_4.map wf_csl = ([
  186, 187] : List Nat).filterMap (fun i => tq_4[i]?) := rfl
theorem wi_csl_4 : ∀ q ∈ wl_csl_4, wf_csl q ∈ lw_tbl := fun q h => tq_mem.2.2.2.1 _ (by rw [tq_ok_4]; exact w_pos wk_csl_4 q h)
noncomputable def tq_5 : List Cond := [
  (Jvm.Cond.privateMethod ({ cls := "PostHouse$Log", name := "appendRecord", desc := "()V" } : Jvm.MethodName)),
  wf_inst 124,
  wf_code 124,
  wf_lk (11, 372, 33),
  wf_inst 33,
  wf_sel 33,
  wf_code 33,
  wf_lk (1, 155, 28),
  wf_inst 28,
  wf_sel 28,
  wf_code 28,
  wf_lk (1, 158, 35),
  (Jvm.Cond.privateMethod ({ cls := "PostHouse$Book", name := "addOrder", desc := "(IIII)I" } : Jvm.MethodName)),
  wf_inst 35,
  wf_code 35,
  wf_lk (1, 162, 41),
  wf_inst 41,
  wf_sel 41,
  wf_code 41,
  wf_cst (1, 168, 100000),
  wf_lk (11, 376, 34),
  wf_inst 34,
  wf_sel 34,
  wf_code 34,
  wf_lk (11, 379, 197),
  wf_inst 197,
  wf_sel 197,
  wf_code 197,
  (Jvm.Cond.methodLinkNest "PostHouse$Sheet" (66 : Nat) ({ cls := "PostHouse", name := "outside", desc := "(III)Z" } : Jvm.MethodName) "PostHouse"),
  wf_lk (9, 73, 123),
  wf_lk (9, 85, 198),
  (Jvm.Cond.privateMethod ({ cls := "PostHouse$Sheet", name := "darken", desc := "(LPostHouse$Tape;)V" } : Jvm.MethodName)),
  wf_inst 198,
  wf_code 198,
  wf_lk (9, 105, 224),
  wf_lk (9, 109, 535),
  wf_lk (9, 115, 534),
  wf_lk (9, 89, 199),
  (Jvm.Cond.privateMethod ({ cls := "PostHouse$Sheet", name := "findParts", desc := "()V" } : Jvm.MethodName)),
  wf_inst 199,
  wf_code 199,
  wf_lk (9, 121, 200),
  (Jvm.Cond.privateMethod ({ cls := "PostHouse$Sheet", name := "takePart", desc := "(I)V" } : Jvm.MethodName)),
  wf_inst 200,
  wf_code 200,
  wf_lk (9, 128, 201),
  (Jvm.Cond.privateMethod ({ cls := "PostHouse$Sheet", name := "takeNeighbours", desc := "(II)V" } : Jvm.MethodName)),
  wf_inst 201,
  wf_code 201,
  wf_lk (9, 92, 202),
  (Jvm.Cond.privateMethod ({ cls := "PostHouse$Sheet", name := "joinLines", desc := "()V" } : Jvm.MethodName)),
  wf_inst 202,
  wf_code 202,
  wf_lk (9, 132, 537),
  wf_lk (9, 138, 203),
  (Jvm.Cond.privateMethod ({ cls := "PostHouse$Sheet", name := "joinLine", desc := "(II)V" } : Jvm.MethodName)),
  wf_inst 203,
  wf_code 203,
  wf_lk (9, 141, 204),
  (Jvm.Cond.privateMethod ({ cls := "PostHouse$Sheet", name := "areNear", desc := "(II)Z" } : Jvm.MethodName)),
  wf_inst 204,
  wf_code 204,
  wf_lk (9, 95, 205),
  (Jvm.Cond.privateMethod ({ cls := "PostHouse$Sheet", name := "orderParts", desc := "()V" } : Jvm.MethodName)),
  wf_inst 205,
  wf_code 205,
  wf_lk (9, 145, 206),
  (Jvm.Cond.privateMethod ({ cls := "PostHouse$Sheet", name := "goesBefore", desc := "(II)Z" } : Jvm.MethodName)),
  wf_inst 206,
  wf_code 206,
  wf_lk (9, 98, 207),
  (Jvm.Cond.privateMethod ({ cls := "PostHouse$Sheet", name := "keepLines", desc := "()V" } : Jvm.MethodName)),
  wf_inst 207,
  wf_code 207,
  wf_lk (9, 148, 208),
  (Jvm.Cond.privateMethod ({ cls := "PostHouse$Sheet", name := "beginLine", desc := "(II)V" } : Jvm.MethodName)),
  wf_inst 208,
  wf_code 208,
  wf_lk (9, 151, 209),
  (Jvm.Cond.privateMethod ({ cls := "PostHouse$Sheet", name := "keepBox", desc := "(IIZ)V" } : Jvm.MethodName)),
  wf_inst 209,
  wf_code 209,
  wf_lk (9, 155, 210),
  (Jvm.Cond.privateMethod ({ cls := "PostHouse$Sheet", name := "cellsOf", desc := "(I)I" } : Jvm.MethodName)),
  wf_inst 210,
  wf_code 210,
  wf_lk (9, 165, 211),
  (Jvm.Cond.privateMethod ({ cls := "PostHouse$Sheet", name := "isInk", desc := "(IIII)Z" } : Jvm.MethodName)),
  wf_inst 211,
  wf_code 211,
  wf_lk (9, 158, 212),
  wf_stat 212,
  wf_code 212,
  wf_sl (9, 162, 1004),
  (Jvm.Cond.laysStatic "PostHouse$Sheet" "SYMBOLS" "[I"),
  wf_lk (9, 169, 531),
  wf_stat 531,
  wf_code 531,
  wf_cst (14, 265, 1431655765),
  wf_cst (14, 266, 858993459),
  wf_cst (14, 267, 252645135),
  wf_lk (9, 101, 213),
  (Jvm.Cond.privateMethod ({ cls := "PostHouse$Sheet", name := "reading", desc := "()I" } : Jvm.MethodName)),
  wf_inst 213,
  wf_code 213,
  wf_lk (9, 174, 214),
  (Jvm.Cond.privateMethod ({ cls := "PostHouse$Sheet", name := "wordEnd", desc := "(II)I" } : Jvm.MethodName)),
  wf_inst 214,
  wf_code 214,
  wf_lk (9, 177, 216),
  (Jvm.Cond.privateMethod ({ cls := "PostHouse$Sheet", name := "numberOf", desc := "(III)I" } : Jvm.MethodName)),
  wf_inst 216,
  wf_code 216,
  wf_lk (9, 180, 22),
  wf_lk (9, 185, 215),
  (Jvm.Cond.privateMethod ({ cls := "PostHouse$Sheet", name := "lastWordOf", desc := "(II)I" } : Jvm.MethodName)),
  wf_inst 215,
  wf_code 215,
  wf_lk (9, 188, 217),
  (Jvm.Cond.privateMethod ({ cls := "PostHouse$Sheet", name := "streetLike", desc := "(III)I" } : Jvm.MethodName)),
  wf_inst 217,
  wf_code 217,
  wf_lk (9, 197, 25),
  wf_inst 25,
  wf_sel 25,
  wf_code 25,
  wf_lk (9, 200, 218),
  (Jvm.Cond.privateMethod ({ cls := "PostHouse$Sheet", name := "changesTo", desc := "(III)I" } : Jvm.MethodName)),
  wf_inst 218,
  wf_code 218,
  wf_lk (9, 203, 26),
  wf_inst 26,
  wf_sel 26,
  wf_code 26,
  wf_csl (1, 144, 27),
  wf_lk (9, 191, 24),
  wf_lk (11, 383, 54),
  wf_inst 54,
  wf_sel 54,
  wf_code 54,
  wf_lk (3, 51, 148),
  wf_inst 148,
  wf_sel 148,
  wf_code 148,
  wf_lk (7, 71, 147),
  wf_inst 147,
  wf_sel 147,
  wf_code 147,
  (Jvm.Cond.methodLinkNest "PostHouse$Money" (67 : Nat) ({ cls := "PostHouse", name := "outside", desc := "(III)Z" } : Jvm.MethodName) "PostHouse"),
  (Jvm.Cond.methodLinkNest "PostHouse$Items" (47 : Nat) ({ cls := "PostHouse", name := "outside", desc := "(III)Z" } : Jvm.MethodName) "PostHouse"),
  wf_cst (3, 57, 100000),
  wf_lk (3, 58, 123),
  wf_lk (3, 64, 55),
  wf_inst 55,
  wf_sel 55,
  wf_code 55,
  wf_lk (3, 68, 42),
  wf_inst 42,
  wf_sel 42,
  wf_code 42,
  wf_lk (2, 62, 43),
  (Jvm.Cond.privateMethod ({ cls := "PostHouse$Chronicle", name := "keep", desc := "(IIII)V" } : Jvm.MethodName)),
  wf_inst 43,
  wf_code 43,
  wf_lk (11, 386, 63),
  wf_inst 63,
  wf_sel 63,
  wf_code 63,
  wf_lk (3, 82, 51),
  wf_inst 51,
  wf_sel 51,
  wf_code 51,
  wf_lk (3, 85, 28),
  wf_lk (3, 90, 59),
  (Jvm.Cond.privateMethod ({ cls := "PostHouse$Items", name := "isAtHand", desc := "(I)Z" } : Jvm.MethodName)),
  wf_inst 59,
  wf_code 59,
  wf_lk (3, 78, 52),
  wf_inst 52,
  wf_sel 52,
  wf_code 52,
  wf_lk (3, 93, 64),
  (Jvm.Cond.privateMethod ({ cls := "PostHouse$Items", name := "fixAddress", desc := "(II)V" } : Jvm.MethodName)),
  wf_inst 64,
  wf_code 64,
  wf_lk (11, 389, 65),
  wf_inst 65,
  wf_sel 65,
  wf_code 65,
  wf_lk (11, 392, 66),
  wf_inst 66,
  wf_sel 66,
  wf_code 66,
  wf_lk (3, 105, 531),
  wf_lk (11, 395, 67),
  wf_inst 67,
  wf_sel 67,
  wf_code 67,
  wf_lk (3, 111, 27),
  wf_inst 27,
  wf_sel 27,
  wf_code 27,
  wf_lk (3, 114, 56),
  wf_inst 56,
  wf_sel 56,
  wf_code 56,
  wf_lk (11, 398, 172),
  wf_inst 172,
  wf_sel 172,
  wf_code 172,
  (Jvm.Cond.methodLinkNest "PostHouse$Rounds" (89 : Nat) ({ cls := "PostHouse", name := "outside", desc := "(III)Z" } : Jvm.MethodName) "PostHouse"),
  wf_lk (8, 93, 123),
  wf_lk (11, 401, 173),
  wf_inst 173,
  wf_sel 173,
  wf_code 173,
  wf_lk (8, 99, 27),
  wf_lk (11, 404, 174),
  wf_inst 174,
  wf_sel 174,
  wf_code 174,
  wf_lk (8, 103, 28),
  wf_lk (8, 106, 168),
  wf_inst 168,
  wf_sel 168,
  wf_code 168,
  wf_lk (8, 109, 30),
  wf_inst 30,
  wf_sel 30,
  wf_code 30,
  wf_lk (11, 407, 175),
  wf_inst 175,
  wf_sel 175,
  wf_code 175,
  wf_lk (8, 113, 179),
  (Jvm.Cond.privateMethod ({ cls := "PostHouse$Rounds", name := "goToNearest", desc := "(I)V" } : Jvm.MethodName)),
  wf_inst 179,
  wf_code 179,
  wf_cst (8, 143, 2147483647),
  wf_lk (8, 123, 178)]
set_option maxRecDepth 100000 in
theorem tq_ok_5 : tables_1_5 = tq_5 := rfl
def wl_inst_5 : List (Nat) := [
  124, 33, 28, 35, 41, 34, 197, 198, 199, 200, 201, 202,
  203, 204, 205, 206, 207, 208, 209, 210, 211, 213, 214, 216,
  215, 217, 25, 218, 26, 54, 148, 147, 55, 42, 43, 63,
  51, 59, 52, 64, 65, 66, 67, 27, 56, 172, 173, 174,
  168, 30, 175, 179]
set_option maxRecDepth 100000 in
theorem wk_inst_5 : wl_inst_5.map wf_inst = ([
  1, 4, 8, 13, 16, 21, 25, 32, 39, 43, 47, 51, 56, 60, 64, 68, 72, 76, 80, 84, 88, 103, 107, 111,
  116, 120, 123, 128, 131, 137, 141, 145, 153, 157, 162, 165, 169, 175, 178, 183, 186, 190, 195, 199, 203, 207, 213, 218,
  223, 227, 231, 236] : List Nat).filterMap (fun i => tq_5[i]?) := rfl
theorem wi_inst_5 : ∀ q ∈ wl_inst_5, wf_inst q ∈ lw_tbl := fun q h => tq_mem.2.2.2.2.1 _ (by rw [tq_ok_5]; exact w_pos wk_inst_5 q h)
def wl_code_5 : List (Nat) := [
  124, 33, 28, 35, 41, 34, 197, 198, 199, 200, 201, 202,
  203, 204, 205, 206, 207, 208, 209, 210, 211, 212, 531, 213,
  214, 216, 215, 217, 25, 218, 26, 54, 148, 147, 55, 42,
  43, 63, 51, 59, 52, 64, 65, 66, 67, 27, 56, 172,
  173, 174, 168, 30, 175, 179]
set_option maxRecDepth 100000 in
theorem wk_code_5 : wl_code_5.map wf_code = ([
  2, 6, 10, 14, 18, 23, 27, 33, 40, 44, 48, 52, 57, 61, 65, 69, 73, 77, 81, 85, 89, 92, 97, 104,
  108, 112, 117, 121, 125, 129, 133, 139, 143, 147, 155, 159, 163, 167, 171, 176, 180, 184, 188, 192, 197, 201, 205, 209,
  215, 220, 225, 229, 233, 237] : List Nat).filterMap (fun i => tq_5[i]?) := rfl
theorem wi_code_5 : ∀ q ∈ wl_code_5, wf_code q ∈ lw_tbl := fun q h => tq_mem.2.2.2.2.1 _ (by rw [tq_ok_5]; exact w_pos wk_code_5 q h)
def wl_lk_5 : List (Nat × (Nat × Nat)) := [
  (11, 372, 33), (1, 155, 28), (1, 158, 35), (1, 162, 41), (11, 376, 34), (11, 379, 197), (9, 73, 123), (9, 85, 198), (9, 105, 224), (9, 109, 535), (9, 115, 534), (9, 89, 199),
  (9, 121, 200), (9, 128, 201), (9, 92, 202), (9, 132, 537), (9, 138, 203), (9, 141, 204), (9, 95, 205), (9, 145, 206), (9, 98, 207), (9, 148, 208), (9, 151, 209), (9, 155, 210),
  (9, 165, 211), (9, 158, 212), (9, 169, 531), (9, 101, 213), (9, 174, 214), (9, 177, 216), (9, 180, 22), (9, 185, 215), (9, 188, 217), (9, 197, 25), (9, 200, 218), (9, 203, 26),
  (9, 191, 24), (11, 383, 54), (3, 51, 148), (7, 71, 147), (3, 58, 123), (3, 64, 55), (3, 68, 42), (2, 62, 43), (11, 386, 63), (3, 82, 51), (3, 85, 28), (3, 90, 59),
  (3, 78, 52), (3, 93, 64), (11, 389, 65), (11, 392, 66), (3, 105, 531), (11, 395, 67), (3, 111, 27), (3, 114, 56), (11, 398, 172), (8, 93, 123), (11, 401, 173), (8, 99, 27),
  (11, 404, 174), (8, 103, 28), (8, 106, 168), (8, 109, 30), (11, 407, 175), (8, 113, 179), (8, 123, 178)]
set_option maxRecDepth 100000 in
theorem wk_lk_5 : wl_lk_5.map wf_lk = ([
  3, 7, 11, 15, 20, 24, 29, 30, 34, 35, 36, 37, 41, 45, 49, 53, 54, 58, 62, 66, 70, 74, 78, 82,
  86, 90, 95, 101, 105, 109, 113, 114, 118, 122, 126, 130, 135, 136, 140, 144, 151, 152, 156, 160, 164, 168, 172, 173,
  177, 181, 185, 189, 193, 194, 198, 202, 206, 211, 212, 216, 217, 221, 222, 226, 230, 234, 239] : List Nat).filterMap (fun i => tq_5[i]?) := rfl
theorem wi_lk_5 : ∀ q ∈ wl_lk_5, wf_lk q ∈ lw_tbl := fun q h => tq_mem.2.2.2.2.1 _ (by rw [tq_ok_5]; exact w_pos wk_lk_5 q h)
def wl_sel_5 : List (Nat) := [
  33, 28, 41, 34, 197, 25, 26, 54, 148, 147, 55, 42,
  63, 51, 52, 65, 66, 67, 27, 56, 172, 173, 174, 168,
  30, 175]
set_option maxRecDepth 100000 in
theorem wk_sel_5 : wl_sel_5.map wf_sel = ([
  5, 9, 17, 22, 26, 124, 132, 138, 142, 146, 154, 158, 166, 170, 179, 187, 191, 196, 200, 204, 208, 214, 219, 224,
  228, 232] : List Nat).filterMap (fun i => tq_5[i]?) := rfl
theorem wi_sel_5 : ∀ q ∈ wl_sel_5, wf_sel q ∈ lw_tbl := fun q h => tq_mem.2.2.2.2.1 _ (by rw [tq_ok_5]; exact w_pos wk_sel_5 q h)
def wl_cst_5 : List (Nat × (Nat × Int)) := [
  (1, 168, 100000), (14, 265, 1431655765), (14, 266, 858993459), (14, 267, 252645135), (3, 57, 100000), (8, 143, 2147483647)]
set_option maxRecDepth 100000 in
theorem wk_cst_5 : wl_cst_5.map wf_cst = ([
  19, 98, 99, 100, 150, 238] : List Nat).filterMap (fun i => tq_5[i]?) := rfl
theorem wi_cst_5 : ∀ q ∈ wl_cst_5, wf_cst q ∈ lw_tbl := fun q h => tq_mem.2.2.2.2.1 _ (by rw [tq_ok_5]; exact w_pos wk_cst_5 q h)
def wl_stat_5 : List (Nat) := [
  212, 531]
set_option maxRecDepth 100000 in
theorem wk_stat_5 : wl_stat_5.map wf_stat = ([
  91, 96] : List Nat).filterMap (fun i => tq_5[i]?) := rfl
theorem wi_stat_5 : ∀ q ∈ wl_stat_5, wf_stat q ∈ lw_tbl := fun q h => tq_mem.2.2.2.2.1 _ (by rw [tq_ok_5]; exact w_pos wk_stat_5 q h)
def wl_sl_5 : List (Nat × (Nat × Nat)) := [
  (9, 162, 1004)]
set_option maxRecDepth 100000 in
theorem wk_sl_5 : wl_sl_5.map wf_sl = ([
  93] : List Nat).filterMap (fun i => tq_5[i]?) := rfl
theorem wi_sl_5 : ∀ q ∈ wl_sl_5, wf_sl q ∈ lw_tbl := fun q h => tq_mem.2.2.2.2.1 _ (by rw [tq_ok_5]; exact w_pos wk_sl_5 q h)
def wl_csl_5 : List (Nat × (Nat × Int)) := [
  (1, 144, 27)]
set_option maxRecDepth 100000 in
theorem wk_csl_5 : wl_csl_5.map wf_csl = ([
  134] : List Nat).filterMap (fun i => tq_5[i]?) := rfl
theorem wi_csl_5 : ∀ q ∈ wl_csl_5, wf_csl q ∈ lw_tbl := fun q h => tq_mem.2.2.2.2.1 _ (by rw [tq_ok_5]; exact w_pos wk_csl_5 q h)
noncomputable def tq_6 : List Cond := [
  (Jvm.Cond.privateMethod ({ cls := "PostHouse$Rounds", name := "fromBeginning", desc := "(II)I" } : Jvm.MethodName)),
  wf_inst 178,
  wf_code 178,
  wf_lk (8, 130, 31),
  wf_inst 31,
  wf_sel 31,
  wf_code 31,
  wf_lk (8, 133, 533),
  wf_stat 533,
  wf_code 533,
  wf_lk (8, 138, 32),
  wf_inst 32,
  wf_sel 32,
  wf_code 32,
  wf_lk (8, 127, 177),
  (Jvm.Cond.privateMethod ({ cls := "PostHouse$Rounds", name := "between", desc := "(II)I" } : Jvm.MethodName)),
  wf_inst 177,
  wf_code 177,
  wf_lk (8, 117, 180),
  (Jvm.Cond.privateMethod ({ cls := "PostHouse$Rounds", name := "goLeastWay", desc := "(I)V" } : Jvm.MethodName)),
  wf_inst 180,
  wf_code 180,
  wf_lk (8, 144, 181),
  (Jvm.Cond.privateMethod ({ cls := "PostHouse$Rounds", name := "measure", desc := "(II)V" } : Jvm.MethodName)),
  wf_inst 181,
  wf_code 181,
  wf_lk (8, 148, 182),
  (Jvm.Cond.privateMethod ({ cls := "PostHouse$Rounds", name := "bestNext", desc := "(III)I" } : Jvm.MethodName)),
  wf_inst 182,
  wf_code 182,
  wf_ac (8, 152),
  wf_lk (8, 120, 176),
  (Jvm.Cond.privateMethod ({ cls := "PostHouse$Rounds", name := "wayOf", desc := "(I)I" } : Jvm.MethodName)),
  wf_inst 176,
  wf_code 176,
  wf_lk (11, 410, 183),
  wf_inst 183,
  wf_sel 183,
  wf_code 183,
  wf_lk (8, 158, 184),
  (Jvm.Cond.privateMethod ({ cls := "PostHouse$Rounds", name := "gather", desc := "(I)V" } : Jvm.MethodName)),
  wf_inst 184,
  wf_code 184,
  wf_lk (8, 174, 52),
  wf_lk (8, 179, 69),
  wf_inst 69,
  wf_sel 69,
  wf_code 69,
  wf_lk (3, 126, 149),
  wf_inst 149,
  wf_sel 149,
  wf_code 149,
  wf_lk (3, 129, 37),
  wf_inst 37,
  wf_sel 37,
  wf_code 37,
  wf_lk (1, 178, 38),
  (Jvm.Cond.privateMethod ({ cls := "PostHouse$Book", name := "orderFor", desc := "(II)I" } : Jvm.MethodName)),
  wf_inst 38,
  wf_code 38,
  wf_lk (8, 182, 186),
  (Jvm.Cond.privateMethod ({ cls := "PostHouse$Rounds", name := "placeAmong", desc := "(II)I" } : Jvm.MethodName)),
  wf_inst 186,
  wf_code 186,
  wf_lk (8, 185, 185),
  (Jvm.Cond.privateMethod ({ cls := "PostHouse$Rounds", name := "cameAfter", desc := "(II)Z" } : Jvm.MethodName)),
  wf_inst 185,
  wf_code 185,
  wf_lk (8, 161, 187),
  (Jvm.Cond.privateMethod ({ cls := "PostHouse$Rounds", name := "rank", desc := "()V" } : Jvm.MethodName)),
  wf_inst 187,
  wf_code 187,
  wf_lk (8, 167, 188),
  (Jvm.Cond.privateMethod ({ cls := "PostHouse$Rounds", name := "feedPass", desc := "(I)V" } : Jvm.MethodName)),
  wf_inst 188,
  wf_code 188,
  wf_lk (8, 188, 189),
  (Jvm.Cond.privateMethod ({ cls := "PostHouse$Rounds", name := "binReached", desc := "(II)I" } : Jvm.MethodName)),
  wf_inst 189,
  wf_code 189,
  wf_lk (8, 170, 190),
  (Jvm.Cond.privateMethod ({ cls := "PostHouse$Rounds", name := "keepSorted", desc := "(I)V" } : Jvm.MethodName)),
  wf_inst 190,
  wf_code 190,
  wf_lk (8, 191, 55),
  wf_lk (8, 194, 191),
  (Jvm.Cond.privateMethod ({ cls := "PostHouse$Rounds", name := "addStray", desc := "(I)V" } : Jvm.MethodName)),
  wf_inst 191,
  wf_code 191,
  wf_lk (11, 413, 192),
  wf_inst 192,
  wf_sel 192,
  wf_code 192,
  wf_lk (11, 416, 88),
  wf_inst 88,
  wf_sel 88,
  wf_code 88,
  wf_lk (4, 62, 27),
  (Jvm.Cond.methodLinkNest "PostHouse$Lines" (58 : Nat) ({ cls := "PostHouse", name := "outside", desc := "(III)Z" } : Jvm.MethodName) "PostHouse"),
  wf_lk (4, 66, 123),
  wf_lk (4, 72, 89),
  (Jvm.Cond.privateMethod ({ cls := "PostHouse$Lines", name := "setNext", desc := "(I)V" } : Jvm.MethodName)),
  wf_inst 89,
  wf_code 89,
  wf_lk (4, 81, 90),
  (Jvm.Cond.privateMethod ({ cls := "PostHouse$Lines", name := "firstFrom", desc := "(II)I" } : Jvm.MethodName)),
  wf_inst 90,
  wf_code 90,
  wf_lk (11, 419, 91),
  wf_inst 91,
  wf_sel 91,
  wf_code 91,
  wf_lk (4, 85, 86),
  (Jvm.Cond.privateMethod ({ cls := "PostHouse$Lines", name := "has", desc := "(I)Z" } : Jvm.MethodName)),
  wf_inst 86,
  wf_code 86,
  wf_lk (11, 422, 92),
  wf_inst 92,
  wf_sel 92,
  wf_code 92,
  wf_lk (11, 425, 93),
  wf_inst 93,
  wf_sel 93,
  wf_code 93,
  wf_lk (4, 88, 87),
  wf_inst 87,
  wf_sel 87,
  wf_code 87,
  wf_lk (4, 91, 51),
  wf_lk (4, 94, 52),
  wf_lk (4, 99, 70),
  wf_inst 70,
  wf_sel 70,
  wf_code 70,
  wf_lk (3, 117, 69),
  wf_lk (3, 136, 30),
  wf_lk (4, 103, 55),
  wf_lk (11, 428, 94),
  wf_inst 94,
  wf_sel 94,
  wf_code 94,
  wf_lk (11, 431, 95),
  wf_inst 95,
  wf_sel 95,
  wf_code 95,
  wf_lk (4, 107, 56),
  wf_lk (11, 434, 76),
  wf_inst 76,
  wf_sel 76,
  wf_code 76,
  wf_lk (3, 158, 78),
  (Jvm.Cond.privateMethod ({ cls := "PostHouse$Items", name := "handOver", desc := "(IIIIZ)I" } : Jvm.MethodName)),
  wf_inst 78,
  wf_code 78,
  wf_cst (3, 165, 1000000),
  wf_lk (3, 146, 53),
  (Jvm.Cond.privateMethod ({ cls := "PostHouse$Items", name := "serves", desc := "(II)Z" } : Jvm.MethodName)),
  wf_inst 53,
  wf_code 53,
  wf_lk (3, 120, 72),
  (Jvm.Cond.privateMethod ({ cls := "PostHouse$Items", name := "priceDue", desc := "(I)I" } : Jvm.MethodName)),
  wf_inst 72,
  wf_code 72,
  wf_lk (3, 143, 71),
  wf_inst 71,
  wf_sel 71,
  wf_code 71,
  wf_lk (3, 139, 159),
  wf_inst 159,
  wf_sel 159,
  wf_code 159,
  wf_lk (3, 123, 73),
  (Jvm.Cond.privateMethod ({ cls := "PostHouse$Items", name := "centsDue", desc := "(I)I" } : Jvm.MethodName)),
  wf_inst 73,
  wf_code 73,
  wf_lk (3, 166, 152),
  wf_inst 152,
  wf_sel 152,
  wf_code 152,
  wf_lk (3, 169, 153),
  wf_inst 153,
  wf_sel 153,
  wf_code 153,
  wf_lk (11, 437, 79),
  wf_inst 79,
  wf_sel 79,
  wf_code 79,
  wf_lk (3, 172, 57),
  wf_inst 57,
  wf_sel 57,
  wf_code 57,
  wf_lk (3, 74, 41),
  wf_lk (11, 440, 80),
  wf_inst 80,
  wf_sel 80,
  wf_code 80,
  wf_lk (3, 162, 62),
  (Jvm.Cond.privateMethod ({ cls := "PostHouse$Items", name := "isHeldAtPost", desc := "(I)Z" } : Jvm.MethodName)),
  wf_inst 62,
  wf_code 62,
  wf_lk (3, 175, 58),
  wf_inst 58,
  wf_sel 58,
  wf_code 58,
  wf_lk (11, 443, 115),
  wf_inst 115,
  wf_sel 115,
  wf_code 115,
  wf_lk (5, 68, 51),
  wf_lk (5, 73, 110),
  wf_inst 110,
  wf_sel 110,
  wf_code 110,
  (Jvm.Cond.methodLinkNest "PostHouse$Lockers" (42 : Nat) ({ cls := "PostHouse", name := "outside", desc := "(III)Z" } : Jvm.MethodName) "PostHouse"),
  wf_lk (5, 74, 52),
  wf_lk (5, 81, 74),
  wf_inst 74,
  wf_sel 74,
  wf_code 74,
  wf_lk (5, 84, 114),
  (Jvm.Cond.privateMethod ({ cls := "PostHouse$Lockers", name := "boxWith", desc := "(II)I" } : Jvm.MethodName)),
  wf_inst 114,
  wf_code 114,
  wf_lk (5, 52, 123),
  wf_lk (5, 88, 57),
  wf_lk (11, 446, 77),
  wf_inst 77,
  wf_sel 77,
  wf_code 77,
  wf_lk (11, 449, 116),
  wf_inst 116,
  wf_sel 116,
  wf_code 116,
  wf_lk (5, 92, 117),
  wf_stat 117,
  wf_code 117,
  wf_cst (5, 98, 1103515245),
  wf_lk (5, 95, 55),
  wf_lk (11, 452, 305),
  (Jvm.Cond.privateMethod ({ cls := "PostHouse", name := "loseItem", desc := "(I)I" } : Jvm.MethodName))]
set_option maxRecDepth 100000 in
theorem tq_ok_6 : tables_1_6 = tq_6 := rfl
def wl_inst_6 : List (Nat) := [
  178, 31, 32, 177, 180, 181, 182, 176, 183, 184, 69, 149,
  37, 38, 186, 185, 187, 188, 189, 190, 191, 192, 88, 89,
  90, 91, 86, 92, 93, 87, 70, 94, 95, 76, 78, 53,
  72, 71, 159, 73, 152, 153, 79, 57, 80, 62, 58, 115,
  110, 74, 114, 77, 116]
set_option maxRecDepth 100000 in
theorem wk_inst_6 : wl_inst_6.map wf_inst = ([
  1, 4, 11, 16, 20, 24, 28, 33, 36, 41, 45, 49, 53, 58, 62, 66, 70, 74, 78, 82, 87, 90, 94, 102,
  106, 109, 114, 117, 121, 125, 131, 138, 142, 147, 152, 157, 161, 164, 168, 173, 176, 180, 184, 188, 193, 198, 201, 205,
  210, 216, 221, 226, 230] : List Nat).filterMap (fun i => tq_6[i]?) := rfl
theorem wi_inst_6 : ∀ q ∈ wl_inst_6, wf_inst q ∈ lw_tbl := fun q h => tq_mem.2.2.2.2.2.1 _ (by rw [tq_ok_6]; exact w_pos wk_inst_6 q h)
def wl_code_6 : List (Nat) := [
  178, 31, 533, 32, 177, 180, 181, 182, 176, 183, 184, 69,
  149, 37, 38, 186, 185, 187, 188, 189, 190, 191, 192, 88,
  89, 90, 91, 86, 92, 93, 87, 70, 94, 95, 76, 78,
  53, 72, 71, 159, 73, 152, 153, 79, 57, 80, 62, 58,
  115, 110, 74, 114, 77, 116, 117]
set_option maxRecDepth 100000 in
theorem wk_code_6 : wl_code_6.map wf_code = ([
  2, 6, 9, 13, 17, 21, 25, 29, 34, 38, 42, 47, 51, 55, 59, 63, 67, 71, 75, 79, 83, 88, 92, 96,
  103, 107, 111, 115, 119, 123, 127, 133, 140, 144, 149, 153, 158, 162, 166, 170, 174, 178, 182, 186, 190, 195, 199, 203,
  207, 212, 218, 222, 228, 232, 235] : List Nat).filterMap (fun i => tq_6[i]?) := rfl
theorem wi_code_6 : ∀ q ∈ wl_code_6, wf_code q ∈ lw_tbl := fun q h => tq_mem.2.2.2.2.2.1 _ (by rw [tq_ok_6]; exact w_pos wk_code_6 q h)
def wl_lk_6 : List (Nat × (Nat × Nat)) := [
  (8, 130, 31), (8, 133, 533), (8, 138, 32), (8, 127, 177), (8, 117, 180), (8, 144, 181), (8, 148, 182), (8, 120, 176), (11, 410, 183), (8, 158, 184), (8, 174, 52), (8, 179, 69),
  (3, 126, 149), (3, 129, 37), (1, 178, 38), (8, 182, 186), (8, 185, 185), (8, 161, 187), (8, 167, 188), (8, 188, 189), (8, 170, 190), (8, 191, 55), (8, 194, 191), (11, 413, 192),
  (11, 416, 88), (4, 62, 27), (4, 66, 123), (4, 72, 89), (4, 81, 90), (11, 419, 91), (4, 85, 86), (11, 422, 92), (11, 425, 93), (4, 88, 87), (4, 91, 51), (4, 94, 52),
  (4, 99, 70), (3, 117, 69), (3, 136, 30), (4, 103, 55), (11, 428, 94), (11, 431, 95), (4, 107, 56), (11, 434, 76), (3, 158, 78), (3, 146, 53), (3, 120, 72), (3, 143, 71),
  (3, 139, 159), (3, 123, 73), (3, 166, 152), (3, 169, 153), (11, 437, 79), (3, 172, 57), (3, 74, 41), (11, 440, 80), (3, 162, 62), (3, 175, 58), (11, 443, 115), (5, 68, 51),
  (5, 73, 110), (5, 74, 52), (5, 81, 74), (5, 84, 114), (5, 52, 123), (5, 88, 57), (11, 446, 77), (11, 449, 116), (5, 92, 117), (5, 95, 55), (11, 452, 305)]
set_option maxRecDepth 100000 in
theorem wk_lk_6 : wl_lk_6.map wf_lk = ([
  3, 7, 10, 14, 18, 22, 26, 31, 35, 39, 43, 44, 48, 52, 56, 60, 64, 68, 72, 76, 80, 84, 85, 89,
  93, 97, 99, 100, 104, 108, 112, 116, 120, 124, 128, 129, 130, 134, 135, 136, 137, 141, 145, 146, 150, 155, 159, 163,
  167, 171, 175, 179, 183, 187, 191, 192, 196, 200, 204, 208, 209, 214, 215, 219, 223, 224, 225, 229, 233, 237, 238] : List Nat).filterMap (fun i => tq_6[i]?) := rfl
theorem wi_lk_6 : ∀ q ∈ wl_lk_6, wf_lk q ∈ lw_tbl := fun q h => tq_mem.2.2.2.2.2.1 _ (by rw [tq_ok_6]; exact w_pos wk_lk_6 q h)
def wl_sel_6 : List (Nat) := [
  31, 32, 183, 69, 149, 37, 192, 88, 91, 92, 93, 87,
  70, 94, 95, 76, 71, 159, 152, 153, 79, 57, 80, 58,
  115, 110, 74, 77, 116]
set_option maxRecDepth 100000 in
theorem wk_sel_6 : wl_sel_6.map wf_sel = ([
  5, 12, 37, 46, 50, 54, 91, 95, 110, 118, 122, 126, 132, 139, 143, 148, 165, 169, 177, 181, 185, 189, 194, 202,
  206, 211, 217, 227, 231] : List Nat).filterMap (fun i => tq_6[i]?) := rfl
theorem wi_sel_6 : ∀ q ∈ wl_sel_6, wf_sel q ∈ lw_tbl := fun q h => tq_mem.2.2.2.2.2.1 _ (by rw [tq_ok_6]; exact w_pos wk_sel_6 q h)
def wl_stat_6 : List (Nat) := [
  533, 117]
set_option maxRecDepth 100000 in
theorem wk_stat_6 : wl_stat_6.map wf_stat = ([
  8, 234] : List Nat).filterMap (fun i => tq_6[i]?) := rfl
theorem wi_stat_6 : ∀ q ∈ wl_stat_6, wf_stat q ∈ lw_tbl := fun q h => tq_mem.2.2.2.2.2.1 _ (by rw [tq_ok_6]; exact w_pos wk_stat_6 q h)
def wl_ac_6 : List (Nat × Nat) := [
  (8, 152)]
set_option maxRecDepth 100000 in
theorem wk_ac_6 : wl_ac_6.map wf_ac = ([
  30] : List Nat).filterMap (fun i => tq_6[i]?) := rfl
theorem wi_ac_6 : ∀ q ∈ wl_ac_6, wf_ac q ∈ lw_tbl := fun q h => tq_mem.2.2.2.2.2.1 _ (by rw [tq_ok_6]; exact w_pos wk_ac_6 q h)
def wl_cst_6 : List (Nat × (Nat × Int)) := [
  (3, 165, 1000000), (5, 98, 1103515245)]
set_option maxRecDepth 100000 in
theorem wk_cst_6 : wl_cst_6.map wf_cst = ([
  154, 236] : List Nat).filterMap (fun i => tq_6[i]?) := rfl
theorem wi_cst_6 : ∀ q ∈ wl_cst_6, wf_cst q ∈ lw_tbl := fun q h => tq_mem.2.2.2.2.2.1 _ (by rw [tq_ok_6]; exact w_pos wk_cst_6 q h)
noncomputable def tq_7 : List Cond := [
  wf_inst 305,
  wf_code 305,
  wf_lk (11, 266, 51),
  wf_lk (11, 507, 60),
  wf_inst 60,
  wf_sel 60,
  wf_code 60,
  wf_lk (11, 510, 123),
  wf_lk (11, 513, 96),
  wf_inst 96,
  wf_sel 96,
  wf_code 96,
  (Jvm.Cond.methodLinkNest "PostHouse$Lines" (110 : Nat) ({ cls := "PostHouse", name := "without", desc := "([III)I" } : Jvm.MethodName) "PostHouse"),
  wf_stat 309,
  wf_code 309,
  wf_lk (11, 516, 193),
  wf_inst 193,
  wf_sel 193,
  wf_code 193,
  (Jvm.Cond.methodLinkNest "PostHouse$Rounds" (197 : Nat) ({ cls := "PostHouse", name := "without", desc := "([III)I" } : Jvm.MethodName) "PostHouse"),
  wf_lk (11, 517, 118),
  wf_inst 118,
  wf_sel 118,
  wf_code 118,
  wf_lk (11, 518, 55),
  wf_lk (11, 455, 150),
  wf_inst 150,
  wf_sel 150,
  wf_code 150,
  wf_lk (7, 75, 28),
  wf_lk (7, 80, 123),
  wf_lk (11, 458, 151),
  wf_inst 151,
  wf_sel 151,
  wf_code 151,
  wf_lk (7, 86, 148),
  wf_cst (7, 89, 1000000),
  wf_lk (7, 90, 152),
  wf_lk (7, 93, 153),
  wf_lk (11, 461, 155),
  wf_inst 155,
  wf_sel 155,
  wf_code 155,
  wf_lk (7, 105, 225),
  (Jvm.Cond.stringRef "PostHouse$Money" (108 : Nat) "K#,#=#;V#=#;"),
  wf_lk (7, 110, 226),
  wf_lk (7, 114, 156),
  (Jvm.Cond.privateMethod ({ cls := "PostHouse$Money", name := "adds", desc := "(ILPostHouse$Tape;)Z" } : Jvm.MethodName)),
  wf_inst 156,
  wf_code 156,
  wf_lk (7, 127, 157),
  (Jvm.Cond.privateMethod ({ cls := "PostHouse$Money", name := "addsService", desc := "(II)Z" } : Jvm.MethodName)),
  wf_inst 157,
  wf_code 157,
  wf_lk (7, 131, 158),
  (Jvm.Cond.privateMethod ({ cls := "PostHouse$Money", name := "addsRow", desc := "(III)Z" } : Jvm.MethodName)),
  wf_inst 158,
  wf_code 158,
  wf_ac (7, 118),
  wf_lk (11, 464, 81),
  wf_inst 81,
  wf_sel 81,
  wf_code 81,
  wf_lk (11, 467, 161),
  wf_inst 161,
  wf_sel 161,
  wf_code 161,
  wf_cst (7, 134, 100000),
  wf_lk (7, 135, 41),
  wf_lk (11, 470, 162),
  wf_inst 162,
  wf_sel 162,
  wf_code 162,
  wf_lk (7, 141, 160),
  wf_inst 160,
  wf_sel 160,
  wf_code 160,
  wf_lk (7, 144, 164),
  (Jvm.Cond.privateMethod ({ cls := "PostHouse$Money", name := "settle", desc := "(III)V" } : Jvm.MethodName)),
  wf_inst 164,
  wf_code 164,
  wf_lk (11, 473, 82),
  wf_inst 82,
  wf_sel 82,
  wf_code 82,
  wf_lk (3, 182, 535),
  wf_lk (11, 476, 111),
  wf_inst 111,
  wf_sel 111,
  wf_code 111,
  wf_lk (5, 46, 27),
  wf_lk (5, 58, 537),
  wf_lk (11, 478, 47),
  wf_inst 47,
  wf_sel 47,
  wf_code 47,
  (Jvm.Cond.methodLinkNest "PostHouse$Chronicle" (66 : Nat) ({ cls := "PostHouse", name := "outside", desc := "(III)Z" } : Jvm.MethodName) "PostHouse"),
  wf_cst (2, 82, 1000000000),
  wf_lk (2, 76, 123),
  wf_lk (11, 481, 304),
  (Jvm.Cond.privateMethod ({ cls := "PostHouse", name := "scanItem", desc := "(IIII)I" } : Jvm.MethodName)),
  wf_inst 304,
  wf_code 304,
  wf_lk (11, 504, 48),
  wf_inst 48,
  wf_sel 48,
  wf_code 48,
  wf_lk (11, 484, 148),
  wf_lk (11, 487, 46),
  wf_inst 46,
  wf_sel 46,
  wf_code 46,
  wf_lk (11, 491, 306),
  (Jvm.Cond.privateMethod ({ cls := "PostHouse", name := "goOn", desc := "(I)I" } : Jvm.MethodName)),
  wf_inst 306,
  wf_code 306,
  wf_lk (11, 120, 308),
  wf_cst (11, 522, 1000000000),
  wf_lk (11, 523, 41),
  wf_lk (11, 526, 101),
  wf_inst 101,
  wf_sel 101,
  wf_code 101,
  wf_cst (4, 129, 2147483647),
  wf_lk (4, 130, 535),
  wf_lk (11, 529, 535),
  wf_lk (11, 534, 307),
  (Jvm.Cond.privateMethod ({ cls := "PostHouse", name := "beginDay", desc := "()V" } : Jvm.MethodName)),
  wf_inst 307,
  wf_code 307,
  wf_lk (11, 543, 61),
  wf_inst 61,
  wf_sel 61,
  wf_code 61,
  wf_lk (11, 546, 58),
  wf_lk (11, 549, 163),
  wf_inst 163,
  wf_sel 163,
  wf_code 163,
  wf_lk (11, 552, 119),
  wf_inst 119,
  wf_sel 119,
  wf_code 119,
  wf_lk (11, 537, 102),
  wf_inst 102,
  wf_sel 102,
  wf_code 102,
  wf_lk (11, 540, 103),
  wf_inst 103,
  wf_sel 103,
  wf_code 103,
  wf_lk (4, 135, 104),
  (Jvm.Cond.privateMethod ({ cls := "PostHouse$Lines", name := "load", desc := "(I)V" } : Jvm.MethodName)),
  wf_inst 104,
  wf_code 104,
  wf_lk (4, 114, 98),
  (Jvm.Cond.privateMethod ({ cls := "PostHouse$Lines", name := "search", desc := "(I)V" } : Jvm.MethodName)),
  wf_inst 98,
  wf_code 98,
  wf_lk (4, 120, 99),
  (Jvm.Cond.privateMethod ({ cls := "PostHouse$Lines", name := "soonestReached", desc := "()I" } : Jvm.MethodName)),
  wf_inst 99,
  wf_code 99,
  wf_lk (4, 124, 100),
  (Jvm.Cond.privateMethod ({ cls := "PostHouse$Lines", name := "reachBy", desc := "(I)V" } : Jvm.MethodName)),
  wf_inst 100,
  wf_code 100,
  wf_lk (4, 138, 105),
  (Jvm.Cond.privateMethod ({ cls := "PostHouse$Lines", name := "carriedBy", desc := "(I)I" } : Jvm.MethodName)),
  wf_inst 105,
  wf_code 105,
  wf_lk (11, 166, 141),
  wf_lk (11, 169, 142),
  wf_inst 142,
  wf_sel 142,
  wf_code 142,
  wf_lk (13, 61, 234),
  wf_inst 234,
  wf_sel 234,
  wf_code 234,
  wf_lk (11, 172, 136),
  wf_inst 136,
  wf_sel 136,
  wf_code 136,
  wf_lk (13, 73, 235),
  wf_inst 235,
  wf_sel 235,
  wf_code 235,
  wf_lk (13, 78, 236),
  wf_inst 236,
  wf_sel 236,
  wf_code 236,
  wf_lk (11, 234, 122),
  wf_inst 122,
  wf_sel 122,
  wf_code 122,
  wf_lk (13, 82, 237),
  wf_inst 237,
  wf_sel 237,
  wf_code 237,
  wf_lk (13, 87, 238),
  wf_inst 238,
  wf_sel 238,
  wf_code 238,
  wf_lk (13, 91, 239),
  wf_inst 239,
  wf_sel 239,
  wf_code 239,
  wf_lk (11, 238, 36),
  wf_inst 36,
  wf_sel 36,
  wf_code 36,
  wf_lk (1, 169, 37),
  wf_lk (13, 95, 240),
  wf_inst 240,
  wf_sel 240,
  wf_code 240,
  wf_lk (13, 99, 241),
  wf_inst 241,
  wf_sel 241,
  wf_code 241,
  wf_lk (11, 244, 22),
  wf_lk (13, 103, 242),
  wf_inst 242,
  wf_sel 242,
  wf_code 242,
  wf_lk (11, 248, 28),
  wf_lk (11, 251, 169),
  wf_inst 169,
  wf_sel 169,
  wf_code 169,
  wf_lk (11, 254, 29),
  wf_inst 29,
  wf_sel 29,
  wf_code 29,
  wf_lk (1, 146, 31),
  wf_lk (1, 149, 32),
  wf_lk (1, 152, 30),
  wf_lk (13, 107, 243),
  wf_inst 243]
set_option maxRecDepth 100000 in
theorem tq_ok_7 : tables_1_7 = tq_7 := rfl
def wl_inst_7 : List (Nat) := [
  305, 60, 96, 193, 118, 150, 151, 155, 156, 157, 158, 81,
  161, 162, 160, 164, 82, 111, 47, 304, 48, 46, 306, 101,
  307, 61, 163, 119, 102, 103, 104, 98, 99, 100, 105, 142,
  234, 136, 235, 236, 122, 237, 238, 239, 36, 240, 241, 242,
  169, 29, 243]
set_option maxRecDepth 100000 in
theorem wk_inst_7 : wl_inst_7.map wf_inst = ([
  0, 4, 9, 16, 21, 26, 32, 40, 48, 52, 56, 60, 64, 70, 74, 79, 82, 87, 93, 101, 104, 109, 114, 120,
  128, 131, 136, 140, 144, 148, 153, 157, 161, 165, 169, 173, 177, 181, 185, 189, 193, 197, 201, 205, 209, 214, 218, 223,
  228, 232, 239] : List Nat).filterMap (fun i => tq_7[i]?) := rfl
theorem wi_inst_7 : ∀ q ∈ wl_inst_7, wf_inst q ∈ lw_tbl := fun q h => tq_mem.2.2.2.2.2.2.1 _ (by rw [tq_ok_7]; exact w_pos wk_inst_7 q h)
def wl_code_7 : List (Nat) := [
  305, 60, 96, 309, 193, 118, 150, 151, 155, 156, 157, 158,
  81, 161, 162, 160, 164, 82, 111, 47, 304, 48, 46, 306,
  101, 307, 61, 163, 119, 102, 103, 104, 98, 99, 100, 105,
  142, 234, 136, 235, 236, 122, 237, 238, 239, 36, 240, 241,
  242, 169, 29]
set_option maxRecDepth 100000 in
theorem wk_code_7 : wl_code_7.map wf_code = ([
  1, 6, 11, 14, 18, 23, 28, 34, 42, 49, 53, 57, 62, 66, 72, 76, 80, 84, 89, 95, 102, 106, 111, 115,
  122, 129, 133, 138, 142, 146, 150, 154, 158, 162, 166, 170, 175, 179, 183, 187, 191, 195, 199, 203, 207, 211, 216, 220,
  225, 230, 234] : List Nat).filterMap (fun i => tq_7[i]?) := rfl
theorem wi_code_7 : ∀ q ∈ wl_code_7, wf_code q ∈ lw_tbl := fun q h => tq_mem.2.2.2.2.2.2.1 _ (by rw [tq_ok_7]; exact w_pos wk_code_7 q h)
def wl_lk_7 : List (Nat × (Nat × Nat)) := [
  (11, 266, 51), (11, 507, 60), (11, 510, 123), (11, 513, 96), (11, 516, 193), (11, 517, 118), (11, 518, 55), (11, 455, 150), (7, 75, 28), (7, 80, 123), (11, 458, 151), (7, 86, 148),
  (7, 90, 152), (7, 93, 153), (11, 461, 155), (7, 105, 225), (7, 110, 226), (7, 114, 156), (7, 127, 157), (7, 131, 158), (11, 464, 81), (11, 467, 161), (7, 135, 41), (11, 470, 162),
  (7, 141, 160), (7, 144, 164), (11, 473, 82), (3, 182, 535), (11, 476, 111), (5, 46, 27), (5, 58, 537), (11, 478, 47), (2, 76, 123), (11, 481, 304), (11, 504, 48), (11, 484, 148),
  (11, 487, 46), (11, 491, 306), (11, 120, 308), (11, 523, 41), (11, 526, 101), (4, 130, 535), (11, 529, 535), (11, 534, 307), (11, 543, 61), (11, 546, 58), (11, 549, 163), (11, 552, 119),
  (11, 537, 102), (11, 540, 103), (4, 135, 104), (4, 114, 98), (4, 120, 99), (4, 124, 100), (4, 138, 105), (11, 166, 141), (11, 169, 142), (13, 61, 234), (11, 172, 136), (13, 73, 235),
  (13, 78, 236), (11, 234, 122), (13, 82, 237), (13, 87, 238), (13, 91, 239), (11, 238, 36), (1, 169, 37), (13, 95, 240), (13, 99, 241), (11, 244, 22), (13, 103, 242), (11, 248, 28),
  (11, 251, 169), (11, 254, 29), (1, 146, 31), (1, 149, 32), (1, 152, 30), (13, 107, 243)]
set_option maxRecDepth 100000 in
theorem wk_lk_7 : wl_lk_7.map wf_lk = ([
  2, 3, 7, 8, 15, 20, 24, 25, 29, 30, 31, 35, 37, 38, 39, 43, 45, 46, 50, 54, 59, 63, 68, 69,
  73, 77, 81, 85, 86, 90, 91, 92, 98, 99, 103, 107, 108, 112, 116, 118, 119, 124, 125, 126, 130, 134, 135, 139,
  143, 147, 151, 155, 159, 163, 167, 171, 172, 176, 180, 184, 188, 192, 196, 200, 204, 208, 212, 213, 217, 221, 222, 226,
  227, 231, 235, 236, 237, 238] : List Nat).filterMap (fun i => tq_7[i]?) := rfl
theorem wi_lk_7 : ∀ q ∈ wl_lk_7, wf_lk q ∈ lw_tbl := fun q h => tq_mem.2.2.2.2.2.2.1 _ (by rw [tq_ok_7]; exact w_pos wk_lk_7 q h)
def wl_sel_7 : List (Nat) := [
  60, 96, 193, 118, 150, 151, 155, 81, 161, 162, 160, 82,
  111, 47, 48, 46, 101, 61, 163, 119, 102, 103, 142, 234,
  136, 235, 236, 122, 237, 238, 239, 36, 240, 241, 242, 169,
  29]
set_option maxRecDepth 100000 in
theorem wk_sel_7 : wl_sel_7.map wf_sel = ([
  5, 10, 17, 22, 27, 33, 41, 61, 65, 71, 75, 83, 88, 94, 105, 110, 121, 132, 137, 141, 145, 149, 174, 178,
  182, 186, 190, 194, 198, 202, 206, 210, 215, 219, 224, 229, 233] : List Nat).filterMap (fun i => tq_7[i]?) := rfl
theorem wi_sel_7 : ∀ q ∈ wl_sel_7, wf_sel q ∈ lw_tbl := fun q h => tq_mem.2.2.2.2.2.2.1 _ (by rw [tq_ok_7]; exact w_pos wk_sel_7 q h)
def wl_stat_7 : List (Nat) := [
  309]
set_option maxRecDepth 100000 in
theorem wk_stat_7 : wl_stat_7.map wf_stat = ([
  13] : List Nat).filterMap (fun i => tq_7[i]?) := rfl
theorem wi_stat_7 : ∀ q ∈ wl_stat_7, wf_stat q ∈ lw_tbl := fun q h => tq_mem.2.2.2.2.2.2.1 _ (by rw [tq_ok_7]; exact w_pos wk_stat_7 q h)
def wl_cst_7 : List (Nat × (Nat × Int)) := [
  (7, 89, 1000000), (7, 134, 100000), (2, 82, 1000000000), (11, 522, 1000000000), (4, 129, 2147483647)]
set_option maxRecDepth 100000 in
theorem wk_cst_7 : wl_cst_7.map wf_cst = ([
  36, 67, 97, 117, 123] : List Nat).filterMap (fun i => tq_7[i]?) := rfl
theorem wi_cst_7 : ∀ q ∈ wl_cst_7, wf_cst q ∈ lw_tbl := fun q h => tq_mem.2.2.2.2.2.2.1 _ (by rw [tq_ok_7]; exact w_pos wk_cst_7 q h)
def wl_ac_7 : List (Nat × Nat) := [
  (7, 118)]
set_option maxRecDepth 100000 in
theorem wk_ac_7 : wl_ac_7.map wf_ac = ([
  58] : List Nat).filterMap (fun i => tq_7[i]?) := rfl
theorem wi_ac_7 : ∀ q ∈ wl_ac_7, wf_ac q ∈ lw_tbl := fun q h => tq_mem.2.2.2.2.2.2.1 _ (by rw [tq_ok_7]; exact w_pos wk_ac_7 q h)
noncomputable def tq_8 : List Cond := [
  wf_sel 243,
  wf_code 243,
  wf_lk (13, 111, 244),
  wf_inst 244,
  wf_sel 244,
  wf_code 244,
  wf_lk (13, 115, 245),
  wf_inst 245,
  wf_sel 245,
  wf_code 245,
  wf_lk (11, 260, 219),
  wf_inst 219,
  wf_sel 219,
  wf_code 219,
  wf_lk (13, 119, 246),
  wf_inst 246,
  wf_sel 246,
  wf_code 246,
  wf_lk (11, 263, 220),
  wf_inst 220,
  wf_sel 220,
  wf_code 220,
  wf_lk (13, 123, 247),
  wf_inst 247,
  wf_sel 247,
  wf_code 247,
  wf_lk (13, 128, 248),
  wf_inst 248,
  wf_sel 248,
  wf_code 248,
  wf_lk (13, 132, 249),
  wf_inst 249,
  wf_sel 249,
  wf_code 249,
  wf_lk (13, 136, 250),
  wf_inst 250,
  wf_sel 250,
  wf_code 250,
  wf_lk (13, 140, 251),
  wf_inst 251,
  wf_sel 251,
  wf_code 251,
  wf_lk (13, 144, 252),
  wf_inst 252,
  wf_sel 252,
  wf_code 252,
  wf_lk (11, 269, 68),
  wf_inst 68,
  wf_sel 68,
  wf_code 68,
  wf_lk (13, 148, 253),
  wf_inst 253,
  wf_sel 253,
  wf_code 253,
  wf_lk (11, 272, 75),
  wf_inst 75,
  wf_sel 75,
  wf_code 75,
  wf_lk (3, 149, 2),
  wf_inst 2,
  wf_sel 2,
  wf_code 2,
  wf_lk (3, 155, 3),
  wf_inst 3,
  wf_sel 3,
  wf_code 3,
  wf_sl (0, 25, 1000),
  (Jvm.Cond.laysStatic "PostHouse$Bars" "DIVISOR" "[I"),
  wf_lk (0, 28, 1),
  wf_stat 1,
  wf_code 1,
  wf_sl (0, 19, 1002),
  (Jvm.Cond.laysStatic "PostHouse$Bars" "POWERS" "[I"),
  wf_sl (0, 22, 1001),
  (Jvm.Cond.laysStatic "PostHouse$Bars" "LOGS" "[I"),
  wf_lk (13, 152, 254),
  wf_inst 254,
  wf_sel 254,
  wf_code 254,
  wf_lk (11, 280, 4),
  wf_inst 4,
  wf_sel 4,
  wf_code 4,
  wf_lk (0, 32, 224),
  wf_lk (11, 283, 6),
  wf_inst 6,
  wf_sel 6,
  wf_code 6,
  wf_lk (0, 38, 7),
  wf_stat 7,
  wf_code 7,
  wf_lk (0, 41, 8),
  (Jvm.Cond.privateMethod ({ cls := "PostHouse$Bars", name := "mendsOne", desc := "(I)Z" } : Jvm.MethodName)),
  wf_inst 8,
  wf_code 8,
  wf_lk (0, 48, 532),
  wf_stat 532,
  wf_code 532,
  wf_lk (0, 45, 9),
  (Jvm.Cond.privateMethod ({ cls := "PostHouse$Bars", name := "mendsTwo", desc := "(I)Z" } : Jvm.MethodName)),
  wf_inst 9,
  wf_code 9,
  wf_lk (11, 287, 5),
  wf_inst 5,
  wf_sel 5,
  wf_code 5,
  wf_lk (13, 156, 255),
  wf_inst 255,
  wf_sel 255,
  wf_code 255,
  wf_lk (13, 160, 256),
  wf_inst 256,
  wf_sel 256,
  wf_code 256,
  wf_lk (13, 164, 257),
  wf_inst 257,
  wf_sel 257,
  wf_code 257,
  wf_lk (13, 168, 258),
  wf_inst 258,
  wf_sel 258,
  wf_code 258,
  wf_lk (13, 172, 259),
  wf_inst 259,
  wf_sel 259,
  wf_code 259,
  wf_lk (13, 176, 260),
  wf_inst 260,
  wf_sel 260,
  wf_code 260,
  wf_lk (11, 293, 168),
  wf_lk (11, 294, 170),
  wf_inst 170,
  wf_sel 170,
  wf_code 170,
  wf_lk (13, 180, 261),
  wf_inst 261,
  wf_sel 261,
  wf_code 261,
  wf_lk (13, 184, 262),
  wf_inst 262,
  wf_sel 262,
  wf_code 262,
  wf_lk (13, 188, 263),
  wf_inst 263,
  wf_sel 263,
  wf_code 263,
  wf_lk (13, 192, 264),
  wf_inst 264,
  wf_sel 264,
  wf_code 264,
  wf_lk (11, 306, 171),
  wf_inst 171,
  wf_sel 171,
  wf_code 171,
  wf_lk (13, 196, 265),
  wf_inst 265,
  wf_sel 265,
  wf_code 265,
  wf_lk (13, 200, 266),
  wf_inst 266,
  wf_sel 266,
  wf_code 266,
  wf_lk (13, 204, 267),
  wf_inst 267,
  wf_sel 267,
  wf_code 267,
  wf_lk (13, 208, 268),
  wf_inst 268,
  wf_sel 268,
  wf_code 268,
  wf_lk (13, 212, 269),
  wf_inst 269,
  wf_sel 269,
  wf_code 269,
  wf_lk (13, 216, 270),
  wf_inst 270,
  wf_sel 270,
  wf_code 270,
  wf_lk (13, 220, 271),
  wf_inst 271,
  wf_sel 271,
  wf_code 271,
  wf_lk (13, 224, 272),
  wf_inst 272,
  wf_sel 272,
  wf_code 272,
  wf_lk (11, 309, 87),
  wf_lk (13, 228, 273),
  wf_inst 273,
  wf_sel 273,
  wf_code 273,
  wf_lk (11, 316, 97),
  wf_inst 97,
  wf_sel 97,
  wf_code 97,
  wf_lk (13, 232, 274),
  wf_inst 274,
  wf_sel 274,
  wf_code 274,
  wf_lk (13, 236, 275),
  wf_inst 275,
  wf_sel 275,
  wf_code 275,
  wf_lk (13, 240, 276),
  wf_inst 276,
  wf_sel 276,
  wf_code 276,
  wf_lk (13, 244, 277),
  wf_inst 277,
  wf_sel 277,
  wf_code 277,
  wf_lk (13, 248, 278),
  wf_inst 278,
  wf_sel 278,
  wf_code 278,
  wf_lk (13, 252, 279),
  wf_inst 279,
  wf_sel 279,
  wf_code 279,
  wf_lk (13, 256, 280),
  wf_inst 280,
  wf_sel 280,
  wf_code 280,
  wf_lk (13, 260, 281),
  wf_inst 281,
  wf_sel 281,
  wf_code 281,
  wf_lk (13, 264, 282),
  wf_inst 282,
  wf_sel 282,
  wf_code 282,
  wf_lk (13, 268, 283),
  wf_inst 283,
  wf_sel 283,
  wf_code 283,
  wf_csl (11, 319, (-105)),
  wf_lk (11, 321, 147),
  wf_csl (11, 326, (-101)),
  wf_lk (13, 273, 284)]
set_option maxRecDepth 100000 in
theorem tq_ok_8 : tables_1_8 = tq_8 := rfl
def wl_sel_8 : List (Nat) := [
  243, 244, 245, 219, 246, 220, 247, 248, 249, 250, 251, 252,
  68, 253, 75, 2, 3, 254, 4, 6, 5, 255, 256, 257,
  258, 259, 260, 170, 261, 262, 263, 264, 171, 265, 266, 267,
  268, 269, 270, 271, 272, 273, 97, 274, 275, 276, 277, 278,
  279, 280, 281, 282, 283]
set_option maxRecDepth 100000 in
theorem wk_sel_8 : wl_sel_8.map wf_sel = ([
  0, 4, 8, 12, 16, 20, 24, 28, 32, 36, 40, 44, 48, 52, 56, 60, 64, 77, 81, 86, 104, 108, 112, 116,
  120, 124, 128, 133, 137, 141, 145, 149, 153, 157, 161, 165, 169, 173, 177, 181, 185, 190, 194, 198, 202, 206, 210, 214,
  218, 222, 226, 230, 234] : List Nat).filterMap (fun i => tq_8[i]?) := rfl
theorem wi_sel_8 : ∀ q ∈ wl_sel_8, wf_sel q ∈ lw_tbl := fun q h => tq_mem.2.2.2.2.2.2.2.1 _ (by rw [tq_ok_8]; exact w_pos wk_sel_8 q h)
def wl_code_8 : List (Nat) := [
  243, 244, 245, 219, 246, 220, 247, 248, 249, 250, 251, 252,
  68, 253, 75, 2, 3, 1, 254, 4, 6, 7, 8, 532,
  9, 5, 255, 256, 257, 258, 259, 260, 170, 261, 262, 263,
  264, 171, 265, 266, 267, 268, 269, 270, 271, 272, 273, 97,
  274, 275, 276, 277, 278, 279, 280, 281, 282, 283]
set_option maxRecDepth 100000 in
theorem wk_code_8 : wl_code_8.map wf_code = ([
  1, 5, 9, 13, 17, 21, 25, 29, 33, 37, 41, 45, 49, 53, 57, 61, 65, 70, 78, 82, 87, 90, 94, 97,
  101, 105, 109, 113, 117, 121, 125, 129, 134, 138, 142, 146, 150, 154, 158, 162, 166, 170, 174, 178, 182, 186, 191, 195,
  199, 203, 207, 211, 215, 219, 223, 227, 231, 235] : List Nat).filterMap (fun i => tq_8[i]?) := rfl
theorem wi_code_8 : ∀ q ∈ wl_code_8, wf_code q ∈ lw_tbl := fun q h => tq_mem.2.2.2.2.2.2.2.1 _ (by rw [tq_ok_8]; exact w_pos wk_code_8 q h)
def wl_lk_8 : List (Nat × (Nat × Nat)) := [
  (13, 111, 244), (13, 115, 245), (11, 260, 219), (13, 119, 246), (11, 263, 220), (13, 123, 247), (13, 128, 248), (13, 132, 249), (13, 136, 250), (13, 140, 251), (13, 144, 252), (11, 269, 68),
  (13, 148, 253), (11, 272, 75), (3, 149, 2), (3, 155, 3), (0, 28, 1), (13, 152, 254), (11, 280, 4), (0, 32, 224), (11, 283, 6), (0, 38, 7), (0, 41, 8), (0, 48, 532),
  (0, 45, 9), (11, 287, 5), (13, 156, 255), (13, 160, 256), (13, 164, 257), (13, 168, 258), (13, 172, 259), (13, 176, 260), (11, 293, 168), (11, 294, 170), (13, 180, 261), (13, 184, 262),
  (13, 188, 263), (13, 192, 264), (11, 306, 171), (13, 196, 265), (13, 200, 266), (13, 204, 267), (13, 208, 268), (13, 212, 269), (13, 216, 270), (13, 220, 271), (13, 224, 272), (11, 309, 87),
  (13, 228, 273), (11, 316, 97), (13, 232, 274), (13, 236, 275), (13, 240, 276), (13, 244, 277), (13, 248, 278), (13, 252, 279), (13, 256, 280), (13, 260, 281), (13, 264, 282), (13, 268, 283),
  (11, 321, 147), (13, 273, 284)]
set_option maxRecDepth 100000 in
theorem wk_lk_8 : wl_lk_8.map wf_lk = ([
  2, 6, 10, 14, 18, 22, 26, 30, 34, 38, 42, 46, 50, 54, 58, 62, 68, 75, 79, 83, 84, 88, 91, 95,
  98, 102, 106, 110, 114, 118, 122, 126, 130, 131, 135, 139, 143, 147, 151, 155, 159, 163, 167, 171, 175, 179, 183, 187,
  188, 192, 196, 200, 204, 208, 212, 216, 220, 224, 228, 232, 237, 239] : List Nat).filterMap (fun i => tq_8[i]?) := rfl
theorem wi_lk_8 : ∀ q ∈ wl_lk_8, wf_lk q ∈ lw_tbl := fun q h => tq_mem.2.2.2.2.2.2.2.1 _ (by rw [tq_ok_8]; exact w_pos wk_lk_8 q h)
def wl_inst_8 : List (Nat) := [
  244, 245, 219, 246, 220, 247, 248, 249, 250, 251, 252, 68,
  253, 75, 2, 3, 254, 4, 6, 8, 9, 5, 255, 256,
  257, 258, 259, 260, 170, 261, 262, 263, 264, 171, 265, 266,
  267, 268, 269, 270, 271, 272, 273, 97, 274, 275, 276, 277,
  278, 279, 280, 281, 282, 283]
set_option maxRecDepth 100000 in
theorem wk_inst_8 : wl_inst_8.map wf_inst = ([
  3, 7, 11, 15, 19, 23, 27, 31, 35, 39, 43, 47, 51, 55, 59, 63, 76, 80, 85, 93, 100, 103, 107, 111,
  115, 119, 123, 127, 132, 136, 140, 144, 148, 152, 156, 160, 164, 168, 172, 176, 180, 184, 189, 193, 197, 201, 205, 209,
  213, 217, 221, 225, 229, 233] : List Nat).filterMap (fun i => tq_8[i]?) := rfl
theorem wi_inst_8 : ∀ q ∈ wl_inst_8, wf_inst q ∈ lw_tbl := fun q h => tq_mem.2.2.2.2.2.2.2.1 _ (by rw [tq_ok_8]; exact w_pos wk_inst_8 q h)
def wl_sl_8 : List (Nat × (Nat × Nat)) := [
  (0, 25, 1000), (0, 19, 1002), (0, 22, 1001)]
set_option maxRecDepth 100000 in
theorem wk_sl_8 : wl_sl_8.map wf_sl = ([
  66, 71, 73] : List Nat).filterMap (fun i => tq_8[i]?) := rfl
theorem wi_sl_8 : ∀ q ∈ wl_sl_8, wf_sl q ∈ lw_tbl := fun q h => tq_mem.2.2.2.2.2.2.2.1 _ (by rw [tq_ok_8]; exact w_pos wk_sl_8 q h)
def wl_stat_8 : List (Nat) := [
  1, 7, 532]
set_option maxRecDepth 100000 in
theorem wk_stat_8 : wl_stat_8.map wf_stat = ([
  69, 89, 96] : List Nat).filterMap (fun i => tq_8[i]?) := rfl
theorem wi_stat_8 : ∀ q ∈ wl_stat_8, wf_stat q ∈ lw_tbl := fun q h => tq_mem.2.2.2.2.2.2.2.1 _ (by rw [tq_ok_8]; exact w_pos wk_stat_8 q h)
def wl_csl_8 : List (Nat × (Nat × Int)) := [
  (11, 319, (-105)), (11, 326, (-101))]
set_option maxRecDepth 100000 in
theorem wk_csl_8 : wl_csl_8.map wf_csl = ([
  236, 238] : List Nat).filterMap (fun i => tq_8[i]?) := rfl
theorem wi_csl_8 : ∀ q ∈ wl_csl_8, wf_csl q ∈ lw_tbl := fun q h => tq_mem.2.2.2.2.2.2.2.1 _ (by rw [tq_ok_8]; exact w_pos wk_csl_8 q h)
noncomputable def tq_9 : List Cond := [
  wf_inst 284,
  wf_sel 284,
  wf_code 284,
  wf_lk (11, 328, 154),
  wf_inst 154,
  wf_sel 154,
  wf_code 154,
  wf_lk (13, 277, 285),
  wf_inst 285,
  wf_sel 285,
  wf_code 285,
  wf_lk (13, 281, 286),
  wf_inst 286,
  wf_sel 286,
  wf_code 286,
  wf_lk (11, 331, 71),
  wf_lk (13, 285, 287),
  wf_inst 287,
  wf_sel 287,
  wf_code 287,
  wf_lk (13, 289, 288),
  wf_inst 288,
  wf_sel 288,
  wf_code 288,
  wf_lk (13, 293, 289),
  wf_inst 289,
  wf_sel 289,
  wf_code 289,
  wf_lk (13, 297, 290),
  wf_inst 290,
  wf_sel 290,
  wf_code 290,
  wf_lk (11, 334, 160),
  wf_lk (13, 301, 291),
  wf_inst 291,
  wf_sel 291,
  wf_code 291,
  wf_lk (13, 305, 292),
  wf_inst 292,
  wf_sel 292,
  wf_code 292,
  wf_lk (13, 309, 293),
  wf_inst 293,
  wf_sel 293,
  wf_code 293,
  wf_lk (11, 340, 110),
  wf_lk (11, 341, 112),
  wf_inst 112,
  wf_sel 112,
  wf_code 112,
  wf_lk (5, 64, 113),
  (Jvm.Cond.privateMethod ({ cls := "PostHouse$Lockers", name := "freeBoxes", desc := "(I)I" } : Jvm.MethodName)),
  wf_inst 113,
  wf_code 113,
  wf_lk (13, 313, 294),
  wf_inst 294,
  wf_sel 294,
  wf_code 294,
  wf_lk (13, 317, 295),
  wf_inst 295,
  wf_sel 295,
  wf_code 295,
  wf_lk (13, 321, 296),
  wf_inst 296,
  wf_sel 296,
  wf_code 296,
  wf_lk (11, 344, 44),
  wf_inst 44,
  wf_sel 44,
  wf_code 44,
  wf_lk (13, 325, 297),
  wf_inst 297,
  wf_sel 297,
  wf_code 297,
  wf_lk (13, 330, 298),
  wf_inst 298,
  wf_sel 298,
  wf_code 298,
  wf_lk (11, 347, 45),
  wf_inst 45,
  wf_sel 45,
  wf_code 45,
  wf_lk (2, 70, 535),
  wf_lk (13, 334, 299),
  wf_inst 299,
  wf_sel 299,
  wf_code 299,
  wf_lk (13, 338, 300),
  wf_inst 300,
  wf_sel 300,
  wf_code 300,
  wf_lk (13, 342, 301),
  wf_inst 301,
  wf_sel 301,
  wf_code 301,
  wf_lk (11, 353, 165),
  wf_inst 165,
  wf_sel 165,
  wf_code 165,
  wf_lk (11, 356, 106),
  wf_inst 106,
  wf_sel 106,
  wf_code 106,
  wf_lk (11, 359, 107),
  wf_inst 107,
  wf_sel 107,
  wf_code 107,
  wf_lk (4, 144, 537),
  wf_lk (4, 150, 83),
  wf_inst 83,
  wf_sel 83,
  wf_code 83,
  wf_lk (11, 362, 194),
  wf_inst 194,
  wf_sel 194,
  wf_code 194,
  wf_lk (8, 204, 83),
  wf_lk (11, 363, 120),
  wf_inst 120,
  wf_sel 120,
  wf_code 120,
  (Jvm.Cond.methodLink "PostHouseLaw" (35 : Nat) ({ cls := "PostHouseLaw", name := "feed", desc := "(LPostHouse;IIIII[J)I" } : Jvm.MethodName)),
  (Jvm.Cond.static ({ cls := "PostHouseLaw", name := "feed", desc := "(LPostHouse;IIIII[J)I" } : Jvm.MethodName)),
  (Jvm.Cond.codeWith ({ cls := "PostHouseLaw", name := "feed", desc := "(LPostHouse;IIIII[J)I" } : Jvm.MethodName) method_3_code (8 : Nat) (Option.some Jvm.ClassFile.FieldType.int) [((0 : Nat), (16 : Nat), (19 : Nat), (13 : Nat))]),
  (Jvm.Cond.classLink "PostHouseLaw" (13 : Nat) "java/lang/IllegalStateException"),
  (Jvm.Cond.methodLink "PostHouseLaw" (7 : Nat) ({ cls := "PostHouse", name := "feed", desc := "(IIIII)I" } : Jvm.MethodName)),
  (Jvm.Cond.instanceMethod ({ cls := "PostHouse", name := "feed", desc := "(IIIII)I" } : Jvm.MethodName)),
  (Jvm.Cond.selects "PostHouse" ({ cls := "PostHouse", name := "feed", desc := "(IIIII)I" } : Jvm.MethodName) ({ cls := "PostHouse", name := "feed", desc := "(IIIII)I" } : Jvm.MethodName)),
  (Jvm.Cond.code ({ cls := "PostHouse", name := "feed", desc := "(IIIII)I" } : Jvm.MethodName) prog_1_method_2_code (6 : Nat) (Option.some Jvm.ClassFile.FieldType.int)),
  (Jvm.Cond.classLink "PostHouse" (109 : Nat) "java/lang/IllegalStateException"),
  (Jvm.Cond.instantiable "java/lang/IllegalStateException" (6 : Nat)),
  (Jvm.Cond.castable "java/lang/IllegalStateException" "java/lang/IllegalStateException"),
  (Jvm.Cond.declares ({ cls := "java/lang/RuntimeException", name := "<init>", desc := "()V" } : Jvm.MethodName)),
  (Jvm.Cond.declares ({ cls := "java/lang/RuntimeException", name := "<init>", desc := "(Ljava/lang/String;)V" } : Jvm.MethodName)),
  (Jvm.Cond.declares ({ cls := "java/lang/Exception", name := "<init>", desc := "()V" } : Jvm.MethodName)),
  (Jvm.Cond.declares ({ cls := "java/lang/Exception", name := "<init>", desc := "(Ljava/lang/String;)V" } : Jvm.MethodName)),
  (Jvm.Cond.declares ({ cls := "java/lang/Throwable", name := "<init>", desc := "()V" } : Jvm.MethodName)),
  (Jvm.Cond.declares ({ cls := "java/lang/Throwable", name := "<init>", desc := "(Ljava/lang/String;)V" } : Jvm.MethodName)),
  (Jvm.Cond.selects "java/lang/IllegalStateException" ({ cls := "java/lang/Throwable", name := "fillInStackTrace", desc := "(I)Ljava/lang/Throwable;" } : Jvm.MethodName) ({ cls := "java/lang/Throwable", name := "fillInStackTrace", desc := "(I)Ljava/lang/Throwable;" } : Jvm.MethodName)),
  (Jvm.Cond.selects "java/lang/IllegalStateException" ({ cls := "java/lang/Throwable", name := "fillInStackTrace", desc := "()Ljava/lang/Throwable;" } : Jvm.MethodName) ({ cls := "java/lang/Throwable", name := "fillInStackTrace", desc := "()Ljava/lang/Throwable;" } : Jvm.MethodName)),
  (Jvm.Cond.lays "java/lang/IllegalStateException" "java/lang/Throwable" "cause" "Ljava/lang/Throwable;"),
  (Jvm.Cond.lays "java/lang/Throwable" "java/lang/Throwable" "cause" "Ljava/lang/Throwable;"),
  (Jvm.Cond.lays "java/lang/IllegalStateException" "java/lang/Throwable" "stackTrace" "[Ljava/lang/StackTraceElement;"),
  (Jvm.Cond.lays "java/lang/Throwable" "java/lang/Throwable" "stackTrace" "[Ljava/lang/StackTraceElement;"),
  (Jvm.Cond.lays "java/lang/IllegalStateException" "java/lang/Throwable" "suppressedExceptions" "Ljava/util/List;"),
  (Jvm.Cond.lays "java/lang/Throwable" "java/lang/Throwable" "suppressedExceptions" "Ljava/util/List;"),
  (Jvm.Cond.lays "java/lang/IllegalStateException" "java/lang/Throwable" "detailMessage" "Ljava/lang/String;"),
  (Jvm.Cond.lays "java/lang/Throwable" "java/lang/Throwable" "detailMessage" "Ljava/lang/String;"),
  (Jvm.Cond.lays "java/lang/IllegalStateException" "java/lang/Throwable" "backtrace" "Ljava/lang/Object;"),
  (Jvm.Cond.lays "java/lang/Throwable" "java/lang/Throwable" "backtrace" "Ljava/lang/Object;"),
  (Jvm.Cond.fieldLink "java/lang/Throwable" (198 : Nat) "java/lang/Throwable" "backtrace" "Ljava/lang/Object;"),
  (Jvm.Cond.superclass "java/lang/Throwable" "java/lang/Object"),
  (Jvm.Cond.instanceMethod ({ cls := "java/lang/Throwable", name := "<init>", desc := "()V" } : Jvm.MethodName)),
  (Jvm.Cond.code ({ cls := "java/lang/Throwable", name := "<init>", desc := "()V" } : Jvm.MethodName) prog_27_method_1_code (1 : Nat) (Option.none : Option Jvm.ClassFile.FieldType)),
  (Jvm.Cond.methodLink "java/lang/Throwable" (1 : Nat) ({ cls := "java/lang/Object", name := "<init>", desc := "()V" } : Jvm.MethodName)),
  (Jvm.Cond.fieldLink "java/lang/Throwable" (13 : Nat) "java/lang/Throwable" "UNASSIGNED_STACK" "[Ljava/lang/StackTraceElement;"),
  (Jvm.Cond.laysStatic "java/lang/Throwable" "UNASSIGNED_STACK" "[Ljava/lang/StackTraceElement;"),
  (Jvm.Cond.fieldLink "java/lang/Throwable" (20 : Nat) "java/lang/Throwable" "SUPPRESSED_SENTINEL" "Ljava/util/List;"),
  (Jvm.Cond.laysStatic "java/lang/Throwable" "SUPPRESSED_SENTINEL" "Ljava/util/List;"),
  (Jvm.Cond.methodLink "java/lang/Throwable" (27 : Nat) ({ cls := "java/lang/Throwable", name := "fillInStackTrace", desc := "()Ljava/lang/Throwable;" } : Jvm.MethodName)),
  (Jvm.Cond.instanceMethod ({ cls := "java/lang/Throwable", name := "fillInStackTrace", desc := "()Ljava/lang/Throwable;" } : Jvm.MethodName)),
  (Jvm.Cond.sameMethod "java/lang/Throwable" "java/lang/Throwable" "fillInStackTrace" "()Ljava/lang/Throwable;"),
  (Jvm.Cond.selects "java/lang/IllegalArgumentException" ({ cls := "java/lang/Throwable", name := "fillInStackTrace", desc := "()Ljava/lang/Throwable;" } : Jvm.MethodName) ({ cls := "java/lang/Throwable", name := "fillInStackTrace", desc := "()Ljava/lang/Throwable;" } : Jvm.MethodName)),
  (Jvm.Cond.selects "java/lang/IndexOutOfBoundsException" ({ cls := "java/lang/Throwable", name := "fillInStackTrace", desc := "()Ljava/lang/Throwable;" } : Jvm.MethodName) ({ cls := "java/lang/Throwable", name := "fillInStackTrace", desc := "()Ljava/lang/Throwable;" } : Jvm.MethodName)),
  (Jvm.Cond.codeSync ({ cls := "java/lang/Throwable", name := "fillInStackTrace", desc := "()Ljava/lang/Throwable;" } : Jvm.MethodName) prog_27_method_18_code (1 : Nat) (Option.some (Jvm.ClassFile.FieldType.object "java/lang/Throwable"))),
  (Jvm.Cond.methodLink "java/lang/Throwable" (202 : Nat) ({ cls := "java/lang/Throwable", name := "fillInStackTrace", desc := "(I)Ljava/lang/Throwable;" } : Jvm.MethodName)),
  (Jvm.Cond.privateMethod ({ cls := "java/lang/Throwable", name := "fillInStackTrace", desc := "(I)Ljava/lang/Throwable;" } : Jvm.MethodName)),
  (Jvm.Cond.instanceMethod ({ cls := "java/lang/Throwable", name := "fillInStackTrace", desc := "(I)Ljava/lang/Throwable;" } : Jvm.MethodName)),
  (Jvm.Cond.instantiable "java/lang/Throwable" (6 : Nat)),
  (Jvm.Cond.native ({ cls := "java/lang/Throwable", name := "fillInStackTrace", desc := "(I)Ljava/lang/Throwable;" } : Jvm.MethodName)),
  (Jvm.Cond.stringRef "PostHouse" (111 : Nat) "the tape has no room for twenty bytes"),
  (Jvm.Cond.methodLink "PostHouse" (113 : Nat) ({ cls := "java/lang/IllegalStateException", name := "<init>", desc := "(Ljava/lang/String;)V" } : Jvm.MethodName)),
  (Jvm.Cond.instanceMethod ({ cls := "java/lang/IllegalStateException", name := "<init>", desc := "(Ljava/lang/String;)V" } : Jvm.MethodName)),
  (Jvm.Cond.code ({ cls := "java/lang/IllegalStateException", name := "<init>", desc := "(Ljava/lang/String;)V" } : Jvm.MethodName) prog_18_method_2_code (2 : Nat) (Option.none : Option Jvm.ClassFile.FieldType)),
  (Jvm.Cond.methodLink "java/lang/IllegalStateException" (7 : Nat) ({ cls := "java/lang/RuntimeException", name := "<init>", desc := "(Ljava/lang/String;)V" } : Jvm.MethodName)),
  (Jvm.Cond.instanceMethod ({ cls := "java/lang/RuntimeException", name := "<init>", desc := "(Ljava/lang/String;)V" } : Jvm.MethodName)),
  (Jvm.Cond.code ({ cls := "java/lang/RuntimeException", name := "<init>", desc := "(Ljava/lang/String;)V" } : Jvm.MethodName) prog_22_method_2_code (2 : Nat) (Option.none : Option Jvm.ClassFile.FieldType)),
  (Jvm.Cond.methodLink "java/lang/RuntimeException" (7 : Nat) ({ cls := "java/lang/Exception", name := "<init>", desc := "(Ljava/lang/String;)V" } : Jvm.MethodName)),
  (Jvm.Cond.instanceMethod ({ cls := "java/lang/Exception", name := "<init>", desc := "(Ljava/lang/String;)V" } : Jvm.MethodName)),
  (Jvm.Cond.code ({ cls := "java/lang/Exception", name := "<init>", desc := "(Ljava/lang/String;)V" } : Jvm.MethodName) prog_16_method_2_code (2 : Nat) (Option.none : Option Jvm.ClassFile.FieldType)),
  (Jvm.Cond.methodLink "java/lang/Exception" (7 : Nat) ({ cls := "java/lang/Throwable", name := "<init>", desc := "(Ljava/lang/String;)V" } : Jvm.MethodName)),
  (Jvm.Cond.instanceMethod ({ cls := "java/lang/Throwable", name := "<init>", desc := "(Ljava/lang/String;)V" } : Jvm.MethodName)),
  (Jvm.Cond.code ({ cls := "java/lang/Throwable", name := "<init>", desc := "(Ljava/lang/String;)V" } : Jvm.MethodName) prog_27_method_2_code (2 : Nat) (Option.none : Option Jvm.ClassFile.FieldType)),
  (Jvm.Cond.fieldLink "java/lang/Throwable" (198 : Nat) "java/lang/Throwable" "backtrace" "Ljava/lang/Object;"),
  (Jvm.Cond.fieldLink "java/lang/Throwable" (31 : Nat) "java/lang/Throwable" "detailMessage" "Ljava/lang/String;"),
  (Jvm.Cond.fieldLink "java/lang/Throwable" (7 : Nat) "java/lang/Throwable" "cause" "Ljava/lang/Throwable;"),
  (Jvm.Cond.fieldLink "java/lang/Throwable" (17 : Nat) "java/lang/Throwable" "stackTrace" "[Ljava/lang/StackTraceElement;"),
  (Jvm.Cond.fieldLink "java/lang/Throwable" (24 : Nat) "java/lang/Throwable" "suppressedExceptions" "Ljava/util/List;"),
  (Jvm.Cond.soleField "java/lang/Throwable" "backtrace"),
  (Jvm.Cond.soleField "java/lang/Throwable" "detailMessage"),
  (Jvm.Cond.soleField "java/lang/Throwable" "cause"),
  (Jvm.Cond.soleField "java/lang/Throwable" "stackTrace"),
  (Jvm.Cond.lays "java/lang/IllegalStateException" "java/lang/Throwable" "depth" "I"),
  (Jvm.Cond.soleField "java/lang/Throwable" "depth"),
  (Jvm.Cond.soleField "java/lang/Throwable" "suppressedExceptions"),
  (Jvm.Cond.superclass "java/lang/IllegalStateException" "java/lang/RuntimeException"),
  (Jvm.Cond.methodLink "PostHouse" (116 : Nat) ({ cls := "PostHouse$Tape", name := "append", desc := "(I)V" } : Jvm.MethodName)),
  (Jvm.Cond.instanceMethod ({ cls := "PostHouse$Tape", name := "append", desc := "(I)V" } : Jvm.MethodName)),
  (Jvm.Cond.selects "PostHouse$Tape" ({ cls := "PostHouse$Tape", name := "append", desc := "(I)V" } : Jvm.MethodName) ({ cls := "PostHouse$Tape", name := "append", desc := "(I)V" } : Jvm.MethodName)),
  wf_code 222,
  (Jvm.Cond.methodLink "PostHouseLaw" (45 : Nat) ({ cls := "PostHouseLaw", name := "end", desc := "(LPostHouse;I)I" } : Jvm.MethodName)),
  (Jvm.Cond.static ({ cls := "PostHouseLaw", name := "end", desc := "(LPostHouse;I)I" } : Jvm.MethodName)),
  (Jvm.Cond.codeWith ({ cls := "PostHouseLaw", name := "end", desc := "(LPostHouse;I)I" } : Jvm.MethodName) method_4_code (3 : Nat) (Option.some Jvm.ClassFile.FieldType.int) [((0 : Nat), (5 : Nat), (8 : Nat), (19 : Nat))]),
  (Jvm.Cond.classLink "PostHouseLaw" (19 : Nat) "java/lang/IllegalArgumentException"),
  (Jvm.Cond.methodLink "PostHouseLaw" (15 : Nat) ({ cls := "PostHouse", name := "end", desc := "(I)V" } : Jvm.MethodName)),
  (Jvm.Cond.instanceMethod ({ cls := "PostHouse", name := "end", desc := "(I)V" } : Jvm.MethodName)),
  (Jvm.Cond.selects "PostHouse" ({ cls := "PostHouse", name := "end", desc := "(I)V" } : Jvm.MethodName) ({ cls := "PostHouse", name := "end", desc := "(I)V" } : Jvm.MethodName)),
  (Jvm.Cond.code ({ cls := "PostHouse", name := "end", desc := "(I)V" } : Jvm.MethodName) prog_1_method_3_code (2 : Nat) (Option.none : Option Jvm.ClassFile.FieldType)),
  (Jvm.Cond.classLink "PostHouse" (124 : Nat) "java/lang/IllegalArgumentException"),
  (Jvm.Cond.instantiable "java/lang/IllegalArgumentException" (6 : Nat)),
  (Jvm.Cond.castable "java/lang/IllegalArgumentException" "java/lang/IllegalArgumentException"),
  (Jvm.Cond.selects "java/lang/IllegalArgumentException" ({ cls := "java/lang/Throwable", name := "fillInStackTrace", desc := "(I)Ljava/lang/Throwable;" } : Jvm.MethodName) ({ cls := "java/lang/Throwable", name := "fillInStackTrace", desc := "(I)Ljava/lang/Throwable;" } : Jvm.MethodName)),
  (Jvm.Cond.lays "java/lang/IllegalArgumentException" "java/lang/Throwable" "cause" "Ljava/lang/Throwable;"),
  (Jvm.Cond.lays "java/lang/IllegalArgumentException" "java/lang/Throwable" "stackTrace" "[Ljava/lang/StackTraceElement;"),
  (Jvm.Cond.lays "java/lang/IllegalArgumentException" "java/lang/Throwable" "suppressedExceptions" "Ljava/util/List;"),
  (Jvm.Cond.lays "java/lang/IllegalArgumentException" "java/lang/Throwable" "detailMessage" "Ljava/lang/String;"),
  (Jvm.Cond.lays "java/lang/IllegalArgumentException" "java/lang/Throwable" "backtrace" "Ljava/lang/Object;"),
  (Jvm.Cond.stringRef "PostHouse" (126 : Nat) "the tape has no such place"),
  (Jvm.Cond.methodLink "PostHouse" (128 : Nat) ({ cls := "java/lang/IllegalArgumentException", name := "<init>", desc := "(Ljava/lang/String;)V" } : Jvm.MethodName)),
  (Jvm.Cond.instanceMethod ({ cls := "java/lang/IllegalArgumentException", name := "<init>", desc := "(Ljava/lang/String;)V" } : Jvm.MethodName)),
  (Jvm.Cond.code ({ cls := "java/lang/IllegalArgumentException", name := "<init>", desc := "(Ljava/lang/String;)V" } : Jvm.MethodName) prog_17_method_2_code (2 : Nat) (Option.none : Option Jvm.ClassFile.FieldType)),
  (Jvm.Cond.methodLink "java/lang/IllegalArgumentException" (7 : Nat) ({ cls := "java/lang/RuntimeException", name := "<init>", desc := "(Ljava/lang/String;)V" } : Jvm.MethodName)),
  (Jvm.Cond.lays "java/lang/IllegalArgumentException" "java/lang/Throwable" "depth" "I"),
  (Jvm.Cond.superclass "java/lang/IllegalArgumentException" "java/lang/RuntimeException"),
  (Jvm.Cond.methodLink "PostHouseLaw" (65 : Nat) ({ cls := "PostHouseLaw", name := "octet", desc := "(LPostHouse;II[J)I" } : Jvm.MethodName)),
  (Jvm.Cond.static ({ cls := "PostHouseLaw", name := "octet", desc := "(LPostHouse;II[J)I" } : Jvm.MethodName)),
  (Jvm.Cond.codeWith ({ cls := "PostHouseLaw", name := "octet", desc := "(LPostHouse;II[J)I" } : Jvm.MethodName) method_5_code (5 : Nat) (Option.some Jvm.ClassFile.FieldType.int) [((0 : Nat), (10 : Nat), (13 : Nat), (25 : Nat))]),
  (Jvm.Cond.classLink "PostHouseLaw" (25 : Nat) "java/lang/IndexOutOfBoundsException"),
  (Jvm.Cond.methodLink "PostHouseLaw" (21 : Nat) ({ cls := "PostHouse", name := "octet", desc := "(II)I" } : Jvm.MethodName)),
  (Jvm.Cond.instanceMethod ({ cls := "PostHouse", name := "octet", desc := "(II)I" } : Jvm.MethodName)),
  (Jvm.Cond.selects "PostHouse" ({ cls := "PostHouse", name := "octet", desc := "(II)I" } : Jvm.MethodName) ({ cls := "PostHouse", name := "octet", desc := "(II)I" } : Jvm.MethodName)),
  (Jvm.Cond.code ({ cls := "PostHouse", name := "octet", desc := "(II)I" } : Jvm.MethodName) prog_1_method_8_code (3 : Nat) (Option.some Jvm.ClassFile.FieldType.int)),
  (Jvm.Cond.methodLink "PostHouse" (175 : Nat) ({ cls := "PostHouse$Log", name := "hasByte", desc := "(II)Z" } : Jvm.MethodName)),
  (Jvm.Cond.classLink "PostHouse" (179 : Nat) "java/lang/IndexOutOfBoundsException"),
  (Jvm.Cond.instantiable "java/lang/IndexOutOfBoundsException" (6 : Nat)),
  (Jvm.Cond.castable "java/lang/IndexOutOfBoundsException" "java/lang/IndexOutOfBoundsException"),
  (Jvm.Cond.selects "java/lang/IndexOutOfBoundsException" ({ cls := "java/lang/Throwable", name := "fillInStackTrace", desc := "(I)Ljava/lang/Throwable;" } : Jvm.MethodName) ({ cls := "java/lang/Throwable", name := "fillInStackTrace", desc := "(I)Ljava/lang/Throwable;" } : Jvm.MethodName)),
  (Jvm.Cond.lays "java/lang/IndexOutOfBoundsException" "java/lang/Throwable" "cause" "Ljava/lang/Throwable;"),
  (Jvm.Cond.lays "java/lang/IndexOutOfBoundsException" "java/lang/Throwable" "stackTrace" "[Ljava/lang/StackTraceElement;"),
  (Jvm.Cond.lays "java/lang/IndexOutOfBoundsException" "java/lang/Throwable" "suppressedExceptions" "Ljava/util/List;")]
set_option maxRecDepth 100000 in
theorem tq_ok_9 : tables_1_9 = tq_9 := rfl
def wl_inst_9 : List (Nat) := [
  284, 154, 285, 286, 287, 288, 289, 290, 291, 292, 293, 112,
  113, 294, 295, 296, 44, 297, 298, 45, 299, 300, 301, 165,
  106, 107, 83, 194, 120]
set_option maxRecDepth 100000 in
theorem wk_inst_9 : wl_inst_9.map wf_inst = ([
  0, 4, 8, 12, 17, 21, 25, 29, 34, 38, 42, 47, 52, 55, 59, 63, 67, 71, 75, 79, 84, 88, 92, 96,
  100, 104, 109, 113, 118] : List Nat).filterMap (fun i => tq_9[i]?) := rfl
theorem wi_inst_9 : ∀ q ∈ wl_inst_9, wf_inst q ∈ lw_tbl := fun q h => tq_mem.2.2.2.2.2.2.2.2.1 _ (by rw [tq_ok_9]; exact w_pos wk_inst_9 q h)
def wl_sel_9 : List (Nat) := [
  284, 154, 285, 286, 287, 288, 289, 290, 291, 292, 293, 112,
  294, 295, 296, 44, 297, 298, 45, 299, 300, 301, 165, 106,
  107, 83, 194, 120]
set_option maxRecDepth 100000 in
theorem wk_sel_9 : wl_sel_9.map wf_sel = ([
  1, 5, 9, 13, 18, 22, 26, 30, 35, 39, 43, 48, 56, 60, 64, 68, 72, 76, 80, 85, 89, 93, 97, 101,
  105, 110, 114, 119] : List Nat).filterMap (fun i => tq_9[i]?) := rfl
theorem wi_sel_9 : ∀ q ∈ wl_sel_9, wf_sel q ∈ lw_tbl := fun q h => tq_mem.2.2.2.2.2.2.2.2.1 _ (by rw [tq_ok_9]; exact w_pos wk_sel_9 q h)
def wl_code_9 : List (Nat) := [
  284, 154, 285, 286, 287, 288, 289, 290, 291, 292, 293, 112,
  113, 294, 295, 296, 44, 297, 298, 45, 299, 300, 301, 165,
  106, 107, 83, 194, 120, 222]
set_option maxRecDepth 100000 in
theorem wk_code_9 : wl_code_9.map wf_code = ([
  2, 6, 10, 14, 19, 23, 27, 31, 36, 40, 44, 49, 53, 57, 61, 65, 69, 73, 77, 81, 86, 90, 94, 98,
  102, 106, 111, 115, 120, 199] : List Nat).filterMap (fun i => tq_9[i]?) := rfl
theorem wi_code_9 : ∀ q ∈ wl_code_9, wf_code q ∈ lw_tbl := fun q h => tq_mem.2.2.2.2.2.2.2.2.1 _ (by rw [tq_ok_9]; exact w_pos wk_code_9 q h)
def wl_lk_9 : List (Nat × (Nat × Nat)) := [
  (11, 328, 154), (13, 277, 285), (13, 281, 286), (11, 331, 71), (13, 285, 287), (13, 289, 288), (13, 293, 289), (13, 297, 290), (11, 334, 160), (13, 301, 291), (13, 305, 292), (13, 309, 293),
  (11, 340, 110), (11, 341, 112), (5, 64, 113), (13, 313, 294), (13, 317, 295), (13, 321, 296), (11, 344, 44), (13, 325, 297), (13, 330, 298), (11, 347, 45), (2, 70, 535), (13, 334, 299),
  (13, 338, 300), (13, 342, 301), (11, 353, 165), (11, 356, 106), (11, 359, 107), (4, 144, 537), (4, 150, 83), (11, 362, 194), (8, 204, 83), (11, 363, 120)]
set_option maxRecDepth 100000 in
theorem wk_lk_9 : wl_lk_9.map wf_lk = ([
  3, 7, 11, 15, 16, 20, 24, 28, 32, 33, 37, 41, 45, 46, 50, 54, 58, 62, 66, 70, 74, 78, 82, 83,
  87, 91, 95, 99, 103, 107, 108, 112, 116, 117] : List Nat).filterMap (fun i => tq_9[i]?) := rfl
theorem wi_lk_9 : ∀ q ∈ wl_lk_9, wf_lk q ∈ lw_tbl := fun q h => tq_mem.2.2.2.2.2.2.2.2.1 _ (by rw [tq_ok_9]; exact w_pos wk_lk_9 q h)
noncomputable def tq_10 : List Cond := [
  (Jvm.Cond.lays "java/lang/IndexOutOfBoundsException" "java/lang/Throwable" "detailMessage" "Ljava/lang/String;"),
  (Jvm.Cond.lays "java/lang/IndexOutOfBoundsException" "java/lang/Throwable" "backtrace" "Ljava/lang/Object;"),
  (Jvm.Cond.stringRef "PostHouse" (181 : Nat) "no such block or byte"),
  (Jvm.Cond.methodLink "PostHouse" (183 : Nat) ({ cls := "java/lang/IndexOutOfBoundsException", name := "<init>", desc := "(Ljava/lang/String;)V" } : Jvm.MethodName)),
  (Jvm.Cond.instanceMethod ({ cls := "java/lang/IndexOutOfBoundsException", name := "<init>", desc := "(Ljava/lang/String;)V" } : Jvm.MethodName)),
  (Jvm.Cond.code ({ cls := "java/lang/IndexOutOfBoundsException", name := "<init>", desc := "(Ljava/lang/String;)V" } : Jvm.MethodName) prog_19_method_2_code (2 : Nat) (Option.none : Option Jvm.ClassFile.FieldType)),
  (Jvm.Cond.methodLink "java/lang/IndexOutOfBoundsException" (7 : Nat) ({ cls := "java/lang/RuntimeException", name := "<init>", desc := "(Ljava/lang/String;)V" } : Jvm.MethodName)),
  (Jvm.Cond.lays "java/lang/IndexOutOfBoundsException" "java/lang/Throwable" "depth" "I"),
  (Jvm.Cond.superclass "java/lang/IndexOutOfBoundsException" "java/lang/RuntimeException"),
  (Jvm.Cond.methodLink "PostHouse" (184 : Nat) ({ cls := "PostHouse$Log", name := "byteAt", desc := "(II)I" } : Jvm.MethodName)),
  (Jvm.Cond.methodLink "PostHouseLaw" (69 : Nat) ({ cls := "PostHouseLaw", name := "poke", desc := "(LPostHouse;III[J)I" } : Jvm.MethodName)),
  (Jvm.Cond.static ({ cls := "PostHouseLaw", name := "poke", desc := "(LPostHouse;III[J)I" } : Jvm.MethodName)),
  (Jvm.Cond.codeWith ({ cls := "PostHouseLaw", name := "poke", desc := "(LPostHouse;III[J)I" } : Jvm.MethodName) method_6_code (6 : Nat) (Option.some Jvm.ClassFile.FieldType.int) [((0 : Nat), (12 : Nat), (15 : Nat), (25 : Nat))]),
  (Jvm.Cond.methodLink "PostHouseLaw" (27 : Nat) ({ cls := "PostHouse", name := "poke", desc := "(III)I" } : Jvm.MethodName)),
  (Jvm.Cond.instanceMethod ({ cls := "PostHouse", name := "poke", desc := "(III)I" } : Jvm.MethodName)),
  (Jvm.Cond.selects "PostHouse" ({ cls := "PostHouse", name := "poke", desc := "(III)I" } : Jvm.MethodName) ({ cls := "PostHouse", name := "poke", desc := "(III)I" } : Jvm.MethodName)),
  (Jvm.Cond.code ({ cls := "PostHouse", name := "poke", desc := "(III)I" } : Jvm.MethodName) prog_1_method_9_code (4 : Nat) (Option.some Jvm.ClassFile.FieldType.int)),
  (Jvm.Cond.methodLink "PostHouse" (187 : Nat) ({ cls := "PostHouse$Log", name := "change", desc := "(III)I" } : Jvm.MethodName)),
  (Jvm.Cond.instanceMethod ({ cls := "PostHouse$Log", name := "change", desc := "(III)I" } : Jvm.MethodName)),
  (Jvm.Cond.selects "PostHouse$Log" ({ cls := "PostHouse$Log", name := "change", desc := "(III)I" } : Jvm.MethodName) ({ cls := "PostHouse$Log", name := "change", desc := "(III)I" } : Jvm.MethodName)),
  wf_code 135,
  wf_lk (13, 41, 310),
  wf_inst 310,
  wf_sel 310,
  wf_code 310,
  wf_clk (13, 32, 12),
  wf_ins 12,
  wf_lk (13, 34, 312),
  wf_inst 312,
  wf_code 312,
  wf_oi (12, 7),
  wf_cst (12, 17, 38656),
  wf_cst (12, 24, 37200),
  wf_lk (12, 418, 421),
  wf_stat 421,
  wf_code 421,
  wf_lk (12, 799, 420),
  wf_stat 420,
  wf_code 420,
  wf_lk (12, 422, 339),
  (Jvm.Cond.privateMethod ({ cls := "PostHouseModel", name := "empty", desc := "()V" } : Jvm.MethodName)),
  wf_inst 339,
  wf_code 339,
  wf_fl (12, 1, 12288),
  wf_fl (12, 13, 12295),
  wf_fl (12, 455, 12296),
  wf_fl (12, 18, 12303),
  wf_fl (12, 449, 12304),
  wf_fl (12, 452, 12310),
  wf_fl (12, 21, 12312),
  wf_fl (12, 499, 12316),
  wf_fl (12, 25, 12323),
  wf_fl (12, 446, 12324),
  wf_fl (12, 466, 12328),
  wf_fl (12, 28, 12335),
  wf_fl (12, 32, 12339),
  wf_fl (12, 440, 12340),
  wf_fl (12, 443, 12346),
  wf_fl (12, 425, 12350),
  wf_fl (12, 429, 12352),
  wf_fl (12, 35, 12359),
  wf_fl (12, 39, 12363),
  wf_fl (12, 42, 12367),
  wf_fl (12, 505, 12368),
  wf_fl (12, 502, 12372),
  wf_fl (12, 524, 12376),
  wf_fl (12, 527, 12380),
  wf_fl (12, 530, 12384),
  wf_fl (12, 45, 12391),
  wf_fl (12, 48, 12395),
  wf_fl (12, 533, 12396),
  wf_fl (12, 52, 12403),
  wf_fl (12, 55, 12407),
  wf_fl (12, 58, 12411),
  wf_fl (12, 61, 12415),
  wf_fl (12, 64, 12419),
  wf_fl (12, 536, 12420),
  wf_fl (12, 67, 12427),
  wf_fl (12, 70, 12431),
  wf_fl (12, 73, 12435),
  wf_fl (12, 76, 12439),
  wf_fl (12, 539, 12440),
  wf_fl (12, 79, 12447),
  wf_fl (12, 82, 12451),
  wf_fl (12, 85, 12455),
  wf_fl (12, 88, 12459),
  wf_fl (12, 542, 12460),
  wf_fl (12, 91, 12467),
  wf_fl (12, 94, 12471),
  wf_fl (12, 97, 12475),
  wf_fl (12, 100, 12479),
  wf_fl (12, 545, 12482),
  wf_fl (12, 548, 12484),
  wf_fl (12, 551, 12488),
  wf_fl (12, 554, 12492),
  wf_fl (12, 103, 12499),
  wf_fl (12, 106, 12503),
  wf_fl (12, 109, 12507),
  wf_fl (12, 112, 12511),
  wf_fl (12, 115, 12515),
  wf_fl (12, 118, 12519),
  wf_fl (12, 557, 12520),
  wf_fl (12, 121, 12527),
  wf_fl (12, 124, 12531),
  wf_fl (12, 127, 12535),
  wf_fl (12, 130, 12539),
  wf_fl (12, 133, 12543),
  wf_fl (12, 136, 12547),
  wf_fl (12, 139, 12551),
  wf_fl (12, 142, 12555),
  wf_fl (12, 145, 12559),
  wf_fl (12, 148, 12563),
  wf_fl (12, 151, 12567),
  wf_fl (12, 154, 12571),
  wf_fl (12, 157, 12575),
  wf_fl (12, 160, 12579),
  wf_fl (12, 163, 12583),
  wf_fl (12, 166, 12587),
  wf_fl (12, 169, 12591),
  wf_fl (12, 172, 12595),
  wf_fl (12, 175, 12599),
  wf_fl (12, 178, 12603),
  wf_fl (12, 181, 12607),
  wf_fl (12, 184, 12611),
  wf_fl (12, 187, 12615),
  wf_fl (12, 190, 12619),
  wf_fl (12, 560, 12620),
  wf_fl (12, 563, 12624),
  wf_fl (12, 566, 12628),
  wf_fl (12, 569, 12632),
  wf_fl (12, 572, 12636),
  wf_fl (12, 193, 12643),
  wf_fl (12, 196, 12647),
  wf_fl (12, 199, 12651),
  wf_fl (12, 575, 12652),
  wf_fl (12, 202, 12659),
  wf_fl (12, 578, 12660),
  wf_fl (12, 205, 12667),
  wf_fl (12, 208, 12671),
  wf_fl (12, 211, 12675),
  wf_fl (12, 214, 12679),
  wf_fl (12, 217, 12683),
  wf_fl (12, 220, 12687),
  wf_fl (12, 223, 12691),
  wf_fl (12, 581, 12692),
  wf_fl (12, 226, 12699),
  wf_fl (12, 229, 12703),
  wf_fl (12, 232, 12707),
  wf_fl (12, 235, 12711),
  wf_fl (12, 238, 12715),
  wf_fl (12, 584, 12716),
  wf_fl (12, 241, 12723),
  wf_fl (12, 244, 12727),
  wf_fl (12, 247, 12731),
  wf_fl (12, 587, 12732),
  wf_fl (12, 250, 12739),
  wf_fl (12, 253, 12743),
  wf_fl (12, 590, 12744),
  wf_fl (12, 256, 12751),
  wf_fl (12, 259, 12755),
  wf_fl (12, 262, 12759),
  wf_fl (12, 265, 12763),
  wf_fl (12, 593, 12764),
  wf_fl (12, 268, 12771),
  wf_fl (12, 271, 12775),
  wf_fl (12, 274, 12779),
  wf_fl (12, 277, 12783),
  wf_fl (12, 280, 12787),
  wf_fl (12, 596, 12788),
  wf_fl (12, 283, 12795),
  wf_fl (12, 286, 12799),
  wf_fl (12, 289, 12803),
  wf_fl (12, 599, 12804),
  wf_fl (12, 292, 12811),
  wf_fl (12, 295, 12815),
  wf_fl (12, 298, 12819),
  wf_fl (12, 301, 12823),
  wf_fl (12, 602, 12824),
  wf_fl (12, 304, 12831),
  wf_fl (12, 307, 12835),
  wf_fl (12, 310, 12839),
  wf_fl (12, 313, 12843),
  wf_fl (12, 619, 12844),
  wf_fl (12, 622, 12850),
  wf_fl (12, 698, 12852),
  wf_fl (12, 316, 12859),
  wf_fl (12, 319, 12863),
  wf_fl (12, 322, 12867),
  wf_fl (12, 325, 12871),
  wf_fl (12, 723, 12872),
  wf_fl (12, 328, 12879),
  wf_fl (12, 331, 12883),
  wf_fl (12, 334, 12887),
  wf_fl (12, 337, 12891),
  wf_fl (12, 340, 12895),
  wf_fl (12, 717, 12896),
  wf_fl (12, 720, 12900),
  wf_fl (12, 343, 12907),
  wf_fl (12, 346, 12911),
  wf_fl (12, 349, 12915),
  wf_fl (12, 352, 12919),
  wf_fl (12, 355, 12923),
  wf_fl (12, 358, 12927),
  wf_fl (12, 361, 12931),
  wf_fl (12, 364, 12932),
  wf_fl (12, 367, 12939),
  wf_fl (12, 370, 12943),
  wf_fl (12, 373, 12947),
  wf_fl (12, 376, 12951),
  wf_fl (12, 839, 12952),
  wf_fl (12, 379, 12959),
  wf_fl (12, 382, 12963),
  wf_fl (12, 385, 12967),
  wf_fl (12, 388, 12971),
  wf_fl (12, 391, 12975),
  wf_fl (12, 394, 12979),
  wf_fl (12, 397, 12983),
  wf_fl (12, 400, 12987),
  wf_fl (12, 403, 12991),
  wf_fl (12, 406, 12995),
  wf_fl (12, 409, 12999),
  wf_fl (12, 412, 13003),
  wf_fl (12, 415, 13007),
  wf_ly (12, 0),
  (Jvm.Cond.soleField "PostHouseModel" "thrown"),
  wf_ly (12, 1),
  (Jvm.Cond.soleField "PostHouseModel" "tape"),
  wf_ly (12, 2),
  (Jvm.Cond.soleField "PostHouseModel" "taped"),
  wf_ly (12, 3),
  (Jvm.Cond.soleField "PostHouseModel" "disk"),
  wf_ly (12, 4),
  (Jvm.Cond.soleField "PostHouseModel" "used"),
  wf_ly (12, 5),
  (Jvm.Cond.soleField "PostHouseModel" "down"),
  wf_ly (12, 6),
  (Jvm.Cond.soleField "PostHouseModel" "cutAt"),
  wf_ly (12, 7),
  (Jvm.Cond.soleField "PostHouseModel" "tear"),
  wf_ly (12, 8)]
set_option maxRecDepth 100000 in
theorem tq_ok_10 : tables_1_10 = tq_10 := rfl
def wl_code_10 : List (Nat) := [
  135, 310, 312, 421, 420, 339]
set_option maxRecDepth 100000 in
theorem wk_code_10 : wl_code_10.map wf_code = ([
  20, 24, 29, 35, 38, 42] : List Nat).filterMap (fun i => tq_10[i]?) := rfl
theorem wi_code_10 : ∀ q ∈ wl_code_10, wf_code q ∈ lw_tbl := fun q h => tq_mem.2.2.2.2.2.2.2.2.2.1 _ (by rw [tq_ok_10]; exact w_pos wk_code_10 q h)
def wl_lk_10 : List (Nat × (Nat × Nat)) := [
  (13, 41, 310), (13, 34, 312), (12, 418, 421), (12, 799, 420), (12, 422, 339)]
set_option maxRecDepth 100000 in
theorem wk_lk_10 : wl_lk_10.map wf_lk = ([
  21, 27, 33, 36, 39] : List Nat).filterMap (fun i => tq_10[i]?) := rfl
theorem wi_lk_10 : ∀ q ∈ wl_lk_10, wf_lk q ∈ lw_tbl := fun q h => tq_mem.2.2.2.2.2.2.2.2.2.1 _ (by rw [tq_ok_10]; exact w_pos wk_lk_10 q h)
def wl_inst_10 : List (Nat) := [
  310, 312, 339]
set_option maxRecDepth 100000 in
theorem wk_inst_10 : wl_inst_10.map wf_inst = ([
  22, 28, 41] : List Nat).filterMap (fun i => tq_10[i]?) := rfl
theorem wi_inst_10 : ∀ q ∈ wl_inst_10, wf_inst q ∈ lw_tbl := fun q h => tq_mem.2.2.2.2.2.2.2.2.2.1 _ (by rw [tq_ok_10]; exact w_pos wk_inst_10 q h)
def wl_sel_10 : List (Nat) := [
  310]
set_option maxRecDepth 100000 in
theorem wk_sel_10 : wl_sel_10.map wf_sel = ([
  23] : List Nat).filterMap (fun i => tq_10[i]?) := rfl
theorem wi_sel_10 : ∀ q ∈ wl_sel_10, wf_sel q ∈ lw_tbl := fun q h => tq_mem.2.2.2.2.2.2.2.2.2.1 _ (by rw [tq_ok_10]; exact w_pos wk_sel_10 q h)
def wl_clk_10 : List (Nat × (Nat × Nat)) := [
  (13, 32, 12)]
set_option maxRecDepth 100000 in
theorem wk_clk_10 : wl_clk_10.map wf_clk = ([
  25] : List Nat).filterMap (fun i => tq_10[i]?) := rfl
theorem wi_clk_10 : ∀ q ∈ wl_clk_10, wf_clk q ∈ lw_tbl := fun q h => tq_mem.2.2.2.2.2.2.2.2.2.1 _ (by rw [tq_ok_10]; exact w_pos wk_clk_10 q h)
def wl_ins_10 : List (Nat) := [
  12]
set_option maxRecDepth 100000 in
theorem wk_ins_10 : wl_ins_10.map wf_ins = ([
  26] : List Nat).filterMap (fun i => tq_10[i]?) := rfl
theorem wi_ins_10 : ∀ q ∈ wl_ins_10, wf_ins q ∈ lw_tbl := fun q h => tq_mem.2.2.2.2.2.2.2.2.2.1 _ (by rw [tq_ok_10]; exact w_pos wk_ins_10 q h)
def wl_oi_10 : List (Nat × Nat) := [
  (12, 7)]
set_option maxRecDepth 100000 in
theorem wk_oi_10 : wl_oi_10.map wf_oi = ([
  30] : List Nat).filterMap (fun i => tq_10[i]?) := rfl
theorem wi_oi_10 : ∀ q ∈ wl_oi_10, wf_oi q ∈ lw_tbl := fun q h => tq_mem.2.2.2.2.2.2.2.2.2.1 _ (by rw [tq_ok_10]; exact w_pos wk_oi_10 q h)
def wl_cst_10 : List (Nat × (Nat × Int)) := [
  (12, 17, 38656), (12, 24, 37200)]
set_option maxRecDepth 100000 in
theorem wk_cst_10 : wl_cst_10.map wf_cst = ([
  31, 32] : List Nat).filterMap (fun i => tq_10[i]?) := rfl
theorem wi_cst_10 : ∀ q ∈ wl_cst_10, wf_cst q ∈ lw_tbl := fun q h => tq_mem.2.2.2.2.2.2.2.2.2.1 _ (by rw [tq_ok_10]; exact w_pos wk_cst_10 q h)
def wl_stat_10 : List (Nat) := [
  421, 420]
set_option maxRecDepth 100000 in
theorem wk_stat_10 : wl_stat_10.map wf_stat = ([
  34, 37] : List Nat).filterMap (fun i => tq_10[i]?) := rfl
theorem wi_stat_10 : ∀ q ∈ wl_stat_10, wf_stat q ∈ lw_tbl := fun q h => tq_mem.2.2.2.2.2.2.2.2.2.1 _ (by rw [tq_ok_10]; exact w_pos wk_stat_10 q h)
def wl_fl_10 : List (Nat × (Nat × Nat)) := [
  (12, 1, 12288), (12, 13, 12295), (12, 455, 12296), (12, 18, 12303), (12, 449, 12304), (12, 452, 12310), (12, 21, 12312), (12, 499, 12316), (12, 25, 12323), (12, 446, 12324), (12, 466, 12328), (12, 28, 12335),
  (12, 32, 12339), (12, 440, 12340), (12, 443, 12346), (12, 425, 12350), (12, 429, 12352), (12, 35, 12359), (12, 39, 12363), (12, 42, 12367), (12, 505, 12368), (12, 502, 12372), (12, 524, 12376), (12, 527, 12380),
  (12, 530, 12384), (12, 45, 12391), (12, 48, 12395), (12, 533, 12396), (12, 52, 12403), (12, 55, 12407), (12, 58, 12411), (12, 61, 12415), (12, 64, 12419), (12, 536, 12420), (12, 67, 12427), (12, 70, 12431),
  (12, 73, 12435), (12, 76, 12439), (12, 539, 12440), (12, 79, 12447), (12, 82, 12451), (12, 85, 12455), (12, 88, 12459), (12, 542, 12460), (12, 91, 12467), (12, 94, 12471), (12, 97, 12475), (12, 100, 12479),
  (12, 545, 12482), (12, 548, 12484), (12, 551, 12488), (12, 554, 12492), (12, 103, 12499), (12, 106, 12503), (12, 109, 12507), (12, 112, 12511), (12, 115, 12515), (12, 118, 12519), (12, 557, 12520), (12, 121, 12527),
  (12, 124, 12531), (12, 127, 12535), (12, 130, 12539), (12, 133, 12543), (12, 136, 12547), (12, 139, 12551), (12, 142, 12555), (12, 145, 12559), (12, 148, 12563), (12, 151, 12567), (12, 154, 12571), (12, 157, 12575),
  (12, 160, 12579), (12, 163, 12583), (12, 166, 12587), (12, 169, 12591), (12, 172, 12595), (12, 175, 12599), (12, 178, 12603), (12, 181, 12607), (12, 184, 12611), (12, 187, 12615), (12, 190, 12619), (12, 560, 12620),
  (12, 563, 12624), (12, 566, 12628), (12, 569, 12632), (12, 572, 12636), (12, 193, 12643), (12, 196, 12647), (12, 199, 12651), (12, 575, 12652), (12, 202, 12659), (12, 578, 12660), (12, 205, 12667), (12, 208, 12671),
  (12, 211, 12675), (12, 214, 12679), (12, 217, 12683), (12, 220, 12687), (12, 223, 12691), (12, 581, 12692), (12, 226, 12699), (12, 229, 12703), (12, 232, 12707), (12, 235, 12711), (12, 238, 12715), (12, 584, 12716),
  (12, 241, 12723), (12, 244, 12727), (12, 247, 12731), (12, 587, 12732), (12, 250, 12739), (12, 253, 12743), (12, 590, 12744), (12, 256, 12751), (12, 259, 12755), (12, 262, 12759), (12, 265, 12763), (12, 593, 12764),
  (12, 268, 12771), (12, 271, 12775), (12, 274, 12779), (12, 277, 12783), (12, 280, 12787), (12, 596, 12788), (12, 283, 12795), (12, 286, 12799), (12, 289, 12803), (12, 599, 12804), (12, 292, 12811), (12, 295, 12815),
  (12, 298, 12819), (12, 301, 12823), (12, 602, 12824), (12, 304, 12831), (12, 307, 12835), (12, 310, 12839), (12, 313, 12843), (12, 619, 12844), (12, 622, 12850), (12, 698, 12852), (12, 316, 12859), (12, 319, 12863),
  (12, 322, 12867), (12, 325, 12871), (12, 723, 12872), (12, 328, 12879), (12, 331, 12883), (12, 334, 12887), (12, 337, 12891), (12, 340, 12895), (12, 717, 12896), (12, 720, 12900), (12, 343, 12907), (12, 346, 12911),
  (12, 349, 12915), (12, 352, 12919), (12, 355, 12923), (12, 358, 12927), (12, 361, 12931), (12, 364, 12932), (12, 367, 12939), (12, 370, 12943), (12, 373, 12947), (12, 376, 12951), (12, 839, 12952), (12, 379, 12959),
  (12, 382, 12963), (12, 385, 12967), (12, 388, 12971), (12, 391, 12975), (12, 394, 12979), (12, 397, 12983), (12, 400, 12987), (12, 403, 12991), (12, 406, 12995), (12, 409, 12999), (12, 412, 13003), (12, 415, 13007)]
set_option maxRecDepth 100000 in
theorem wk_fl_10 : wl_fl_10.map wf_fl = ([
  43, 44, 45, 46, 47, 48, 49, 50, 51, 52, 53, 54, 55, 56, 57, 58, 59, 60, 61, 62, 63, 64, 65, 66,
  67, 68, 69, 70, 71, 72, 73, 74, 75, 76, 77, 78, 79, 80, 81, 82, 83, 84, 85, 86, 87, 88, 89, 90,
  91, 92, 93, 94, 95, 96, 97, 98, 99, 100, 101, 102, 103, 104, 105, 106, 107, 108, 109, 110, 111, 112, 113, 114,
  115, 116, 117, 118, 119, 120, 121, 122, 123, 124, 125, 126, 127, 128, 129, 130, 131, 132, 133, 134, 135, 136, 137, 138,
  139, 140, 141, 142, 143, 144, 145, 146, 147, 148, 149, 150, 151, 152, 153, 154, 155, 156, 157, 158, 159, 160, 161, 162,
  163, 164, 165, 166, 167, 168, 169, 170, 171, 172, 173, 174, 175, 176, 177, 178, 179, 180, 181, 182, 183, 184, 185, 186,
  187, 188, 189, 190, 191, 192, 193, 194, 195, 196, 197, 198, 199, 200, 201, 202, 203, 204, 205, 206, 207, 208, 209, 210,
  211, 212, 213, 214, 215, 216, 217, 218, 219, 220, 221, 222] : List Nat).filterMap (fun i => tq_10[i]?) := rfl
theorem wi_fl_10 : ∀ q ∈ wl_fl_10, wf_fl q ∈ lw_tbl := fun q h => tq_mem.2.2.2.2.2.2.2.2.2.1 _ (by rw [tq_ok_10]; exact w_pos wk_fl_10 q h)
def wl_ly_10 : List (Nat × Nat) := [
  (12, 0), (12, 1), (12, 2), (12, 3), (12, 4), (12, 5), (12, 6), (12, 7), (12, 8)]
set_option maxRecDepth 100000 in
theorem wk_ly_10 : wl_ly_10.map wf_ly = ([
  223, 225, 227, 229, 231, 233, 235, 237, 239] : List Nat).filterMap (fun i => tq_10[i]?) := rfl
theorem wi_ly_10 : ∀ q ∈ wl_ly_10, wf_ly q ∈ lw_tbl := fun q h => tq_mem.2.2.2.2.2.2.2.2.2.1 _ (by rw [tq_ok_10]; exact w_pos wk_ly_10 q h)
noncomputable def tq_11 : List Cond := [
  (Jvm.Cond.soleField "PostHouseModel" "waits"),
  wf_ly (12, 9),
  (Jvm.Cond.soleField "PostHouseModel" "waitBytes"),
  wf_ly (12, 10),
  (Jvm.Cond.soleField "PostHouseModel" "waitRecords"),
  wf_ly (12, 11),
  (Jvm.Cond.soleField "PostHouseModel" "arg"),
  wf_ly (12, 12),
  (Jvm.Cond.soleField "PostHouseModel" "doc"),
  wf_ly (12, 13),
  (Jvm.Cond.soleField "PostHouseModel" "docSize"),
  wf_ly (12, 14),
  (Jvm.Cond.soleField "PostHouseModel" "replay"),
  wf_ly (12, 15),
  (Jvm.Cond.soleField "PostHouseModel" "refused"),
  wf_ly (12, 16),
  (Jvm.Cond.soleField "PostHouseModel" "number"),
  wf_ly (12, 17),
  (Jvm.Cond.soleField "PostHouseModel" "torn"),
  wf_ly (12, 18),
  (Jvm.Cond.soleField "PostHouseModel" "image"),
  wf_ly (12, 19),
  (Jvm.Cond.soleField "PostHouseModel" "sync"),
  wf_ly (12, 20),
  (Jvm.Cond.soleField "PostHouseModel" "syncSize"),
  wf_ly (12, 21),
  (Jvm.Cond.soleField "PostHouseModel" "syncAt"),
  wf_ly (12, 22),
  (Jvm.Cond.soleField "PostHouseModel" "clock"),
  wf_ly (12, 23),
  (Jvm.Cond.soleField "PostHouseModel" "came"),
  wf_ly (12, 24),
  (Jvm.Cond.soleField "PostHouseModel" "places"),
  wf_ly (12, 25),
  (Jvm.Cond.soleField "PostHouseModel" "placeCode"),
  wf_ly (12, 26),
  (Jvm.Cond.soleField "PostHouseModel" "placeName"),
  wf_ly (12, 27),
  (Jvm.Cond.soleField "PostHouseModel" "streets"),
  wf_ly (12, 28),
  (Jvm.Cond.soleField "PostHouseModel" "streetPlace"),
  wf_ly (12, 29),
  (Jvm.Cond.soleField "PostHouseModel" "streetName"),
  wf_ly (12, 30),
  (Jvm.Cond.soleField "PostHouseModel" "streetX"),
  wf_ly (12, 31),
  (Jvm.Cond.soleField "PostHouseModel" "streetY"),
  wf_ly (12, 32),
  (Jvm.Cond.soleField "PostHouseModel" "streetWay"),
  wf_ly (12, 33),
  (Jvm.Cond.soleField "PostHouseModel" "ranges"),
  wf_ly (12, 34),
  (Jvm.Cond.soleField "PostHouseModel" "rangeStreet"),
  wf_ly (12, 35),
  (Jvm.Cond.soleField "PostHouseModel" "rangeSide"),
  wf_ly (12, 36),
  (Jvm.Cond.soleField "PostHouseModel" "rangeLow"),
  wf_ly (12, 37),
  (Jvm.Cond.soleField "PostHouseModel" "rangeHigh"),
  wf_ly (12, 38),
  (Jvm.Cond.soleField "PostHouseModel" "points"),
  wf_ly (12, 39),
  (Jvm.Cond.soleField "PostHouseModel" "pointStreet"),
  wf_ly (12, 40),
  (Jvm.Cond.soleField "PostHouseModel" "pointHouse"),
  wf_ly (12, 41),
  (Jvm.Cond.soleField "PostHouseModel" "pointRound"),
  wf_ly (12, 42),
  (Jvm.Cond.soleField "PostHouseModel" "pointRank"),
  wf_ly (12, 43),
  (Jvm.Cond.soleField "PostHouseModel" "notes"),
  wf_ly (12, 44),
  (Jvm.Cond.soleField "PostHouseModel" "notePoint"),
  wf_ly (12, 45),
  (Jvm.Cond.soleField "PostHouseModel" "notePerson"),
  wf_ly (12, 46),
  (Jvm.Cond.soleField "PostHouseModel" "noteTo"),
  wf_ly (12, 47),
  (Jvm.Cond.soleField "PostHouseModel" "noteUntil"),
  wf_ly (12, 48),
  (Jvm.Cond.soleField "PostHouseModel" "seen"),
  wf_ly (12, 49),
  (Jvm.Cond.soleField "PostHouseModel" "reading"),
  wf_ly (12, 50),
  (Jvm.Cond.soleField "PostHouseModel" "readPoint"),
  wf_ly (12, 51),
  (Jvm.Cond.soleField "PostHouseModel" "lines"),
  wf_ly (12, 52),
  (Jvm.Cond.soleField "PostHouseModel" "lineFrom"),
  wf_ly (12, 53),
  (Jvm.Cond.soleField "PostHouseModel" "signLeft"),
  wf_ly (12, 54),
  (Jvm.Cond.soleField "PostHouseModel" "signTop"),
  wf_ly (12, 55),
  (Jvm.Cond.soleField "PostHouseModel" "signWidth"),
  wf_ly (12, 56),
  (Jvm.Cond.soleField "PostHouseModel" "signHeight"),
  wf_ly (12, 57),
  (Jvm.Cond.soleField "PostHouseModel" "signCells"),
  wf_ly (12, 58),
  (Jvm.Cond.soleField "PostHouseModel" "items"),
  wf_ly (12, 59),
  (Jvm.Cond.soleField "PostHouseModel" "state"),
  wf_ly (12, 60),
  (Jvm.Cond.soleField "PostHouseModel" "kind"),
  wf_ly (12, 61),
  (Jvm.Cond.soleField "PostHouseModel" "weight"),
  wf_ly (12, 62),
  (Jvm.Cond.soleField "PostHouseModel" "services"),
  wf_ly (12, 63),
  (Jvm.Cond.soleField "PostHouseModel" "account"),
  wf_ly (12, 64),
  (Jvm.Cond.soleField "PostHouseModel" "person"),
  wf_ly (12, 65),
  (Jvm.Cond.soleField "PostHouseModel" "cents"),
  wf_ly (12, 66),
  (Jvm.Cond.soleField "PostHouseModel" "address"),
  wf_ly (12, 67),
  (Jvm.Cond.soleField "PostHouseModel" "inPlace"),
  wf_ly (12, 68),
  (Jvm.Cond.soleField "PostHouseModel" "inSince"),
  wf_ly (12, 69),
  (Jvm.Cond.soleField "PostHouseModel" "bagOf"),
  wf_ly (12, 70),
  (Jvm.Cond.soleField "PostHouseModel" "bagSince"),
  wf_ly (12, 71),
  (Jvm.Cond.soleField "PostHouseModel" "rowOf"),
  wf_ly (12, 72),
  (Jvm.Cond.soleField "PostHouseModel" "rowSince"),
  wf_ly (12, 73),
  (Jvm.Cond.soleField "PostHouseModel" "lockerOf"),
  wf_ly (12, 74),
  (Jvm.Cond.soleField "PostHouseModel" "boxOf"),
  wf_ly (12, 75),
  (Jvm.Cond.soleField "PostHouseModel" "back"),
  wf_ly (12, 76),
  (Jvm.Cond.soleField "PostHouseModel" "franked"),
  wf_ly (12, 77),
  (Jvm.Cond.soleField "PostHouseModel" "doubt"),
  wf_ly (12, 78),
  (Jvm.Cond.soleField "PostHouseModel" "heldTill"),
  wf_ly (12, 79),
  (Jvm.Cond.soleField "PostHouseModel" "claimed"),
  wf_ly (12, 80),
  (Jvm.Cond.soleField "PostHouseModel" "clerks"),
  wf_ly (12, 81),
  (Jvm.Cond.soleField "PostHouseModel" "clerkWho"),
  wf_ly (12, 82),
  (Jvm.Cond.soleField "PostHouseModel" "clerkTold"),
  wf_ly (12, 83),
  (Jvm.Cond.soleField "PostHouseModel" "bins"),
  wf_ly (12, 84),
  (Jvm.Cond.soleField "PostHouseModel" "gap"),
  wf_ly (12, 85),
  (Jvm.Cond.soleField "PostHouseModel" "step"),
  wf_ly (12, 86),
  (Jvm.Cond.soleField "PostHouseModel" "turn"),
  wf_ly (12, 87),
  (Jvm.Cond.soleField "PostHouseModel" "rounds"),
  wf_ly (12, 88),
  (Jvm.Cond.soleField "PostHouseModel" "roundPlace"),
  wf_ly (12, 89),
  (Jvm.Cond.soleField "PostHouseModel" "roundX"),
  wf_ly (12, 90),
  (Jvm.Cond.soleField "PostHouseModel" "roundY"),
  wf_ly (12, 91),
  (Jvm.Cond.soleField "PostHouseModel" "passes"),
  wf_ly (12, 92),
  (Jvm.Cond.soleField "PostHouseModel" "isWrong"),
  wf_ly (12, 93),
  (Jvm.Cond.soleField "PostHouseModel" "legs"),
  wf_ly (12, 94),
  (Jvm.Cond.soleField "PostHouseModel" "legFrom"),
  wf_ly (12, 95),
  (Jvm.Cond.soleField "PostHouseModel" "legTo"),
  wf_ly (12, 96),
  (Jvm.Cond.soleField "PostHouseModel" "legLeaves"),
  wf_ly (12, 97),
  (Jvm.Cond.soleField "PostHouseModel" "legTakes"),
  wf_ly (12, 98),
  (Jvm.Cond.soleField "PostHouseModel" "legSpace"),
  wf_ly (12, 99),
  (Jvm.Cond.soleField "PostHouseModel" "legNext"),
  wf_ly (12, 100),
  (Jvm.Cond.soleField "PostHouseModel" "legLate"),
  wf_ly (12, 101),
  (Jvm.Cond.soleField "PostHouseModel" "bags"),
  wf_ly (12, 102),
  (Jvm.Cond.soleField "PostHouseModel" "bagState"),
  wf_ly (12, 103),
  (Jvm.Cond.soleField "PostHouseModel" "bagPlace"),
  wf_ly (12, 104),
  (Jvm.Cond.soleField "PostHouseModel" "bagEnd"),
  wf_ly (12, 105),
  (Jvm.Cond.soleField "PostHouseModel" "bagLeg"),
  wf_ly (12, 106),
  (Jvm.Cond.soleField "PostHouseModel" "bagArrives"),
  wf_ly (12, 107),
  (Jvm.Cond.soleField "PostHouseModel" "lockers"),
  wf_ly (12, 108),
  (Jvm.Cond.soleField "PostHouseModel" "lockerPlace"),
  wf_ly (12, 109),
  (Jvm.Cond.soleField "PostHouseModel" "lockerBoxes"),
  wf_ly (12, 110),
  (Jvm.Cond.soleField "PostHouseModel" "lockerWrong"),
  wf_ly (12, 111),
  (Jvm.Cond.soleField "PostHouseModel" "customers"),
  wf_ly (12, 112),
  (Jvm.Cond.soleField "PostHouseModel" "home"),
  wf_ly (12, 113),
  (Jvm.Cond.soleField "PostHouseModel" "wishes"),
  wf_ly (12, 114),
  (Jvm.Cond.soleField "PostHouseModel" "bookings"),
  wf_ly (12, 115),
  (Jvm.Cond.soleField "PostHouseModel" "bookFrom"),
  wf_ly (12, 116),
  (Jvm.Cond.soleField "PostHouseModel" "bookTo"),
  wf_ly (12, 117),
  (Jvm.Cond.soleField "PostHouseModel" "bookCents"),
  wf_ly (12, 118),
  (Jvm.Cond.soleField "PostHouseModel" "bookItem"),
  wf_ly (12, 119),
  (Jvm.Cond.soleField "PostHouseModel" "orders"),
  wf_ly (12, 120),
  (Jvm.Cond.soleField "PostHouseModel" "orderState"),
  wf_ly (12, 121),
  (Jvm.Cond.soleField "PostHouseModel" "orderAccount"),
  wf_ly (12, 122),
  (Jvm.Cond.soleField "PostHouseModel" "orderPerson"),
  wf_ly (12, 123),
  (Jvm.Cond.soleField "PostHouseModel" "orderCents"),
  wf_ly (12, 124),
  (Jvm.Cond.soleField "PostHouseModel" "orderDay"),
  wf_ly (12, 125),
  (Jvm.Cond.soleField "PostHouseModel" "rates"),
  wf_ly (12, 126),
  (Jvm.Cond.soleField "PostHouseModel" "rateKind"),
  wf_ly (12, 127),
  (Jvm.Cond.soleField "PostHouseModel" "rateOf"),
  wf_ly (12, 128)]
set_option maxRecDepth 100000 in
theorem tq_ok_11 : tables_1_11 = tq_11 := rfl
def wl_ly_11 : List (Nat × Nat) := [
  (12, 9), (12, 10), (12, 11), (12, 12), (12, 13), (12, 14), (12, 15), (12, 16), (12, 17), (12, 18), (12, 19), (12, 20),
  (12, 21), (12, 22), (12, 23), (12, 24), (12, 25), (12, 26), (12, 27), (12, 28), (12, 29), (12, 30), (12, 31), (12, 32),
  (12, 33), (12, 34), (12, 35), (12, 36), (12, 37), (12, 38), (12, 39), (12, 40), (12, 41), (12, 42), (12, 43), (12, 44),
  (12, 45), (12, 46), (12, 47), (12, 48), (12, 49), (12, 50), (12, 51), (12, 52), (12, 53), (12, 54), (12, 55), (12, 56),
  (12, 57), (12, 58), (12, 59), (12, 60), (12, 61), (12, 62), (12, 63), (12, 64), (12, 65), (12, 66), (12, 67), (12, 68),
  (12, 69), (12, 70), (12, 71), (12, 72), (12, 73), (12, 74), (12, 75), (12, 76), (12, 77), (12, 78), (12, 79), (12, 80),
  (12, 81), (12, 82), (12, 83), (12, 84), (12, 85), (12, 86), (12, 87), (12, 88), (12, 89), (12, 90), (12, 91), (12, 92),
  (12, 93), (12, 94), (12, 95), (12, 96), (12, 97), (12, 98), (12, 99), (12, 100), (12, 101), (12, 102), (12, 103), (12, 104),
  (12, 105), (12, 106), (12, 107), (12, 108), (12, 109), (12, 110), (12, 111), (12, 112), (12, 113), (12, 114), (12, 115), (12, 116),
  (12, 117), (12, 118), (12, 119), (12, 120), (12, 121), (12, 122), (12, 123), (12, 124), (12, 125), (12, 126), (12, 127), (12, 128)]
set_option maxRecDepth 100000 in
theorem wk_ly_11 : wl_ly_11.map wf_ly = ([
  1, 3, 5, 7, 9, 11, 13, 15, 17, 19, 21, 23, 25, 27, 29, 31, 33, 35, 37, 39, 41, 43, 45, 47,
  49, 51, 53, 55, 57, 59, 61, 63, 65, 67, 69, 71, 73, 75, 77, 79, 81, 83, 85, 87, 89, 91, 93, 95,
  97, 99, 101, 103, 105, 107, 109, 111, 113, 115, 117, 119, 121, 123, 125, 127, 129, 131, 133, 135, 137, 139, 141, 143,
  145, 147, 149, 151, 153, 155, 157, 159, 161, 163, 165, 167, 169, 171, 173, 175, 177, 179, 181, 183, 185, 187, 189, 191,
  193, 195, 197, 199, 201, 203, 205, 207, 209, 211, 213, 215, 217, 219, 221, 223, 225, 227, 229, 231, 233, 235, 237, 239] : List Nat).filterMap (fun i => tq_11[i]?) := rfl
theorem wi_ly_11 : ∀ q ∈ wl_ly_11, wf_ly q ∈ lw_tbl := fun q h => tq_mem.2.2.2.2.2.2.2.2.2.2.1 _ (by rw [tq_ok_11]; exact w_pos wk_ly_11 q h)
noncomputable def tq_12 : List Cond := [
  (Jvm.Cond.soleField "PostHouseModel" "rateCents"),
  wf_ly (12, 129),
  (Jvm.Cond.soleField "PostHouseModel" "events"),
  wf_ly (12, 130),
  (Jvm.Cond.soleField "PostHouseModel" "eventItem"),
  wf_ly (12, 131),
  (Jvm.Cond.soleField "PostHouseModel" "eventSort"),
  wf_ly (12, 132),
  (Jvm.Cond.soleField "PostHouseModel" "eventPlace"),
  wf_ly (12, 133),
  (Jvm.Cond.soleField "PostHouseModel" "eventTime"),
  wf_ly (12, 134),
  (Jvm.Cond.soleField "PostHouseModel" "notices"),
  wf_ly (12, 135),
  (Jvm.Cond.soleField "PostHouseModel" "noticeItem"),
  wf_ly (12, 136),
  (Jvm.Cond.soleField "PostHouseModel" "noticeSort"),
  wf_ly (12, 137),
  (Jvm.Cond.soleField "PostHouseModel" "noticeTime"),
  wf_ly (12, 138),
  (Jvm.Cond.soleField "PostHouseModel" "offset"),
  wf_ly (12, 139),
  (Jvm.Cond.soleField "PostHouseModel" "pos"),
  wf_ly (12, 140),
  (Jvm.Cond.soleField "PostHouseModel" "stuck"),
  wf_ly (12, 141),
  (Jvm.Cond.soleField "PostHouseModel" "lastAsked"),
  wf_ly (12, 142),
  (Jvm.Cond.soleField "PostHouseModel" "asked"),
  wf_ly (12, 143),
  (Jvm.Cond.soleField "PostHouseModel" "dark"),
  wf_ly (12, 144),
  (Jvm.Cond.soleField "PostHouseModel" "gone"),
  wf_ly (12, 145),
  (Jvm.Cond.soleField "PostHouseModel" "queue"),
  wf_ly (12, 146),
  (Jvm.Cond.soleField "PostHouseModel" "parts"),
  wf_ly (12, 147),
  (Jvm.Cond.soleField "PostHouseModel" "partLeft"),
  wf_ly (12, 148),
  (Jvm.Cond.soleField "PostHouseModel" "partTop"),
  wf_ly (12, 149),
  (Jvm.Cond.soleField "PostHouseModel" "partWidth"),
  wf_ly (12, 150),
  (Jvm.Cond.soleField "PostHouseModel" "partHeight"),
  wf_ly (12, 151),
  (Jvm.Cond.soleField "PostHouseModel" "lineOf"),
  wf_ly (12, 152),
  (Jvm.Cond.soleField "PostHouseModel" "wide"),
  wf_ly (12, 153),
  (Jvm.Cond.soleField "PostHouseModel" "high"),
  wf_ly (12, 154),
  (Jvm.Cond.soleField "PostHouseModel" "symbols"),
  wf_ly (12, 155),
  (Jvm.Cond.soleField "PostHouseModel" "spelled"),
  wf_ly (12, 156),
  (Jvm.Cond.soleField "PostHouseModel" "changed"),
  wf_ly (12, 157),
  (Jvm.Cond.soleField "PostHouseModel" "symbol"),
  wf_ly (12, 158),
  (Jvm.Cond.soleField "PostHouseModel" "roots"),
  wf_ly (12, 159),
  (Jvm.Cond.soleField "PostHouseModel" "found"),
  wf_ly (12, 160),
  (Jvm.Cond.soleField "PostHouseModel" "powers"),
  wf_ly (12, 161),
  (Jvm.Cond.soleField "PostHouseModel" "mended"),
  wf_ly (12, 162),
  (Jvm.Cond.soleField "PostHouseModel" "stops"),
  wf_ly (12, 163),
  (Jvm.Cond.soleField "PostHouseModel" "stopX"),
  wf_ly (12, 164),
  (Jvm.Cond.soleField "PostHouseModel" "stopY"),
  wf_ly (12, 165),
  (Jvm.Cond.soleField "PostHouseModel" "least"),
  wf_ly (12, 166),
  (Jvm.Cond.soleField "PostHouseModel" "feeds"),
  wf_ly (12, 167),
  (Jvm.Cond.soleField "PostHouseModel" "fed"),
  wf_ly (12, 168),
  (Jvm.Cond.soleField "PostHouseModel" "fedAgain"),
  wf_ly (12, 169),
  (Jvm.Cond.soleField "PostHouseModel" "goal"),
  wf_ly (12, 170),
  (Jvm.Cond.soleField "PostHouseModel" "rank"),
  wf_ly (12, 171),
  (Jvm.Cond.soleField "PostHouseModel" "bin"),
  wf_ly (12, 172),
  (Jvm.Cond.soleField "PostHouseModel" "stands"),
  wf_ly (12, 173),
  (Jvm.Cond.soleField "PostHouseModel" "latest"),
  wf_ly (12, 174),
  (Jvm.Cond.soleField "PostHouseModel" "reached"),
  wf_ly (12, 175),
  (Jvm.Cond.soleField "PostHouseModel" "firstLeg"),
  wf_ly (12, 176),
  (Jvm.Cond.soleField "PostHouseModel" "lookedAt"),
  wf_ly (12, 177),
  (Jvm.Cond.soleField "PostHouseModel" "oldKind"),
  wf_ly (12, 178),
  (Jvm.Cond.soleField "PostHouseModel" "oldOf"),
  wf_ly (12, 179),
  (Jvm.Cond.soleField "PostHouseModel" "oldCents"),
  (Jvm.Cond.superclass "PostHouseModel" "java/lang/Object"),
  wf_lk (13, 40, 323),
  wf_inst 323,
  wf_sel 323,
  wf_code 323,
  wf_lk (13, 48, 324),
  wf_inst 324,
  wf_sel 324,
  wf_code 324,
  wf_lk (12, 483, 311),
  wf_stat 311,
  wf_code 311,
  wf_lk (13, 52, 329),
  wf_inst 329,
  wf_sel 329,
  wf_code 329,
  wf_lk (12, 495, 328),
  (Jvm.Cond.privateMethod ({ cls := "PostHouseModel", name := "make", desc := "(IIZ)V" } : Jvm.MethodName)),
  wf_inst 328,
  wf_code 328,
  wf_lk (12, 491, 326),
  wf_stat 326,
  wf_code 326,
  wf_cst (12, 487, (-2048144777)),
  wf_lk (13, 56, 330),
  wf_inst 330,
  wf_sel 330,
  wf_code 330,
  wf_lk (13, 60, 335),
  wf_inst 335,
  wf_sel 335,
  wf_code 335,
  wf_lk (12, 518, 327),
  (Jvm.Cond.privateMethod ({ cls := "PostHouseModel", name := "isRight", desc := "(I)Z" } : Jvm.MethodName)),
  wf_inst 327,
  wf_code 327,
  wf_lk (12, 488, 325),
  (Jvm.Cond.privateMethod ({ cls := "PostHouseModel", name := "at", desc := "(II)I" } : Jvm.MethodName)),
  wf_inst 325,
  wf_code 325,
  wf_lk (12, 521, 334),
  (Jvm.Cond.privateMethod ({ cls := "PostHouseModel", name := "again", desc := "()I" } : Jvm.MethodName)),
  wf_inst 334,
  wf_code 334,
  wf_lk (12, 514, 333),
  (Jvm.Cond.privateMethod ({ cls := "PostHouseModel", name := "isRecord", desc := "()Z" } : Jvm.MethodName)),
  wf_inst 333,
  wf_code 333,
  wf_lk (12, 508, 332),
  (Jvm.Cond.privateMethod ({ cls := "PostHouseModel", name := "next", desc := "()I" } : Jvm.MethodName)),
  wf_inst 332,
  wf_code 332,
  wf_lk (12, 432, 313),
  wf_stat 313,
  wf_code 313,
  wf_lk (12, 511, 331),
  (Jvm.Cond.privateMethod ({ cls := "PostHouseModel", name := "lacks", desc := "(I)Z" } : Jvm.MethodName)),
  wf_inst 331,
  wf_code 331,
  wf_lk (12, 436, 314),
  wf_stat 314,
  wf_code 314,
  wf_lk (12, 458, 530),
  (Jvm.Cond.privateMethod ({ cls := "PostHouseModel", name := "act", desc := "()I" } : Jvm.MethodName)),
  wf_inst 530,
  wf_code 530,
  wf_lk (12, 913, 370),
  (Jvm.Cond.privateMethod ({ cls := "PostHouseModel", name := "doBook", desc := "()I" } : Jvm.MethodName)),
  wf_inst 370,
  wf_code 370,
  wf_lk (12, 678, 369),
  (Jvm.Cond.privateMethod ({ cls := "PostHouseModel", name := "entryOfBook", desc := "()Z" } : Jvm.MethodName)),
  wf_inst 369,
  wf_code 369,
  wf_lk (12, 625, 355),
  (Jvm.Cond.privateMethod ({ cls := "PostHouseModel", name := "look", desc := "()I" } : Jvm.MethodName)),
  wf_inst 355,
  wf_code 355,
  wf_lk (12, 635, 357),
  (Jvm.Cond.privateMethod ({ cls := "PostHouseModel", name := "digits", desc := "()I" } : Jvm.MethodName)),
  wf_inst 357,
  wf_code 357,
  wf_lk (12, 632, 356),
  (Jvm.Cond.privateMethod ({ cls := "PostHouseModel", name := "eat", desc := "(I)V" } : Jvm.MethodName)),
  wf_inst 356,
  wf_code 356,
  wf_lk (12, 657, 358),
  (Jvm.Cond.privateMethod ({ cls := "PostHouseModel", name := "letters", desc := "()J" } : Jvm.MethodName)),
  wf_inst 358,
  wf_code 358,
  wf_csl (12, 628, 27),
  wf_csl (12, 630, 65),
  wf_lk (12, 661, 359),
  (Jvm.Cond.privateMethod ({ cls := "PostHouseModel", name := "comma", desc := "()I" } : Jvm.MethodName)),
  wf_inst 359,
  wf_code 359,
  wf_lk (12, 643, 360),
  (Jvm.Cond.privateMethod ({ cls := "PostHouseModel", name := "placeWith", desc := "(I)I" } : Jvm.MethodName)),
  wf_inst 360,
  wf_code 360,
  wf_lk (12, 646, 361),
  (Jvm.Cond.privateMethod ({ cls := "PostHouseModel", name := "streetWith", desc := "(IJ)I" } : Jvm.MethodName)),
  wf_inst 361,
  wf_code 361,
  wf_lk (12, 664, 365),
  (Jvm.Cond.privateMethod ({ cls := "PostHouseModel", name := "addPlace", desc := "(IJ)Z" } : Jvm.MethodName)),
  wf_inst 365,
  wf_code 365,
  wf_cst (12, 642, 99999),
  wf_lk (12, 668, 366),
  (Jvm.Cond.privateMethod ({ cls := "PostHouseModel", name := "addStreet", desc := "(IJIII)Z" } : Jvm.MethodName)),
  wf_inst 366,
  wf_code 366,
  wf_lk (12, 672, 367),
  (Jvm.Cond.privateMethod ({ cls := "PostHouseModel", name := "addRange", desc := "(IIII)Z" } : Jvm.MethodName)),
  wf_inst 367,
  wf_code 367,
  wf_lk (12, 638, 362),
  wf_stat 362,
  wf_code 362,
  wf_lk (12, 650, 363),
  (Jvm.Cond.privateMethod ({ cls := "PostHouseModel", name := "inRange", desc := "(II)Z" } : Jvm.MethodName)),
  wf_inst 363,
  wf_code 363,
  wf_lk (12, 675, 368),
  (Jvm.Cond.privateMethod ({ cls := "PostHouseModel", name := "addPoint", desc := "(II)Z" } : Jvm.MethodName)),
  wf_inst 368,
  wf_code 368,
  wf_lk (12, 654, 364),
  (Jvm.Cond.privateMethod ({ cls := "PostHouseModel", name := "pointWith", desc := "(II)I" } : Jvm.MethodName)),
  wf_inst 364,
  wf_code 364,
  wf_lk (12, 681, 316),
  (Jvm.Cond.privateMethod ({ cls := "PostHouseModel", name := "full", desc := "()Z" } : Jvm.MethodName)),
  wf_inst 316,
  wf_code 316,
  wf_lk (12, 684, 315)]
set_option maxRecDepth 100000 in
theorem tq_ok_12 : tables_1_12 = tq_12 := rfl
def wl_ly_12 : List (Nat × Nat) := [
  (12, 129), (12, 130), (12, 131), (12, 132), (12, 133), (12, 134), (12, 135), (12, 136), (12, 137), (12, 138), (12, 139), (12, 140),
  (12, 141), (12, 142), (12, 143), (12, 144), (12, 145), (12, 146), (12, 147), (12, 148), (12, 149), (12, 150), (12, 151), (12, 152),
  (12, 153), (12, 154), (12, 155), (12, 156), (12, 157), (12, 158), (12, 159), (12, 160), (12, 161), (12, 162), (12, 163), (12, 164),
  (12, 165), (12, 166), (12, 167), (12, 168), (12, 169), (12, 170), (12, 171), (12, 172), (12, 173), (12, 174), (12, 175), (12, 176),
  (12, 177), (12, 178), (12, 179)]
set_option maxRecDepth 100000 in
theorem wk_ly_12 : wl_ly_12.map wf_ly = ([
  1, 3, 5, 7, 9, 11, 13, 15, 17, 19, 21, 23, 25, 27, 29, 31, 33, 35, 37, 39, 41, 43, 45, 47,
  49, 51, 53, 55, 57, 59, 61, 63, 65, 67, 69, 71, 73, 75, 77, 79, 81, 83, 85, 87, 89, 91, 93, 95,
  97, 99, 101] : List Nat).filterMap (fun i => tq_12[i]?) := rfl
theorem wi_ly_12 : ∀ q ∈ wl_ly_12, wf_ly q ∈ lw_tbl := fun q h => tq_mem.2.2.2.2.2.2.2.2.2.2.2.1 _ (by rw [tq_ok_12]; exact w_pos wk_ly_12 q h)
def wl_lk_12 : List (Nat × (Nat × Nat)) := [
  (13, 40, 323), (13, 48, 324), (12, 483, 311), (13, 52, 329), (12, 495, 328), (12, 491, 326), (13, 56, 330), (13, 60, 335), (12, 518, 327), (12, 488, 325), (12, 521, 334), (12, 514, 333),
  (12, 508, 332), (12, 432, 313), (12, 511, 331), (12, 436, 314), (12, 458, 530), (12, 913, 370), (12, 678, 369), (12, 625, 355), (12, 635, 357), (12, 632, 356), (12, 657, 358), (12, 661, 359),
  (12, 643, 360), (12, 646, 361), (12, 664, 365), (12, 668, 366), (12, 672, 367), (12, 638, 362), (12, 650, 363), (12, 675, 368), (12, 654, 364), (12, 681, 316), (12, 684, 315)]
set_option maxRecDepth 100000 in
theorem wk_lk_12 : wl_lk_12.map wf_lk = ([
  104, 108, 112, 115, 119, 123, 127, 131, 135, 139, 143, 147, 151, 155, 158, 162, 165, 169, 173, 177, 181, 185, 189, 195,
  199, 203, 207, 212, 216, 220, 223, 227, 231, 235, 239] : List Nat).filterMap (fun i => tq_12[i]?) := rfl
theorem wi_lk_12 : ∀ q ∈ wl_lk_12, wf_lk q ∈ lw_tbl := fun q h => tq_mem.2.2.2.2.2.2.2.2.2.2.2.1 _ (by rw [tq_ok_12]; exact w_pos wk_lk_12 q h)
def wl_inst_12 : List (Nat) := [
  323, 324, 329, 328, 330, 335, 327, 325, 334, 333, 332, 331,
  530, 370, 369, 355, 357, 356, 358, 359, 360, 361, 365, 366,
  367, 363, 368, 364, 316]
set_option maxRecDepth 100000 in
theorem wk_inst_12 : wl_inst_12.map wf_inst = ([
  105, 109, 116, 121, 128, 132, 137, 141, 145, 149, 153, 160, 167, 171, 175, 179, 183, 187, 191, 197, 201, 205, 209, 214,
  218, 225, 229, 233, 237] : List Nat).filterMap (fun i => tq_12[i]?) := rfl
theorem wi_inst_12 : ∀ q ∈ wl_inst_12, wf_inst q ∈ lw_tbl := fun q h => tq_mem.2.2.2.2.2.2.2.2.2.2.2.1 _ (by rw [tq_ok_12]; exact w_pos wk_inst_12 q h)
def wl_sel_12 : List (Nat) := [
  323, 324, 329, 330, 335]
set_option maxRecDepth 100000 in
theorem wk_sel_12 : wl_sel_12.map wf_sel = ([
  106, 110, 117, 129, 133] : List Nat).filterMap (fun i => tq_12[i]?) := rfl
theorem wi_sel_12 : ∀ q ∈ wl_sel_12, wf_sel q ∈ lw_tbl := fun q h => tq_mem.2.2.2.2.2.2.2.2.2.2.2.1 _ (by rw [tq_ok_12]; exact w_pos wk_sel_12 q h)
def wl_code_12 : List (Nat) := [
  323, 324, 311, 329, 328, 326, 330, 335, 327, 325, 334, 333,
  332, 313, 331, 314, 530, 370, 369, 355, 357, 356, 358, 359,
  360, 361, 365, 366, 367, 362, 363, 368, 364, 316]
set_option maxRecDepth 100000 in
theorem wk_code_12 : wl_code_12.map wf_code = ([
  107, 111, 114, 118, 122, 125, 130, 134, 138, 142, 146, 150, 154, 157, 161, 164, 168, 172, 176, 180, 184, 188, 192, 198,
  202, 206, 210, 215, 219, 222, 226, 230, 234, 238] : List Nat).filterMap (fun i => tq_12[i]?) := rfl
theorem wi_code_12 : ∀ q ∈ wl_code_12, wf_code q ∈ lw_tbl := fun q h => tq_mem.2.2.2.2.2.2.2.2.2.2.2.1 _ (by rw [tq_ok_12]; exact w_pos wk_code_12 q h)
def wl_stat_12 : List (Nat) := [
  311, 326, 313, 314, 362]
set_option maxRecDepth 100000 in
theorem wk_stat_12 : wl_stat_12.map wf_stat = ([
  113, 124, 156, 163, 221] : List Nat).filterMap (fun i => tq_12[i]?) := rfl
theorem wi_stat_12 : ∀ q ∈ wl_stat_12, wf_stat q ∈ lw_tbl := fun q h => tq_mem.2.2.2.2.2.2.2.2.2.2.2.1 _ (by rw [tq_ok_12]; exact w_pos wk_stat_12 q h)
def wl_cst_12 : List (Nat × (Nat × Int)) := [
  (12, 487, (-2048144777)), (12, 642, 99999)]
set_option maxRecDepth 100000 in
theorem wk_cst_12 : wl_cst_12.map wf_cst = ([
  126, 211] : List Nat).filterMap (fun i => tq_12[i]?) := rfl
theorem wi_cst_12 : ∀ q ∈ wl_cst_12, wf_cst q ∈ lw_tbl := fun q h => tq_mem.2.2.2.2.2.2.2.2.2.2.2.1 _ (by rw [tq_ok_12]; exact w_pos wk_cst_12 q h)
def wl_csl_12 : List (Nat × (Nat × Int)) := [
  (12, 628, 27), (12, 630, 65)]
set_option maxRecDepth 100000 in
theorem wk_csl_12 : wl_csl_12.map wf_csl = ([
  193, 194] : List Nat).filterMap (fun i => tq_12[i]?) := rfl
theorem wi_csl_12 : ∀ q ∈ wl_csl_12, wf_csl q ∈ lw_tbl := fun q h => tq_mem.2.2.2.2.2.2.2.2.2.2.2.1 _ (by rw [tq_ok_12]; exact w_pos wk_csl_12 q h)
noncomputable def tq_13 : List Cond := [
  (Jvm.Cond.privateMethod ({ cls := "PostHouseModel", name := "no", desc := "(I)I" } : Jvm.MethodName)),
  wf_inst 315,
  wf_code 315,
  wf_lk (12, 916, 372),
  (Jvm.Cond.privateMethod ({ cls := "PostHouseModel", name := "doNote", desc := "(IIZII)I" } : Jvm.MethodName)),
  wf_inst 372,
  wf_code 372,
  wf_lk (12, 687, 341),
  (Jvm.Cond.privateMethod ({ cls := "PostHouseModel", name := "isPoint", desc := "(I)Z" } : Jvm.MethodName)),
  wf_inst 341,
  wf_code 341,
  wf_lk (12, 690, 340),
  (Jvm.Cond.privateMethod ({ cls := "PostHouseModel", name := "today", desc := "()I" } : Jvm.MethodName)),
  wf_inst 340,
  wf_code 340,
  wf_cst (12, 693, 100000),
  wf_lk (12, 920, 398),
  (Jvm.Cond.privateMethod ({ cls := "PostHouseModel", name := "doSheet", desc := "(I)I" } : Jvm.MethodName)),
  wf_inst 398,
  wf_code 398,
  wf_lk (12, 757, 383),
  (Jvm.Cond.privateMethod ({ cls := "PostHouseModel", name := "findDark", desc := "()V" } : Jvm.MethodName)),
  wf_inst 383,
  wf_code 383,
  wf_lk (12, 760, 384),
  (Jvm.Cond.privateMethod ({ cls := "PostHouseModel", name := "part", desc := "(I)V" } : Jvm.MethodName)),
  wf_inst 384,
  wf_code 384,
  wf_lk (12, 763, 386),
  (Jvm.Cond.privateMethod ({ cls := "PostHouseModel", name := "hangTogether", desc := "()V" } : Jvm.MethodName)),
  wf_inst 386,
  wf_code 386,
  wf_lk (12, 726, 385),
  (Jvm.Cond.privateMethod ({ cls := "PostHouseModel", name := "areNear", desc := "(II)Z" } : Jvm.MethodName)),
  wf_inst 385,
  wf_code 385,
  wf_lk (12, 766, 391),
  (Jvm.Cond.privateMethod ({ cls := "PostHouseModel", name := "findLines", desc := "()V" } : Jvm.MethodName)),
  wf_inst 391,
  wf_code 391,
  wf_lk (12, 735, 387),
  (Jvm.Cond.privateMethod ({ cls := "PostHouseModel", name := "topOf", desc := "(I)I" } : Jvm.MethodName)),
  wf_inst 387,
  wf_code 387,
  wf_lk (12, 738, 390),
  (Jvm.Cond.privateMethod ({ cls := "PostHouseModel", name := "lay", desc := "(I)V" } : Jvm.MethodName)),
  wf_inst 390,
  wf_code 390,
  wf_lk (12, 729, 389),
  (Jvm.Cond.privateMethod ({ cls := "PostHouseModel", name := "isBefore", desc := "(II)Z" } : Jvm.MethodName)),
  wf_inst 389,
  wf_code 389,
  wf_lk (12, 732, 388),
  (Jvm.Cond.privateMethod ({ cls := "PostHouseModel", name := "cellsOf", desc := "(I)I" } : Jvm.MethodName)),
  wf_inst 388,
  wf_code 388,
  wf_lk (12, 769, 397),
  (Jvm.Cond.privateMethod ({ cls := "PostHouseModel", name := "readAddress", desc := "()I" } : Jvm.MethodName)),
  wf_inst 397,
  wf_code 397,
  wf_lk (12, 748, 393),
  (Jvm.Cond.privateMethod ({ cls := "PostHouseModel", name := "beginsWord", desc := "(II)Z" } : Jvm.MethodName)),
  wf_inst 393,
  wf_code 393,
  wf_lk (12, 751, 394),
  (Jvm.Cond.privateMethod ({ cls := "PostHouseModel", name := "numberOf", desc := "(III)I" } : Jvm.MethodName)),
  wf_inst 394,
  wf_code 394,
  wf_lk (12, 741, 392),
  (Jvm.Cond.privateMethod ({ cls := "PostHouseModel", name := "nearest", desc := "(III)I" } : Jvm.MethodName)),
  wf_inst 392,
  wf_code 392,
  wf_lk (12, 754, 396),
  (Jvm.Cond.privateMethod ({ cls := "PostHouseModel", name := "nearestStreet", desc := "(III)I" } : Jvm.MethodName)),
  wf_inst 396,
  wf_code 396,
  wf_lk (12, 744, 395),
  (Jvm.Cond.privateMethod ({ cls := "PostHouseModel", name := "changes", desc := "(JII)I" } : Jvm.MethodName)),
  wf_inst 395,
  wf_code 395,
  wf_lk (12, 923, 403),
  (Jvm.Cond.privateMethod ({ cls := "PostHouseModel", name := "doItem", desc := "(IIIIII)I" } : Jvm.MethodName)),
  wf_inst 403,
  wf_code 403,
  wf_lk (12, 772, 347),
  (Jvm.Cond.privateMethod ({ cls := "PostHouseModel", name := "isCustomer", desc := "(I)Z" } : Jvm.MethodName)),
  wf_inst 347,
  wf_code 347,
  wf_lk (12, 609, 352),
  (Jvm.Cond.privateMethod ({ cls := "PostHouseModel", name := "leaves", desc := "(I)V" } : Jvm.MethodName)),
  wf_inst 352,
  wf_code 352,
  wf_lk (12, 612, 351),
  (Jvm.Cond.privateMethod ({ cls := "PostHouseModel", name := "comes", desc := "(II)V" } : Jvm.MethodName)),
  wf_inst 351,
  wf_code 351,
  wf_lk (12, 605, 350),
  (Jvm.Cond.privateMethod ({ cls := "PostHouseModel", name := "event", desc := "(IIII)V" } : Jvm.MethodName)),
  wf_inst 350,
  wf_code 350,
  wf_lk (12, 927, 407),
  (Jvm.Cond.privateMethod ({ cls := "PostHouseModel", name := "doAddress", desc := "(II)I" } : Jvm.MethodName)),
  wf_inst 407,
  wf_code 407,
  wf_lk (12, 775, 342),
  (Jvm.Cond.privateMethod ({ cls := "PostHouseModel", name := "isItem", desc := "(I)Z" } : Jvm.MethodName)),
  wf_inst 342,
  wf_code 342,
  wf_lk (12, 778, 405),
  (Jvm.Cond.privateMethod ({ cls := "PostHouseModel", name := "isEarly", desc := "(I)Z" } : Jvm.MethodName)),
  wf_inst 405,
  wf_code 405,
  wf_lk (12, 781, 406),
  (Jvm.Cond.privateMethod ({ cls := "PostHouseModel", name := "settle", desc := "(II)V" } : Jvm.MethodName)),
  wf_inst 406,
  wf_code 406,
  wf_lk (12, 930, 409),
  (Jvm.Cond.privateMethod ({ cls := "PostHouseModel", name := "doTake", desc := "(I)I" } : Jvm.MethodName)),
  wf_inst 409,
  wf_code 409,
  wf_lk (12, 933, 411),
  (Jvm.Cond.privateMethod ({ cls := "PostHouseModel", name := "doClerk", desc := "(III)I" } : Jvm.MethodName)),
  wf_inst 411,
  wf_code 411,
  wf_lk (12, 936, 413),
  (Jvm.Cond.privateMethod ({ cls := "PostHouseModel", name := "doPost", desc := "(II)I" } : Jvm.MethodName)),
  wf_inst 413,
  wf_code 413,
  wf_lk (12, 784, 343),
  (Jvm.Cond.privateMethod ({ cls := "PostHouseModel", name := "isPlace", desc := "(I)Z" } : Jvm.MethodName)),
  wf_inst 343,
  wf_code 343,
  wf_lk (12, 616, 353),
  (Jvm.Cond.privateMethod ({ cls := "PostHouseModel", name := "comesIn", desc := "(II)V" } : Jvm.MethodName)),
  wf_inst 353,
  wf_code 353,
  wf_lk (12, 939, 431),
  (Jvm.Cond.privateMethod ({ cls := "PostHouseModel", name := "doMachine", desc := "(IIII)I" } : Jvm.MethodName)),
  wf_inst 431,
  wf_code 431,
  wf_lk (12, 942, 433),
  (Jvm.Cond.privateMethod ({ cls := "PostHouseModel", name := "doRound", desc := "(III)I" } : Jvm.MethodName)),
  wf_inst 433,
  wf_code 433,
  wf_lk (12, 945, 436),
  (Jvm.Cond.privateMethod ({ cls := "PostHouseModel", name := "doAssign", desc := "(II)I" } : Jvm.MethodName)),
  wf_inst 436,
  wf_code 436,
  wf_lk (12, 820, 344),
  (Jvm.Cond.privateMethod ({ cls := "PostHouseModel", name := "isRound", desc := "(I)Z" } : Jvm.MethodName)),
  wf_inst 344,
  wf_code 344,
  wf_lk (12, 714, 348),
  (Jvm.Cond.privateMethod ({ cls := "PostHouseModel", name := "placeOf", desc := "(I)I" } : Jvm.MethodName)),
  wf_inst 348,
  wf_code 348,
  wf_lk (12, 823, 435),
  (Jvm.Cond.privateMethod ({ cls := "PostHouseModel", name := "pointsOf", desc := "(I)I" } : Jvm.MethodName)),
  wf_inst 435,
  wf_code 435,
  wf_lk (12, 948, 442),
  (Jvm.Cond.privateMethod ({ cls := "PostHouseModel", name := "doArrange", desc := "(I)I" } : Jvm.MethodName)),
  wf_inst 442,
  wf_code 442,
  wf_lk (12, 708, 380),
  (Jvm.Cond.privateMethod ({ cls := "PostHouseModel", name := "xOf", desc := "(I)I" } : Jvm.MethodName)),
  wf_inst 380,
  wf_code 380,
  wf_lk (12, 711, 381),
  (Jvm.Cond.privateMethod ({ cls := "PostHouseModel", name := "yOf", desc := "(I)I" } : Jvm.MethodName)),
  wf_inst 381,
  wf_code 381,
  wf_lk (12, 833, 440),
  (Jvm.Cond.privateMethod ({ cls := "PostHouseModel", name := "arrangeExactly", desc := "(I)I" } : Jvm.MethodName)),
  wf_inst 440,
  wf_code 440,
  wf_lk (12, 829, 439),
  (Jvm.Cond.privateMethod ({ cls := "PostHouseModel", name := "far", desc := "(II)I" } : Jvm.MethodName)),
  wf_inst 439,
  wf_code 439,
  wf_lk (12, 826, 438),
  wf_stat 438,
  wf_code 438,
  wf_cst (12, 832, 100000000),
  wf_lk (12, 836, 441),
  (Jvm.Cond.privateMethod ({ cls := "PostHouseModel", name := "arrangeByNearest", desc := "(I)I" } : Jvm.MethodName)),
  wf_inst 441,
  wf_code 441,
  wf_lk (12, 951, 449),
  (Jvm.Cond.privateMethod ({ cls := "PostHouseModel", name := "doSort", desc := "(I)I" } : Jvm.MethodName)),
  wf_inst 449,
  wf_code 449,
  wf_lk (12, 845, 445),
  (Jvm.Cond.privateMethod ({ cls := "PostHouseModel", name := "rowSize", desc := "(I)I" } : Jvm.MethodName)),
  wf_inst 445,
  wf_code 445,
  wf_lk (12, 848, 446),
  (Jvm.Cond.privateMethod ({ cls := "PostHouseModel", name := "findFed", desc := "(I)V" } : Jvm.MethodName)),
  wf_inst 446,
  wf_code 446,
  wf_lk (12, 790, 415),
  (Jvm.Cond.privateMethod ({ cls := "PostHouseModel", name := "goalOf", desc := "(I)I" } : Jvm.MethodName)),
  wf_inst 415,
  wf_code 415,
  wf_lk (12, 701, 375),
  (Jvm.Cond.privateMethod ({ cls := "PostHouseModel", name := "effectiveOf", desc := "(II)I" } : Jvm.MethodName)),
  wf_inst 375,
  wf_code 375,
  wf_lk (12, 851, 448),
  (Jvm.Cond.privateMethod ({ cls := "PostHouseModel", name := "pass", desc := "(I)V" } : Jvm.MethodName)),
  wf_inst 448,
  wf_code 448,
  wf_lk (12, 842, 447),
  (Jvm.Cond.privateMethod ({ cls := "PostHouseModel", name := "gates", desc := "(II)I" } : Jvm.MethodName)),
  wf_inst 447,
  wf_code 447,
  wf_lk (12, 954, 455),
  (Jvm.Cond.privateMethod ({ cls := "PostHouseModel", name := "doOut", desc := "(I)I" } : Jvm.MethodName)),
  wf_inst 455,
  wf_code 455,
  wf_lk (12, 854, 453),
  (Jvm.Cond.privateMethod ({ cls := "PostHouseModel", name := "rowAt", desc := "(II)I" } : Jvm.MethodName)),
  wf_inst 453,
  wf_code 453,
  wf_lk (12, 957, 458),
  (Jvm.Cond.privateMethod ({ cls := "PostHouseModel", name := "doLeg", desc := "(IIIII)I" } : Jvm.MethodName)),
  wf_inst 458,
  wf_code 458,
  wf_lk (12, 857, 457),
  wf_stat 457,
  wf_code 457,
  wf_lk (12, 960, 460),
  (Jvm.Cond.privateMethod ({ cls := "PostHouseModel", name := "doLate", desc := "(II)I" } : Jvm.MethodName)),
  wf_inst 460,
  wf_code 460,
  wf_lk (12, 963, 462),
  (Jvm.Cond.privateMethod ({ cls := "PostHouseModel", name := "doBag", desc := "(II)I" } : Jvm.MethodName)),
  wf_inst 462,
  wf_code 462,
  wf_lk (12, 966, 465)]
set_option maxRecDepth 100000 in
theorem tq_ok_13 : tables_1_13 = tq_13 := rfl
def wl_inst_13 : List (Nat) := [
  315, 372, 341, 340, 398, 383, 384, 386, 385, 391, 387, 390,
  389, 388, 397, 393, 394, 392, 396, 395, 403, 347, 352, 351,
  350, 407, 342, 405, 406, 409, 411, 413, 343, 353, 431, 433,
  436, 344, 348, 435, 442, 380, 381, 440, 439, 441, 449, 445,
  446, 415, 375, 448, 447, 455, 453, 458, 460, 462]
set_option maxRecDepth 100000 in
theorem wk_inst_13 : wl_inst_13.map wf_inst = ([
  1, 5, 9, 13, 18, 22, 26, 30, 34, 38, 42, 46, 50, 54, 58, 62, 66, 70, 74, 78, 82, 86, 90, 94,
  98, 102, 106, 110, 114, 118, 122, 126, 130, 134, 138, 142, 146, 150, 154, 158, 162, 166, 170, 174, 178, 186, 190, 194,
  198, 202, 206, 210, 214, 218, 222, 226, 233, 237] : List Nat).filterMap (fun i => tq_13[i]?) := rfl
theorem wi_inst_13 : ∀ q ∈ wl_inst_13, wf_inst q ∈ lw_tbl := fun q h => tq_mem.2.2.2.2.2.2.2.2.2.2.2.2.1 _ (by rw [tq_ok_13]; exact w_pos wk_inst_13 q h)
def wl_code_13 : List (Nat) := [
  315, 372, 341, 340, 398, 383, 384, 386, 385, 391, 387, 390,
  389, 388, 397, 393, 394, 392, 396, 395, 403, 347, 352, 351,
  350, 407, 342, 405, 406, 409, 411, 413, 343, 353, 431, 433,
  436, 344, 348, 435, 442, 380, 381, 440, 439, 438, 441, 449,
  445, 446, 415, 375, 448, 447, 455, 453, 458, 457, 460, 462]
set_option maxRecDepth 100000 in
theorem wk_code_13 : wl_code_13.map wf_code = ([
  2, 6, 10, 14, 19, 23, 27, 31, 35, 39, 43, 47, 51, 55, 59, 63, 67, 71, 75, 79, 83, 87, 91, 95,
  99, 103, 107, 111, 115, 119, 123, 127, 131, 135, 139, 143, 147, 151, 155, 159, 163, 167, 171, 175, 179, 182, 187, 191,
  195, 199, 203, 207, 211, 215, 219, 223, 227, 230, 234, 238] : List Nat).filterMap (fun i => tq_13[i]?) := rfl
theorem wi_code_13 : ∀ q ∈ wl_code_13, wf_code q ∈ lw_tbl := fun q h => tq_mem.2.2.2.2.2.2.2.2.2.2.2.2.1 _ (by rw [tq_ok_13]; exact w_pos wk_code_13 q h)
def wl_lk_13 : List (Nat × (Nat × Nat)) := [
  (12, 916, 372), (12, 687, 341), (12, 690, 340), (12, 920, 398), (12, 757, 383), (12, 760, 384), (12, 763, 386), (12, 726, 385), (12, 766, 391), (12, 735, 387), (12, 738, 390), (12, 729, 389),
  (12, 732, 388), (12, 769, 397), (12, 748, 393), (12, 751, 394), (12, 741, 392), (12, 754, 396), (12, 744, 395), (12, 923, 403), (12, 772, 347), (12, 609, 352), (12, 612, 351), (12, 605, 350),
  (12, 927, 407), (12, 775, 342), (12, 778, 405), (12, 781, 406), (12, 930, 409), (12, 933, 411), (12, 936, 413), (12, 784, 343), (12, 616, 353), (12, 939, 431), (12, 942, 433), (12, 945, 436),
  (12, 820, 344), (12, 714, 348), (12, 823, 435), (12, 948, 442), (12, 708, 380), (12, 711, 381), (12, 833, 440), (12, 829, 439), (12, 826, 438), (12, 836, 441), (12, 951, 449), (12, 845, 445),
  (12, 848, 446), (12, 790, 415), (12, 701, 375), (12, 851, 448), (12, 842, 447), (12, 954, 455), (12, 854, 453), (12, 957, 458), (12, 857, 457), (12, 960, 460), (12, 963, 462), (12, 966, 465)]
set_option maxRecDepth 100000 in
theorem wk_lk_13 : wl_lk_13.map wf_lk = ([
  3, 7, 11, 16, 20, 24, 28, 32, 36, 40, 44, 48, 52, 56, 60, 64, 68, 72, 76, 80, 84, 88, 92, 96,
  100, 104, 108, 112, 116, 120, 124, 128, 132, 136, 140, 144, 148, 152, 156, 160, 164, 168, 172, 176, 180, 184, 188, 192,
  196, 200, 204, 208, 212, 216, 220, 224, 228, 231, 235, 239] : List Nat).filterMap (fun i => tq_13[i]?) := rfl
theorem wi_lk_13 : ∀ q ∈ wl_lk_13, wf_lk q ∈ lw_tbl := fun q h => tq_mem.2.2.2.2.2.2.2.2.2.2.2.2.1 _ (by rw [tq_ok_13]; exact w_pos wk_lk_13 q h)
def wl_cst_13 : List (Nat × (Nat × Int)) := [
  (12, 693, 100000), (12, 832, 100000000)]
set_option maxRecDepth 100000 in
theorem wk_cst_13 : wl_cst_13.map wf_cst = ([
  15, 183] : List Nat).filterMap (fun i => tq_13[i]?) := rfl
theorem wi_cst_13 : ∀ q ∈ wl_cst_13, wf_cst q ∈ lw_tbl := fun q h => tq_mem.2.2.2.2.2.2.2.2.2.2.2.2.1 _ (by rw [tq_ok_13]; exact w_pos wk_cst_13 q h)
def wl_stat_13 : List (Nat) := [
  438, 457]
set_option maxRecDepth 100000 in
theorem wk_stat_13 : wl_stat_13.map wf_stat = ([
  181, 229] : List Nat).filterMap (fun i => tq_13[i]?) := rfl
theorem wi_stat_13 : ∀ q ∈ wl_stat_13, wf_stat q ∈ lw_tbl := fun q h => tq_mem.2.2.2.2.2.2.2.2.2.2.2.2.1 _ (by rw [tq_ok_13]; exact w_pos wk_stat_13 q h)
noncomputable def tq_14 : List Cond := [
  (Jvm.Cond.privateMethod ({ cls := "PostHouseModel", name := "doInto", desc := "(II)I" } : Jvm.MethodName)),
  wf_inst 465,
  wf_code 465,
  wf_lk (12, 860, 345),
  (Jvm.Cond.privateMethod ({ cls := "PostHouseModel", name := "isBag", desc := "(I)Z" } : Jvm.MethodName)),
  wf_inst 345,
  wf_code 345,
  wf_lk (12, 863, 464),
  (Jvm.Cond.privateMethod ({ cls := "PostHouseModel", name := "inBag", desc := "(I)I" } : Jvm.MethodName)),
  wf_inst 464,
  wf_code 464,
  wf_lk (12, 969, 467),
  (Jvm.Cond.privateMethod ({ cls := "PostHouseModel", name := "doClose", desc := "(I)I" } : Jvm.MethodName)),
  wf_inst 467,
  wf_code 467,
  wf_lk (12, 972, 469),
  (Jvm.Cond.privateMethod ({ cls := "PostHouseModel", name := "doOpen", desc := "(I)I" } : Jvm.MethodName)),
  wf_inst 469,
  wf_code 469,
  wf_lk (12, 975, 478),
  (Jvm.Cond.privateMethod ({ cls := "PostHouseModel", name := "handOver", desc := "(IIIIZ)I" } : Jvm.MethodName)),
  wf_inst 478,
  wf_code 478,
  wf_cst (12, 869, 1000000),
  wf_lk (12, 793, 417),
  (Jvm.Cond.privateMethod ({ cls := "PostHouseModel", name := "priceDue", desc := "(I)I" } : Jvm.MethodName)),
  wf_inst 417,
  wf_code 417,
  wf_lk (12, 787, 416),
  (Jvm.Cond.privateMethod ({ cls := "PostHouseModel", name := "priceOf", desc := "(I)I" } : Jvm.MethodName)),
  wf_inst 416,
  wf_code 416,
  wf_lk (12, 796, 418),
  (Jvm.Cond.privateMethod ({ cls := "PostHouseModel", name := "centsDue", desc := "(I)I" } : Jvm.MethodName)),
  wf_inst 418,
  wf_code 418,
  wf_lk (12, 870, 474),
  (Jvm.Cond.privateMethod ({ cls := "PostHouseModel", name := "openOrders", desc := "()I" } : Jvm.MethodName)),
  wf_inst 474,
  wf_code 474,
  wf_lk (12, 873, 475),
  (Jvm.Cond.privateMethod ({ cls := "PostHouseModel", name := "isLedgerFull", desc := "(II)Z" } : Jvm.MethodName)),
  wf_inst 475,
  wf_code 475,
  wf_lk (12, 876, 476),
  (Jvm.Cond.privateMethod ({ cls := "PostHouseModel", name := "pay", desc := "(IIII)V" } : Jvm.MethodName)),
  wf_inst 476,
  wf_code 476,
  wf_lk (12, 979, 480),
  (Jvm.Cond.privateMethod ({ cls := "PostHouseModel", name := "doMiss", desc := "(I)I" } : Jvm.MethodName)),
  wf_inst 480,
  wf_code 480,
  wf_lk (12, 982, 482),
  (Jvm.Cond.privateMethod ({ cls := "PostHouseModel", name := "doRefuse", desc := "(I)I" } : Jvm.MethodName)),
  wf_inst 482,
  wf_code 482,
  wf_lk (12, 879, 354),
  (Jvm.Cond.privateMethod ({ cls := "PostHouseModel", name := "goesBack", desc := "(I)I" } : Jvm.MethodName)),
  wf_inst 354,
  wf_code 354,
  wf_lk (12, 985, 485),
  (Jvm.Cond.privateMethod ({ cls := "PostHouseModel", name := "doPut", desc := "(II)I" } : Jvm.MethodName)),
  wf_inst 485,
  wf_code 485,
  wf_lk (12, 882, 346),
  (Jvm.Cond.privateMethod ({ cls := "PostHouseModel", name := "isLocker", desc := "(I)Z" } : Jvm.MethodName)),
  wf_inst 346,
  wf_code 346,
  wf_lk (12, 885, 484),
  (Jvm.Cond.privateMethod ({ cls := "PostHouseModel", name := "inBox", desc := "(II)I" } : Jvm.MethodName)),
  wf_inst 484,
  wf_code 484,
  wf_lk (12, 988, 489),
  (Jvm.Cond.privateMethod ({ cls := "PostHouseModel", name := "doBox", desc := "(II)I" } : Jvm.MethodName)),
  wf_inst 489,
  wf_code 489,
  wf_lk (12, 889, 488),
  wf_stat 488,
  wf_code 488,
  wf_cst (12, 888, 1103515245),
  wf_lk (12, 991, 491),
  (Jvm.Cond.privateMethod ({ cls := "PostHouseModel", name := "doLose", desc := "(I)I" } : Jvm.MethodName)),
  wf_inst 491,
  wf_code 491,
  wf_lk (12, 994, 493),
  (Jvm.Cond.privateMethod ({ cls := "PostHouseModel", name := "doAccount", desc := "(I)I" } : Jvm.MethodName)),
  wf_inst 493,
  wf_code 493,
  wf_lk (12, 997, 495),
  (Jvm.Cond.privateMethod ({ cls := "PostHouseModel", name := "doDeposit", desc := "(II)I" } : Jvm.MethodName)),
  wf_inst 495,
  wf_code 495,
  wf_lk (12, 892, 477),
  (Jvm.Cond.privateMethod ({ cls := "PostHouseModel", name := "balanceOf", desc := "(I)J" } : Jvm.MethodName)),
  wf_inst 477,
  wf_code 477,
  wf_lk (12, 1000, 500),
  (Jvm.Cond.privateMethod ({ cls := "PostHouseModel", name := "doTariff", desc := "()I" } : Jvm.MethodName)),
  wf_inst 500,
  wf_code 500,
  wf_lk (12, 900, 499),
  (Jvm.Cond.privateMethod ({ cls := "PostHouseModel", name := "rowOfTariff", desc := "()Z" } : Jvm.MethodName)),
  wf_inst 499,
  wf_code 499,
  wf_lk (12, 1003, 503),
  (Jvm.Cond.privateMethod ({ cls := "PostHouseModel", name := "doFrank", desc := "(I)I" } : Jvm.MethodName)),
  wf_inst 503,
  wf_code 503,
  wf_lk (12, 1006, 505),
  (Jvm.Cond.privateMethod ({ cls := "PostHouseModel", name := "doOrder", desc := "(III)I" } : Jvm.MethodName)),
  wf_inst 505,
  wf_code 505,
  wf_lk (12, 1009, 507),
  (Jvm.Cond.privateMethod ({ cls := "PostHouseModel", name := "doPayOut", desc := "(III)I" } : Jvm.MethodName)),
  wf_inst 507,
  wf_code 507,
  wf_lk (12, 1012, 510),
  (Jvm.Cond.privateMethod ({ cls := "PostHouseModel", name := "doClaim", desc := "(II)I" } : Jvm.MethodName)),
  wf_inst 510,
  wf_code 510,
  wf_lk (12, 1015, 512),
  (Jvm.Cond.privateMethod ({ cls := "PostHouseModel", name := "doLocker", desc := "(II)I" } : Jvm.MethodName)),
  wf_inst 512,
  wf_code 512,
  wf_lk (12, 1018, 515),
  (Jvm.Cond.privateMethod ({ cls := "PostHouseModel", name := "doDevice", desc := "(II)I" } : Jvm.MethodName)),
  wf_inst 515,
  wf_code 515,
  wf_cst (12, 903, 1000000000),
  wf_lk (12, 1021, 517),
  (Jvm.Cond.privateMethod ({ cls := "PostHouseModel", name := "doScanned", desc := "(IIII)I" } : Jvm.MethodName)),
  wf_inst 517,
  wf_code 517,
  wf_lk (12, 1024, 520),
  (Jvm.Cond.privateMethod ({ cls := "PostHouseModel", name := "doWish", desc := "(IIZ)I" } : Jvm.MethodName)),
  wf_inst 520,
  wf_code 520,
  wf_lk (12, 1027, 526),
  (Jvm.Cond.privateMethod ({ cls := "PostHouseModel", name := "doTick", desc := "(I)I" } : Jvm.MethodName)),
  wf_inst 526,
  wf_code 526,
  wf_lk (12, 904, 525),
  (Jvm.Cond.privateMethod ({ cls := "PostHouseModel", name := "nextMinute", desc := "(I)I" } : Jvm.MethodName)),
  wf_inst 525,
  wf_code 525,
  wf_lk (12, 907, 523),
  (Jvm.Cond.privateMethod ({ cls := "PostHouseModel", name := "dayBegins", desc := "()V" } : Jvm.MethodName)),
  wf_inst 523,
  wf_code 523,
  wf_lk (12, 910, 524),
  (Jvm.Cond.privateMethod ({ cls := "PostHouseModel", name := "departs", desc := "(I)V" } : Jvm.MethodName)),
  wf_inst 524,
  wf_code 524,
  wf_lk (12, 866, 472),
  (Jvm.Cond.privateMethod ({ cls := "PostHouseModel", name := "findWays", desc := "(I)V" } : Jvm.MethodName)),
  wf_inst 472,
  wf_code 472,
  wf_lk (13, 64, 336),
  wf_inst 336,
  wf_sel 336,
  wf_code 336,
  wf_lk (13, 68, 337),
  wf_inst 337,
  wf_sel 337,
  wf_code 337,
  wf_lk (13, 72, 338),
  wf_inst 338,
  wf_sel 338,
  wf_code 338,
  wf_lk (13, 77, 349),
  wf_inst 349,
  wf_sel 349,
  wf_code 349,
  wf_lk (13, 81, 371),
  wf_inst 371,
  wf_sel 371,
  wf_code 371,
  wf_lk (12, 469, 318),
  (Jvm.Cond.privateMethod ({ cls := "PostHouseModel", name := "call", desc := "(I)I" } : Jvm.MethodName)),
  wf_inst 318,
  wf_code 318,
  wf_lk (12, 462, 317),
  (Jvm.Cond.privateMethod ({ cls := "PostHouseModel", name := "note", desc := "(I)V" } : Jvm.MethodName)),
  wf_inst 317,
  wf_code 317,
  wf_lk (13, 86, 373),
  wf_inst 373,
  wf_sel 373,
  wf_code 373,
  wf_lk (12, 694, 322),
  (Jvm.Cond.privateMethod ({ cls := "PostHouseModel", name := "call4", desc := "(IIIII)I" } : Jvm.MethodName)),
  wf_inst 322,
  wf_code 322,
  wf_lk (12, 479, 321),
  (Jvm.Cond.privateMethod ({ cls := "PostHouseModel", name := "call3", desc := "(IIII)I" } : Jvm.MethodName)),
  wf_inst 321,
  wf_code 321,
  wf_lk (12, 475, 320),
  (Jvm.Cond.privateMethod ({ cls := "PostHouseModel", name := "call2", desc := "(III)I" } : Jvm.MethodName)),
  wf_inst 320,
  wf_code 320,
  wf_lk (12, 472, 319),
  (Jvm.Cond.privateMethod ({ cls := "PostHouseModel", name := "call1", desc := "(II)I" } : Jvm.MethodName)),
  wf_inst 319,
  wf_code 319,
  wf_lk (13, 90, 374),
  wf_inst 374,
  wf_sel 374,
  wf_code 374,
  wf_lk (13, 94, 377),
  wf_inst 377,
  wf_sel 377,
  wf_code 377,
  wf_lk (12, 704, 376),
  (Jvm.Cond.privateMethod ({ cls := "PostHouseModel", name := "ask", desc := "(IIZ)I" } : Jvm.MethodName)),
  wf_inst 376,
  wf_code 376,
  wf_lk (13, 98, 378),
  wf_inst 378,
  wf_sel 378,
  wf_code 378,
  wf_lk (13, 102, 379),
  wf_inst 379,
  wf_sel 379,
  wf_code 379,
  wf_lk (13, 106, 382),
  wf_inst 382,
  wf_sel 382,
  wf_code 382,
  wf_lk (13, 110, 399),
  wf_inst 399,
  wf_sel 399,
  wf_code 399,
  wf_lk (13, 114, 400),
  wf_inst 400,
  wf_sel 400,
  wf_code 400,
  wf_lk (13, 118, 401),
  wf_inst 401,
  wf_sel 401]
set_option maxRecDepth 100000 in
theorem tq_ok_14 : tables_1_14 = tq_14 := rfl
def wl_inst_14 : List (Nat) := [
  465, 345, 464, 467, 469, 478, 417, 416, 418, 474, 475, 476,
  480, 482, 354, 485, 346, 484, 489, 491, 493, 495, 477, 500,
  499, 503, 505, 507, 510, 512, 515, 517, 520, 526, 525, 523,
  524, 472, 336, 337, 338, 349, 371, 318, 317, 373, 322, 321,
  320, 319, 374, 377, 376, 378, 379, 382, 399, 400, 401]
set_option maxRecDepth 100000 in
theorem wk_inst_14 : wl_inst_14.map wf_inst = ([
  1, 5, 9, 13, 17, 21, 26, 30, 34, 38, 42, 46, 50, 54, 58, 62, 66, 70, 74, 82, 86, 90, 94, 98,
  102, 106, 110, 114, 118, 122, 126, 131, 135, 139, 143, 147, 151, 155, 158, 162, 166, 170, 174, 179, 183, 186, 191, 195,
  199, 203, 206, 210, 215, 218, 222, 226, 230, 234, 238] : List Nat).filterMap (fun i => tq_14[i]?) := rfl
theorem wi_inst_14 : ∀ q ∈ wl_inst_14, wf_inst q ∈ lw_tbl := fun q h => tq_mem.2.2.2.2.2.2.2.2.2.2.2.2.2.1 _ (by rw [tq_ok_14]; exact w_pos wk_inst_14 q h)
def wl_code_14 : List (Nat) := [
  465, 345, 464, 467, 469, 478, 417, 416, 418, 474, 475, 476,
  480, 482, 354, 485, 346, 484, 489, 488, 491, 493, 495, 477,
  500, 499, 503, 505, 507, 510, 512, 515, 517, 520, 526, 525,
  523, 524, 472, 336, 337, 338, 349, 371, 318, 317, 373, 322,
  321, 320, 319, 374, 377, 376, 378, 379, 382, 399, 400]
set_option maxRecDepth 100000 in
theorem wk_code_14 : wl_code_14.map wf_code = ([
  2, 6, 10, 14, 18, 22, 27, 31, 35, 39, 43, 47, 51, 55, 59, 63, 67, 71, 75, 78, 83, 87, 91, 95,
  99, 103, 107, 111, 115, 119, 123, 127, 132, 136, 140, 144, 148, 152, 156, 160, 164, 168, 172, 176, 180, 184, 188, 192,
  196, 200, 204, 208, 212, 216, 220, 224, 228, 232, 236] : List Nat).filterMap (fun i => tq_14[i]?) := rfl
theorem wi_code_14 : ∀ q ∈ wl_code_14, wf_code q ∈ lw_tbl := fun q h => tq_mem.2.2.2.2.2.2.2.2.2.2.2.2.2.1 _ (by rw [tq_ok_14]; exact w_pos wk_code_14 q h)
def wl_lk_14 : List (Nat × (Nat × Nat)) := [
  (12, 860, 345), (12, 863, 464), (12, 969, 467), (12, 972, 469), (12, 975, 478), (12, 793, 417), (12, 787, 416), (12, 796, 418), (12, 870, 474), (12, 873, 475), (12, 876, 476), (12, 979, 480),
  (12, 982, 482), (12, 879, 354), (12, 985, 485), (12, 882, 346), (12, 885, 484), (12, 988, 489), (12, 889, 488), (12, 991, 491), (12, 994, 493), (12, 997, 495), (12, 892, 477), (12, 1000, 500),
  (12, 900, 499), (12, 1003, 503), (12, 1006, 505), (12, 1009, 507), (12, 1012, 510), (12, 1015, 512), (12, 1018, 515), (12, 1021, 517), (12, 1024, 520), (12, 1027, 526), (12, 904, 525), (12, 907, 523),
  (12, 910, 524), (12, 866, 472), (13, 64, 336), (13, 68, 337), (13, 72, 338), (13, 77, 349), (13, 81, 371), (12, 469, 318), (12, 462, 317), (13, 86, 373), (12, 694, 322), (12, 479, 321),
  (12, 475, 320), (12, 472, 319), (13, 90, 374), (13, 94, 377), (12, 704, 376), (13, 98, 378), (13, 102, 379), (13, 106, 382), (13, 110, 399), (13, 114, 400), (13, 118, 401)]
set_option maxRecDepth 100000 in
theorem wk_lk_14 : wl_lk_14.map wf_lk = ([
  3, 7, 11, 15, 19, 24, 28, 32, 36, 40, 44, 48, 52, 56, 60, 64, 68, 72, 76, 80, 84, 88, 92, 96,
  100, 104, 108, 112, 116, 120, 124, 129, 133, 137, 141, 145, 149, 153, 157, 161, 165, 169, 173, 177, 181, 185, 189, 193,
  197, 201, 205, 209, 213, 217, 221, 225, 229, 233, 237] : List Nat).filterMap (fun i => tq_14[i]?) := rfl
theorem wi_lk_14 : ∀ q ∈ wl_lk_14, wf_lk q ∈ lw_tbl := fun q h => tq_mem.2.2.2.2.2.2.2.2.2.2.2.2.2.1 _ (by rw [tq_ok_14]; exact w_pos wk_lk_14 q h)
def wl_cst_14 : List (Nat × (Nat × Int)) := [
  (12, 869, 1000000), (12, 888, 1103515245), (12, 903, 1000000000)]
set_option maxRecDepth 100000 in
theorem wk_cst_14 : wl_cst_14.map wf_cst = ([
  23, 79, 128] : List Nat).filterMap (fun i => tq_14[i]?) := rfl
theorem wi_cst_14 : ∀ q ∈ wl_cst_14, wf_cst q ∈ lw_tbl := fun q h => tq_mem.2.2.2.2.2.2.2.2.2.2.2.2.2.1 _ (by rw [tq_ok_14]; exact w_pos wk_cst_14 q h)
def wl_stat_14 : List (Nat) := [
  488]
set_option maxRecDepth 100000 in
theorem wk_stat_14 : wl_stat_14.map wf_stat = ([
  77] : List Nat).filterMap (fun i => tq_14[i]?) := rfl
theorem wi_stat_14 : ∀ q ∈ wl_stat_14, wf_stat q ∈ lw_tbl := fun q h => tq_mem.2.2.2.2.2.2.2.2.2.2.2.2.2.1 _ (by rw [tq_ok_14]; exact w_pos wk_stat_14 q h)
def wl_sel_14 : List (Nat) := [
  336, 337, 338, 349, 371, 373, 374, 377, 378, 379, 382, 399,
  400, 401]
set_option maxRecDepth 100000 in
theorem wk_sel_14 : wl_sel_14.map wf_sel = ([
  159, 163, 167, 171, 175, 187, 207, 211, 219, 223, 227, 231, 235, 239] : List Nat).filterMap (fun i => tq_14[i]?) := rfl
theorem wi_sel_14 : ∀ q ∈ wl_sel_14, wf_sel q ∈ lw_tbl := fun q h => tq_mem.2.2.2.2.2.2.2.2.2.2.2.2.2.1 _ (by rw [tq_ok_14]; exact w_pos wk_sel_14 q h)
noncomputable def tq_15 : List Cond := [
  wf_code 401,
  wf_lk (13, 122, 402),
  wf_inst 402,
  wf_sel 402,
  wf_code 402,
  wf_lk (13, 127, 404),
  wf_inst 404,
  wf_sel 404,
  wf_code 404,
  wf_lk (13, 131, 408),
  wf_inst 408,
  wf_sel 408,
  wf_code 408,
  wf_lk (13, 135, 410),
  wf_inst 410,
  wf_sel 410,
  wf_code 410,
  wf_lk (13, 139, 412),
  wf_inst 412,
  wf_sel 412,
  wf_code 412,
  wf_lk (13, 143, 414),
  wf_inst 414,
  wf_sel 414,
  wf_code 414,
  wf_lk (13, 147, 419),
  wf_inst 419,
  wf_sel 419,
  wf_code 419,
  wf_lk (13, 151, 424),
  wf_inst 424,
  wf_sel 424,
  wf_code 424,
  wf_lk (12, 802, 423),
  (Jvm.Cond.privateMethod ({ cls := "PostHouseModel", name := "bars", desc := "(I)V" } : Jvm.MethodName)),
  wf_inst 423,
  wf_code 423,
  wf_lk (13, 155, 429),
  wf_inst 429,
  wf_sel 429,
  wf_code 429,
  wf_lk (12, 814, 422),
  (Jvm.Cond.privateMethod ({ cls := "PostHouseModel", name := "sumOf", desc := "(I)I" } : Jvm.MethodName)),
  wf_inst 422,
  wf_code 422,
  wf_lk (12, 811, 427),
  (Jvm.Cond.privateMethod ({ cls := "PostHouseModel", name := "mendOne", desc := "(II)Z" } : Jvm.MethodName)),
  wf_inst 427,
  wf_code 427,
  wf_lk (12, 805, 425),
  (Jvm.Cond.privateMethod ({ cls := "PostHouseModel", name := "mends", desc := "(II)Z" } : Jvm.MethodName)),
  wf_inst 425,
  wf_code 425,
  wf_lk (12, 808, 426),
  (Jvm.Cond.privateMethod ({ cls := "PostHouseModel", name := "change", desc := "(II)V" } : Jvm.MethodName)),
  wf_inst 426,
  wf_code 426,
  wf_lk (12, 817, 428),
  (Jvm.Cond.privateMethod ({ cls := "PostHouseModel", name := "mendTwo", desc := "()Z" } : Jvm.MethodName)),
  wf_inst 428,
  wf_code 428,
  wf_lk (13, 159, 430),
  wf_inst 430,
  wf_sel 430,
  wf_code 430,
  wf_lk (13, 163, 432),
  wf_inst 432,
  wf_sel 432,
  wf_code 432,
  wf_lk (13, 167, 434),
  wf_inst 434,
  wf_sel 434,
  wf_code 434,
  wf_lk (13, 171, 437),
  wf_inst 437,
  wf_sel 437,
  wf_code 437,
  wf_lk (13, 175, 443),
  wf_inst 443,
  wf_sel 443,
  wf_code 443,
  wf_lk (13, 179, 444),
  wf_inst 444,
  wf_sel 444,
  wf_code 444,
  wf_lk (13, 183, 450),
  wf_inst 450,
  wf_sel 450,
  wf_code 450,
  wf_lk (13, 187, 451),
  wf_inst 451,
  wf_sel 451,
  wf_code 451,
  wf_lk (13, 191, 452),
  wf_inst 452,
  wf_sel 452,
  wf_code 452,
  wf_lk (13, 195, 454),
  wf_inst 454,
  wf_sel 454,
  wf_code 454,
  wf_lk (13, 199, 456),
  wf_inst 456,
  wf_sel 456,
  wf_code 456,
  wf_lk (13, 203, 459),
  wf_inst 459,
  wf_sel 459,
  wf_code 459,
  wf_lk (13, 207, 461),
  wf_inst 461,
  wf_sel 461,
  wf_code 461,
  wf_lk (13, 211, 463),
  wf_inst 463,
  wf_sel 463,
  wf_code 463,
  wf_lk (13, 215, 466),
  wf_inst 466,
  wf_sel 466,
  wf_code 466,
  wf_lk (13, 219, 468),
  wf_inst 468,
  wf_sel 468,
  wf_code 468,
  wf_lk (13, 223, 470),
  wf_inst 470,
  wf_sel 470,
  wf_code 470,
  wf_lk (13, 227, 471),
  wf_inst 471,
  wf_sel 471,
  wf_code 471,
  wf_lk (13, 231, 473),
  wf_inst 473,
  wf_sel 473,
  wf_code 473,
  wf_lk (13, 235, 479),
  wf_inst 479,
  wf_sel 479,
  wf_code 479,
  wf_lk (13, 239, 481),
  wf_inst 481,
  wf_sel 481,
  wf_code 481,
  wf_lk (13, 243, 483),
  wf_inst 483,
  wf_sel 483,
  wf_code 483,
  wf_lk (13, 247, 486),
  wf_inst 486,
  wf_sel 486,
  wf_code 486,
  wf_lk (13, 251, 487),
  wf_inst 487,
  wf_sel 487,
  wf_code 487,
  wf_lk (13, 255, 490),
  wf_inst 490,
  wf_sel 490,
  wf_code 490,
  wf_lk (13, 259, 492),
  wf_inst 492,
  wf_sel 492,
  wf_code 492,
  wf_lk (13, 263, 494),
  wf_inst 494,
  wf_sel 494,
  wf_code 494,
  wf_lk (13, 267, 496),
  wf_inst 496,
  wf_sel 496,
  wf_code 496,
  wf_lk (13, 272, 497),
  wf_inst 497,
  wf_sel 497,
  wf_code 497,
  wf_csl (12, 896, (-105)),
  wf_csl (12, 898, (-101)),
  wf_lk (13, 276, 498),
  wf_inst 498,
  wf_sel 498,
  wf_code 498,
  wf_lk (13, 280, 501),
  wf_inst 501,
  wf_sel 501,
  wf_code 501,
  wf_lk (13, 284, 502),
  wf_inst 502,
  wf_sel 502,
  wf_code 502,
  wf_lk (13, 288, 504),
  wf_inst 504,
  wf_sel 504,
  wf_code 504,
  wf_lk (13, 292, 506),
  wf_inst 506,
  wf_sel 506,
  wf_code 506,
  wf_lk (13, 296, 508),
  wf_inst 508,
  wf_sel 508,
  wf_code 508,
  wf_lk (13, 300, 509),
  wf_inst 509,
  wf_sel 509,
  wf_code 509,
  wf_lk (13, 304, 511),
  wf_inst 511,
  wf_sel 511,
  wf_code 511,
  wf_lk (13, 308, 513),
  wf_inst 513,
  wf_sel 513,
  wf_code 513,
  wf_lk (13, 312, 514),
  wf_inst 514,
  wf_sel 514,
  wf_code 514,
  wf_lk (13, 316, 516),
  wf_inst 516,
  wf_sel 516,
  wf_code 516,
  wf_lk (13, 320, 518),
  wf_inst 518,
  wf_sel 518,
  wf_code 518,
  wf_lk (13, 324, 519),
  wf_inst 519,
  wf_sel 519,
  wf_code 519,
  wf_lk (13, 329, 521),
  wf_inst 521,
  wf_sel 521,
  wf_code 521,
  wf_lk (13, 333, 522),
  wf_inst 522,
  wf_sel 522,
  wf_code 522,
  wf_lk (13, 337, 527)]
set_option maxRecDepth 100000 in
theorem tq_ok_15 : tables_1_15 = tq_15 := rfl
def wl_code_15 : List (Nat) := [
  401, 402, 404, 408, 410, 412, 414, 419, 424, 423, 429, 422,
  427, 425, 426, 428, 430, 432, 434, 437, 443, 444, 450, 451,
  452, 454, 456, 459, 461, 463, 466, 468, 470, 471, 473, 479,
  481, 483, 486, 487, 490, 492, 494, 496, 497, 498, 501, 502,
  504, 506, 508, 509, 511, 513, 514, 516, 518, 519, 521, 522]
set_option maxRecDepth 100000 in
theorem wk_code_15 : wl_code_15.map wf_code = ([
  0, 4, 8, 12, 16, 20, 24, 28, 32, 36, 40, 44, 48, 52, 56, 60, 64, 68, 72, 76, 80, 84, 88, 92,
  96, 100, 104, 108, 112, 116, 120, 124, 128, 132, 136, 140, 144, 148, 152, 156, 160, 164, 168, 172, 176, 182, 186, 190,
  194, 198, 202, 206, 210, 214, 218, 222, 226, 230, 234, 238] : List Nat).filterMap (fun i => tq_15[i]?) := rfl
theorem wi_code_15 : ∀ q ∈ wl_code_15, wf_code q ∈ lw_tbl := fun q h => tq_mem.2.2.2.2.2.2.2.2.2.2.2.2.2.2.1 _ (by rw [tq_ok_15]; exact w_pos wk_code_15 q h)
def wl_lk_15 : List (Nat × (Nat × Nat)) := [
  (13, 122, 402), (13, 127, 404), (13, 131, 408), (13, 135, 410), (13, 139, 412), (13, 143, 414), (13, 147, 419), (13, 151, 424), (12, 802, 423), (13, 155, 429), (12, 814, 422), (12, 811, 427),
  (12, 805, 425), (12, 808, 426), (12, 817, 428), (13, 159, 430), (13, 163, 432), (13, 167, 434), (13, 171, 437), (13, 175, 443), (13, 179, 444), (13, 183, 450), (13, 187, 451), (13, 191, 452),
  (13, 195, 454), (13, 199, 456), (13, 203, 459), (13, 207, 461), (13, 211, 463), (13, 215, 466), (13, 219, 468), (13, 223, 470), (13, 227, 471), (13, 231, 473), (13, 235, 479), (13, 239, 481),
  (13, 243, 483), (13, 247, 486), (13, 251, 487), (13, 255, 490), (13, 259, 492), (13, 263, 494), (13, 267, 496), (13, 272, 497), (13, 276, 498), (13, 280, 501), (13, 284, 502), (13, 288, 504),
  (13, 292, 506), (13, 296, 508), (13, 300, 509), (13, 304, 511), (13, 308, 513), (13, 312, 514), (13, 316, 516), (13, 320, 518), (13, 324, 519), (13, 329, 521), (13, 333, 522), (13, 337, 527)]
set_option maxRecDepth 100000 in
theorem wk_lk_15 : wl_lk_15.map wf_lk = ([
  1, 5, 9, 13, 17, 21, 25, 29, 33, 37, 41, 45, 49, 53, 57, 61, 65, 69, 73, 77, 81, 85, 89, 93,
  97, 101, 105, 109, 113, 117, 121, 125, 129, 133, 137, 141, 145, 149, 153, 157, 161, 165, 169, 173, 179, 183, 187, 191,
  195, 199, 203, 207, 211, 215, 219, 223, 227, 231, 235, 239] : List Nat).filterMap (fun i => tq_15[i]?) := rfl
theorem wi_lk_15 : ∀ q ∈ wl_lk_15, wf_lk q ∈ lw_tbl := fun q h => tq_mem.2.2.2.2.2.2.2.2.2.2.2.2.2.2.1 _ (by rw [tq_ok_15]; exact w_pos wk_lk_15 q h)
def wl_inst_15 : List (Nat) := [
  402, 404, 408, 410, 412, 414, 419, 424, 423, 429, 422, 427,
  425, 426, 428, 430, 432, 434, 437, 443, 444, 450, 451, 452,
  454, 456, 459, 461, 463, 466, 468, 470, 471, 473, 479, 481,
  483, 486, 487, 490, 492, 494, 496, 497, 498, 501, 502, 504,
  506, 508, 509, 511, 513, 514, 516, 518, 519, 521, 522]
set_option maxRecDepth 100000 in
theorem wk_inst_15 : wl_inst_15.map wf_inst = ([
  2, 6, 10, 14, 18, 22, 26, 30, 35, 38, 43, 47, 51, 55, 59, 62, 66, 70, 74, 78, 82, 86, 90, 94,
  98, 102, 106, 110, 114, 118, 122, 126, 130, 134, 138, 142, 146, 150, 154, 158, 162, 166, 170, 174, 180, 184, 188, 192,
  196, 200, 204, 208, 212, 216, 220, 224, 228, 232, 236] : List Nat).filterMap (fun i => tq_15[i]?) := rfl
theorem wi_inst_15 : ∀ q ∈ wl_inst_15, wf_inst q ∈ lw_tbl := fun q h => tq_mem.2.2.2.2.2.2.2.2.2.2.2.2.2.2.1 _ (by rw [tq_ok_15]; exact w_pos wk_inst_15 q h)
def wl_sel_15 : List (Nat) := [
  402, 404, 408, 410, 412, 414, 419, 424, 429, 430, 432, 434,
  437, 443, 444, 450, 451, 452, 454, 456, 459, 461, 463, 466,
  468, 470, 471, 473, 479, 481, 483, 486, 487, 490, 492, 494,
  496, 497, 498, 501, 502, 504, 506, 508, 509, 511, 513, 514,
  516, 518, 519, 521, 522]
set_option maxRecDepth 100000 in
theorem wk_sel_15 : wl_sel_15.map wf_sel = ([
  3, 7, 11, 15, 19, 23, 27, 31, 39, 63, 67, 71, 75, 79, 83, 87, 91, 95, 99, 103, 107, 111, 115, 119,
  123, 127, 131, 135, 139, 143, 147, 151, 155, 159, 163, 167, 171, 175, 181, 185, 189, 193, 197, 201, 205, 209, 213, 217,
  221, 225, 229, 233, 237] : List Nat).filterMap (fun i => tq_15[i]?) := rfl
theorem wi_sel_15 : ∀ q ∈ wl_sel_15, wf_sel q ∈ lw_tbl := fun q h => tq_mem.2.2.2.2.2.2.2.2.2.2.2.2.2.2.1 _ (by rw [tq_ok_15]; exact w_pos wk_sel_15 q h)
def wl_csl_15 : List (Nat × (Nat × Int)) := [
  (12, 896, (-105)), (12, 898, (-101))]
set_option maxRecDepth 100000 in
theorem wk_csl_15 : wl_csl_15.map wf_csl = ([
  177, 178] : List Nat).filterMap (fun i => tq_15[i]?) := rfl
theorem wi_csl_15 : ∀ q ∈ wl_csl_15, wf_csl q ∈ lw_tbl := fun q h => tq_mem.2.2.2.2.2.2.2.2.2.2.2.2.2.2.1 _ (by rw [tq_ok_15]; exact w_pos wk_csl_15 q h)
noncomputable def tq_16 : List Cond := [
  wf_inst 527,
  wf_sel 527,
  wf_code 527,
  wf_lk (13, 341, 528),
  wf_inst 528,
  wf_sel 528,
  wf_code 528,
  wf_lk (13, 345, 529),
  wf_inst 529,
  wf_sel 529,
  wf_code 529,
  (Jvm.Cond.sameMethod "java/lang/Throwable" "java/lang/Throwable" "fillInStackTrace" "(I)Ljava/lang/Throwable;"),
  (Jvm.Cond.fieldLink "java/lang/String" (15 : Nat) "java/lang/String" "coder" "B"),
  (Jvm.Cond.fieldLink "java/lang/String" (9 : Nat) "java/lang/String" "value" "[B")]
set_option maxRecDepth 100000 in
theorem tq_ok_16 : tables_1_16 = tq_16 := rfl
def wl_inst_16 : List (Nat) := [
  527, 528, 529]
set_option maxRecDepth 100000 in
theorem wk_inst_16 : wl_inst_16.map wf_inst = ([
  0, 4, 8] : List Nat).filterMap (fun i => tq_16[i]?) := rfl
theorem wi_inst_16 : ∀ q ∈ wl_inst_16, wf_inst q ∈ lw_tbl := fun q h => tq_mem.2.2.2.2.2.2.2.2.2.2.2.2.2.2.2 _ (by rw [tq_ok_16]; exact w_pos wk_inst_16 q h)
def wl_sel_16 : List (Nat) := [
  527, 528, 529]
set_option maxRecDepth 100000 in
theorem wk_sel_16 : wl_sel_16.map wf_sel = ([
  1, 5, 9] : List Nat).filterMap (fun i => tq_16[i]?) := rfl
theorem wi_sel_16 : ∀ q ∈ wl_sel_16, wf_sel q ∈ lw_tbl := fun q h => tq_mem.2.2.2.2.2.2.2.2.2.2.2.2.2.2.2 _ (by rw [tq_ok_16]; exact w_pos wk_sel_16 q h)
def wl_code_16 : List (Nat) := [
  527, 528, 529]
set_option maxRecDepth 100000 in
theorem wk_code_16 : wl_code_16.map wf_code = ([
  2, 6, 10] : List Nat).filterMap (fun i => tq_16[i]?) := rfl
theorem wi_code_16 : ∀ q ∈ wl_code_16, wf_code q ∈ lw_tbl := fun q h => tq_mem.2.2.2.2.2.2.2.2.2.2.2.2.2.2.2 _ (by rw [tq_ok_16]; exact w_pos wk_code_16 q h)
def wl_lk_16 : List (Nat × (Nat × Nat)) := [
  (13, 341, 528), (13, 345, 529)]
set_option maxRecDepth 100000 in
theorem wk_lk_16 : wl_lk_16.map wf_lk = ([
  3, 7] : List Nat).filterMap (fun i => tq_16[i]?) := rfl
theorem wi_lk_16 : ∀ q ∈ wl_lk_16, wf_lk q ∈ lw_tbl := fun q h => tq_mem.2.2.2.2.2.2.2.2.2.2.2.2.2.2.2 _ (by rw [tq_ok_16]; exact w_pos wk_lk_16 q h)
theorem pq_ok_1 : lw_privs_1 = [(namT 129, 16), (namT 130, 16), (namT 303, 12), (namT 12, 16), (namT 138, 16), (namT 125, 16), (namT 144, 16), (namT 302, 12), (namT 227, 6), (namT 228, 6), (namT 229, 6), (namT 14, 16), (namT 15, 16), (namT 16, 16), (namT 23, 16), (namT 17, 16)] := rfl
def wl_sel_p1 : List Nat := [129, 130, 303, 12, 138, 125, 144, 302, 227, 228, 229, 14, 15, 16, 23, 17]
theorem wk_sel_p1 : ∀ q ∈ wl_sel_p1, wf_sel q ∈ k2_sels lw_privs_1 := by
  rw [pq_ok_1]
  exact w_pos (ps := [0, 1, 2, 3, 4, 5, 6, 7, 8, 9, 10, 11, 12, 13, 14, 15]) rfl
theorem pq_ok_2 : lw_privs_2 = [(namT 18, 16), (namT 20, 16), (namT 21, 16), (namT 124, 16), (namT 35, 16), (namT 198, 18), (namT 199, 18), (namT 200, 18), (namT 201, 18), (namT 202, 18), (namT 203, 18), (namT 204, 18), (namT 205, 18), (namT 206, 18), (namT 207, 18), (namT 208, 18)] := rfl
def wl_sel_p2 : List Nat := [18, 20, 21, 124, 35, 198, 199, 200, 201, 202, 203, 204, 205, 206, 207, 208]
theorem wk_sel_p2 : ∀ q ∈ wl_sel_p2, wf_sel q ∈ k2_sels lw_privs_2 := by
  rw [pq_ok_2]
  exact w_pos (ps := [0, 1, 2, 3, 4, 5, 6, 7, 8, 9, 10, 11, 12, 13, 14, 15]) rfl
theorem pq_ok_3 : lw_privs_3 = [(namT 209, 18), (namT 210, 18), (namT 211, 18), (namT 213, 18), (namT 214, 18), (namT 216, 18), (namT 215, 18), (namT 217, 18), (namT 218, 18), (namT 43, 11), (namT 59, 9), (namT 64, 9), (namT 179, 20), (namT 178, 20), (namT 177, 20), (namT 180, 20)] := rfl
def wl_sel_p3 : List Nat := [209, 210, 211, 213, 214, 216, 215, 217, 218, 43, 59, 64, 179, 178, 177, 180]
theorem wk_sel_p3 : ∀ q ∈ wl_sel_p3, wf_sel q ∈ k2_sels lw_privs_3 := by
  rw [pq_ok_3]
  exact w_pos (ps := [0, 1, 2, 3, 4, 5, 6, 7, 8, 9, 10, 11, 12, 13, 14, 15]) rfl
theorem pq_ok_4 : lw_privs_4 = [(namT 181, 20), (namT 182, 20), (namT 176, 20), (namT 184, 20), (namT 38, 16), (namT 186, 20), (namT 185, 20), (namT 187, 20), (namT 188, 20), (namT 189, 20), (namT 190, 20), (namT 191, 20), (namT 89, 12), (namT 90, 12), (namT 86, 12), (namT 78, 9)] := rfl
def wl_sel_p4 : List Nat := [181, 182, 176, 184, 38, 186, 185, 187, 188, 189, 190, 191, 89, 90, 86, 78]
theorem wk_sel_p4 : ∀ q ∈ wl_sel_p4, wf_sel q ∈ k2_sels lw_privs_4 := by
  rw [pq_ok_4]
  exact w_pos (ps := [0, 1, 2, 3, 4, 5, 6, 7, 8, 9, 10, 11, 12, 13, 14, 15]) rfl
theorem pq_ok_5 : lw_privs_5 = [(namT 53, 9), (namT 72, 9), (namT 73, 9), (namT 62, 9), (namT 114, 8), (namT 305, 12), (namT 156, 15), (namT 157, 15), (namT 158, 15), (namT 164, 15), (namT 304, 12), (namT 306, 12), (namT 307, 12), (namT 104, 12), (namT 98, 12), (namT 99, 12)] := rfl
def wl_sel_p5 : List Nat := [53, 72, 73, 62, 114, 305, 156, 157, 158, 164, 304, 306, 307, 104, 98, 99]
theorem wk_sel_p5 : ∀ q ∈ wl_sel_p5, wf_sel q ∈ k2_sels lw_privs_5 := by
  rw [pq_ok_5]
  exact w_pos (ps := [0, 1, 2, 3, 4, 5, 6, 7, 8, 9, 10, 11, 12, 13, 14, 15]) rfl
theorem pq_ok_6 : lw_privs_6 = [(namT 100, 12), (namT 105, 12), (namT 8, 2), (namT 9, 2), (namT 113, 8), (⟨"java/lang/Throwable", "fillInStackTrace", "(I)Ljava/lang/Throwable;"⟩, 6), (namT 339, 180), (namT 328, 180), (namT 327, 180), (namT 325, 180), (namT 334, 180), (namT 333, 180), (namT 332, 180), (namT 331, 180), (namT 530, 180), (namT 370, 180)] := rfl
def wl_sel_p6 : List Nat := [100, 105, 8, 9, 113, 339, 328, 327, 325, 334, 333, 332, 331, 530, 370]
theorem wk_sel_p6 : ∀ q ∈ wl_sel_p6, wf_sel q ∈ k2_sels lw_privs_6 := by
  rw [pq_ok_6]
  exact w_pos (ps := [0, 1, 2, 3, 4, 6, 7, 8, 9, 10, 11, 12, 13, 14, 15]) rfl
theorem pq_ok_7 : lw_privs_7 = [(namT 369, 180), (namT 355, 180), (namT 357, 180), (namT 356, 180), (namT 358, 180), (namT 359, 180), (namT 360, 180), (namT 361, 180), (namT 365, 180), (namT 366, 180), (namT 367, 180), (namT 363, 180), (namT 368, 180), (namT 364, 180), (namT 316, 180), (namT 315, 180)] := rfl
def wl_sel_p7 : List Nat := [369, 355, 357, 356, 358, 359, 360, 361, 365, 366, 367, 363, 368, 364, 316, 315]
theorem wk_sel_p7 : ∀ q ∈ wl_sel_p7, wf_sel q ∈ k2_sels lw_privs_7 := by
  rw [pq_ok_7]
  exact w_pos (ps := [0, 1, 2, 3, 4, 5, 6, 7, 8, 9, 10, 11, 12, 13, 14, 15]) rfl
theorem pq_ok_8 : lw_privs_8 = [(namT 372, 180), (namT 341, 180), (namT 340, 180), (namT 398, 180), (namT 383, 180), (namT 384, 180), (namT 386, 180), (namT 385, 180), (namT 391, 180), (namT 387, 180), (namT 390, 180), (namT 389, 180), (namT 388, 180), (namT 397, 180), (namT 393, 180), (namT 394, 180)] := rfl
def wl_sel_p8 : List Nat := [372, 341, 340, 398, 383, 384, 386, 385, 391, 387, 390, 389, 388, 397, 393, 394]
theorem wk_sel_p8 : ∀ q ∈ wl_sel_p8, wf_sel q ∈ k2_sels lw_privs_8 := by
  rw [pq_ok_8]
  exact w_pos (ps := [0, 1, 2, 3, 4, 5, 6, 7, 8, 9, 10, 11, 12, 13, 14, 15]) rfl
theorem pq_ok_9 : lw_privs_9 = [(namT 392, 180), (namT 396, 180), (namT 395, 180), (namT 403, 180), (namT 347, 180), (namT 352, 180), (namT 351, 180), (namT 350, 180), (namT 407, 180), (namT 342, 180), (namT 405, 180), (namT 406, 180), (namT 409, 180), (namT 411, 180), (namT 413, 180), (namT 343, 180)] := rfl
def wl_sel_p9 : List Nat := [392, 396, 395, 403, 347, 352, 351, 350, 407, 342, 405, 406, 409, 411, 413, 343]
theorem wk_sel_p9 : ∀ q ∈ wl_sel_p9, wf_sel q ∈ k2_sels lw_privs_9 := by
  rw [pq_ok_9]
  exact w_pos (ps := [0, 1, 2, 3, 4, 5, 6, 7, 8, 9, 10, 11, 12, 13, 14, 15]) rfl
theorem pq_ok_10 : lw_privs_10 = [(namT 353, 180), (namT 431, 180), (namT 433, 180), (namT 436, 180), (namT 344, 180), (namT 348, 180), (namT 435, 180), (namT 442, 180), (namT 380, 180), (namT 381, 180), (namT 440, 180), (namT 439, 180), (namT 441, 180), (namT 449, 180), (namT 445, 180), (namT 446, 180)] := rfl
def wl_sel_p10 : List Nat := [353, 431, 433, 436, 344, 348, 435, 442, 380, 381, 440, 439, 441, 449, 445, 446]
theorem wk_sel_p10 : ∀ q ∈ wl_sel_p10, wf_sel q ∈ k2_sels lw_privs_10 := by
  rw [pq_ok_10]
  exact w_pos (ps := [0, 1, 2, 3, 4, 5, 6, 7, 8, 9, 10, 11, 12, 13, 14, 15]) rfl
theorem pq_ok_11 : lw_privs_11 = [(namT 415, 180), (namT 375, 180), (namT 448, 180), (namT 447, 180), (namT 455, 180), (namT 453, 180), (namT 458, 180), (namT 460, 180), (namT 462, 180), (namT 465, 180), (namT 345, 180), (namT 464, 180), (namT 467, 180), (namT 469, 180), (namT 478, 180), (namT 417, 180)] := rfl
def wl_sel_p11 : List Nat := [415, 375, 448, 447, 455, 453, 458, 460, 462, 465, 345, 464, 467, 469, 478, 417]
theorem wk_sel_p11 : ∀ q ∈ wl_sel_p11, wf_sel q ∈ k2_sels lw_privs_11 := by
  rw [pq_ok_11]
  exact w_pos (ps := [0, 1, 2, 3, 4, 5, 6, 7, 8, 9, 10, 11, 12, 13, 14, 15]) rfl
theorem pq_ok_12 : lw_privs_12 = [(namT 416, 180), (namT 418, 180), (namT 474, 180), (namT 475, 180), (namT 476, 180), (namT 480, 180), (namT 482, 180), (namT 354, 180), (namT 485, 180), (namT 346, 180), (namT 484, 180), (namT 489, 180), (namT 491, 180), (namT 493, 180), (namT 495, 180), (namT 477, 180)] := rfl
def wl_sel_p12 : List Nat := [416, 418, 474, 475, 476, 480, 482, 354, 485, 346, 484, 489, 491, 493, 495, 477]
theorem wk_sel_p12 : ∀ q ∈ wl_sel_p12, wf_sel q ∈ k2_sels lw_privs_12 := by
  rw [pq_ok_12]
  exact w_pos (ps := [0, 1, 2, 3, 4, 5, 6, 7, 8, 9, 10, 11, 12, 13, 14, 15]) rfl
theorem pq_ok_13 : lw_privs_13 = [(namT 500, 180), (namT 499, 180), (namT 503, 180), (namT 505, 180), (namT 507, 180), (namT 510, 180), (namT 512, 180), (namT 515, 180), (namT 517, 180), (namT 520, 180), (namT 526, 180), (namT 525, 180), (namT 523, 180), (namT 524, 180), (namT 472, 180), (namT 318, 180)] := rfl
def wl_sel_p13 : List Nat := [500, 499, 503, 505, 507, 510, 512, 515, 517, 520, 526, 525, 523, 524, 472, 318]
theorem wk_sel_p13 : ∀ q ∈ wl_sel_p13, wf_sel q ∈ k2_sels lw_privs_13 := by
  rw [pq_ok_13]
  exact w_pos (ps := [0, 1, 2, 3, 4, 5, 6, 7, 8, 9, 10, 11, 12, 13, 14, 15]) rfl
theorem pq_ok_14 : lw_privs_14 = [(namT 317, 180), (namT 322, 180), (namT 321, 180), (namT 320, 180), (namT 319, 180), (namT 376, 180), (namT 423, 180), (namT 422, 180), (namT 427, 180), (namT 425, 180), (namT 426, 180), (namT 428, 180)] := rfl
def wl_sel_p14 : List Nat := [317, 322, 321, 320, 319, 376, 423, 422, 427, 425, 426, 428]
theorem wk_sel_p14 : ∀ q ∈ wl_sel_p14, wf_sel q ∈ k2_sels lw_privs_14 := by
  rw [pq_ok_14]
  exact w_pos (ps := [0, 1, 2, 3, 4, 5, 6, 7, 8, 9, 10, 11]) rfl
theorem pq_mem : (∀ w ∈ k2_sels lw_privs_1, w ∈ lw_tbl) ∧ (∀ w ∈ k2_sels lw_privs_2, w ∈ lw_tbl) ∧ (∀ w ∈ k2_sels lw_privs_3, w ∈ lw_tbl) ∧ (∀ w ∈ k2_sels lw_privs_4, w ∈ lw_tbl) ∧ (∀ w ∈ k2_sels lw_privs_5, w ∈ lw_tbl) ∧ (∀ w ∈ k2_sels lw_privs_6, w ∈ lw_tbl) ∧ (∀ w ∈ k2_sels lw_privs_7, w ∈ lw_tbl) ∧ (∀ w ∈ k2_sels lw_privs_8, w ∈ lw_tbl) ∧ (∀ w ∈ k2_sels lw_privs_9, w ∈ lw_tbl) ∧ (∀ w ∈ k2_sels lw_privs_10, w ∈ lw_tbl) ∧ (∀ w ∈ k2_sels lw_privs_11, w ∈ lw_tbl) ∧ (∀ w ∈ k2_sels lw_privs_12, w ∈ lw_tbl) ∧ (∀ w ∈ k2_sels lw_privs_13, w ∈ lw_tbl) ∧ (∀ w ∈ k2_sels lw_privs_14, w ∈ lw_tbl) := by
  unfold lw_tbl lw_privs k2_sels
  refine ⟨fun w h => ?_, fun w h => ?_, fun w h => ?_, fun w h => ?_, fun w h => ?_, fun w h => ?_, fun w h => ?_, fun w h => ?_, fun w h => ?_, fun w h => ?_, fun w h => ?_, fun w h => ?_, fun w h => ?_, fun w h => ?_⟩ <;> simp only [List.map_append, List.mem_append, h, true_or, or_true]
theorem wi_sel_p1 : ∀ q ∈ wl_sel_p1, wf_sel q ∈ lw_tbl := fun q h => pq_mem.1 _ (wk_sel_p1 q h)
theorem wi_sel_p2 : ∀ q ∈ wl_sel_p2, wf_sel q ∈ lw_tbl := fun q h => pq_mem.2.1 _ (wk_sel_p2 q h)
theorem wi_sel_p3 : ∀ q ∈ wl_sel_p3, wf_sel q ∈ lw_tbl := fun q h => pq_mem.2.2.1 _ (wk_sel_p3 q h)
theorem wi_sel_p4 : ∀ q ∈ wl_sel_p4, wf_sel q ∈ lw_tbl := fun q h => pq_mem.2.2.2.1 _ (wk_sel_p4 q h)
theorem wi_sel_p5 : ∀ q ∈ wl_sel_p5, wf_sel q ∈ lw_tbl := fun q h => pq_mem.2.2.2.2.1 _ (wk_sel_p5 q h)
theorem wi_sel_p6 : ∀ q ∈ wl_sel_p6, wf_sel q ∈ lw_tbl := fun q h => pq_mem.2.2.2.2.2.1 _ (wk_sel_p6 q h)
theorem wi_sel_p7 : ∀ q ∈ wl_sel_p7, wf_sel q ∈ lw_tbl := fun q h => pq_mem.2.2.2.2.2.2.1 _ (wk_sel_p7 q h)
theorem wi_sel_p8 : ∀ q ∈ wl_sel_p8, wf_sel q ∈ lw_tbl := fun q h => pq_mem.2.2.2.2.2.2.2.1 _ (wk_sel_p8 q h)
theorem wi_sel_p9 : ∀ q ∈ wl_sel_p9, wf_sel q ∈ lw_tbl := fun q h => pq_mem.2.2.2.2.2.2.2.2.1 _ (wk_sel_p9 q h)
theorem wi_sel_p10 : ∀ q ∈ wl_sel_p10, wf_sel q ∈ lw_tbl := fun q h => pq_mem.2.2.2.2.2.2.2.2.2.1 _ (wk_sel_p10 q h)
theorem wi_sel_p11 : ∀ q ∈ wl_sel_p11, wf_sel q ∈ lw_tbl := fun q h => pq_mem.2.2.2.2.2.2.2.2.2.2.1 _ (wk_sel_p11 q h)
theorem wi_sel_p12 : ∀ q ∈ wl_sel_p12, wf_sel q ∈ lw_tbl := fun q h => pq_mem.2.2.2.2.2.2.2.2.2.2.2.1 _ (wk_sel_p12 q h)
theorem wi_sel_p13 : ∀ q ∈ wl_sel_p13, wf_sel q ∈ lw_tbl := fun q h => pq_mem.2.2.2.2.2.2.2.2.2.2.2.2.1 _ (wk_sel_p13 q h)
theorem wi_sel_p14 : ∀ q ∈ wl_sel_p14, wf_sel q ∈ lw_tbl := fun q h => pq_mem.2.2.2.2.2.2.2.2.2.2.2.2.2 _ (wk_sel_p14 q h)
def wl_fl : List (Nat × (Nat × Nat)) := wl_fl_1 ++ (wl_fl_2 ++ (wl_fl_3 ++ (wl_fl_10)))
theorem wi_fl : ∀ q ∈ wl_fl, wf_fl q ∈ lw_tbl := fun q h => by
  unfold wl_fl at h
  simp only [List.mem_append] at h
  rcases h with h | h | h | h
  · exact wi_fl_1 q h
  · exact wi_fl_2 q h
  · exact wi_fl_3 q h
  · exact wi_fl_10 q h
def wl_lk : List (Nat × (Nat × Nat)) := wl_lk_1 ++ (wl_lk_2 ++ (wl_lk_3 ++ (wl_lk_4 ++ (wl_lk_5 ++ (wl_lk_6 ++ (wl_lk_7 ++ (wl_lk_8 ++ (wl_lk_9 ++ (wl_lk_10 ++ (wl_lk_12 ++ (wl_lk_13 ++ (wl_lk_14 ++ (wl_lk_15 ++ (wl_lk_16))))))))))))))
theorem wi_lk : ∀ q ∈ wl_lk, wf_lk q ∈ lw_tbl := fun q h => by
  unfold wl_lk at h
  simp only [List.mem_append] at h
  rcases h with h | h | h | h | h | h | h | h | h | h | h | h | h | h | h
  · exact wi_lk_1 q h
  · exact wi_lk_2 q h
  · exact wi_lk_3 q h
  · exact wi_lk_4 q h
  · exact wi_lk_5 q h
  · exact wi_lk_6 q h
  · exact wi_lk_7 q h
  · exact wi_lk_8 q h
  · exact wi_lk_9 q h
  · exact wi_lk_10 q h
  · exact wi_lk_12 q h
  · exact wi_lk_13 q h
  · exact wi_lk_14 q h
  · exact wi_lk_15 q h
  · exact wi_lk_16 q h
def wl_code : List (Nat) := wl_code_1 ++ (wl_code_2 ++ (wl_code_3 ++ (wl_code_4 ++ (wl_code_5 ++ (wl_code_6 ++ (wl_code_7 ++ (wl_code_8 ++ (wl_code_9 ++ (wl_code_10 ++ (wl_code_12 ++ (wl_code_13 ++ (wl_code_14 ++ (wl_code_15 ++ (wl_code_16))))))))))))))
theorem wi_code : ∀ q ∈ wl_code, wf_code q ∈ lw_tbl := fun q h => by
  unfold wl_code at h
  simp only [List.mem_append] at h
  rcases h with h | h | h | h | h | h | h | h | h | h | h | h | h | h | h
  · exact wi_code_1 q h
  · exact wi_code_2 q h
  · exact wi_code_3 q h
  · exact wi_code_4 q h
  · exact wi_code_5 q h
  · exact wi_code_6 q h
  · exact wi_code_7 q h
  · exact wi_code_8 q h
  · exact wi_code_9 q h
  · exact wi_code_10 q h
  · exact wi_code_12 q h
  · exact wi_code_13 q h
  · exact wi_code_14 q h
  · exact wi_code_15 q h
  · exact wi_code_16 q h
def wl_stat : List (Nat) := wl_stat_1 ++ (wl_stat_3 ++ (wl_stat_4 ++ (wl_stat_5 ++ (wl_stat_6 ++ (wl_stat_7 ++ (wl_stat_8 ++ (wl_stat_10 ++ (wl_stat_12 ++ (wl_stat_13 ++ (wl_stat_14))))))))))
theorem wi_stat : ∀ q ∈ wl_stat, wf_stat q ∈ lw_tbl := fun q h => by
  unfold wl_stat at h
  simp only [List.mem_append] at h
  rcases h with h | h | h | h | h | h | h | h | h | h | h
  · exact wi_stat_1 q h
  · exact wi_stat_3 q h
  · exact wi_stat_4 q h
  · exact wi_stat_5 q h
  · exact wi_stat_6 q h
  · exact wi_stat_7 q h
  · exact wi_stat_8 q h
  · exact wi_stat_10 q h
  · exact wi_stat_12 q h
  · exact wi_stat_13 q h
  · exact wi_stat_14 q h
def wl_inst : List (Nat) := wl_inst_1 ++ (wl_inst_2 ++ (wl_inst_3 ++ (wl_inst_4 ++ (wl_inst_5 ++ (wl_inst_6 ++ (wl_inst_7 ++ (wl_inst_8 ++ (wl_inst_9 ++ (wl_inst_10 ++ (wl_inst_12 ++ (wl_inst_13 ++ (wl_inst_14 ++ (wl_inst_15 ++ (wl_inst_16))))))))))))))
theorem wi_inst : ∀ q ∈ wl_inst, wf_inst q ∈ lw_tbl := fun q h => by
  unfold wl_inst at h
  simp only [List.mem_append] at h
  rcases h with h | h | h | h | h | h | h | h | h | h | h | h | h | h | h
  · exact wi_inst_1 q h
  · exact wi_inst_2 q h
  · exact wi_inst_3 q h
  · exact wi_inst_4 q h
  · exact wi_inst_5 q h
  · exact wi_inst_6 q h
  · exact wi_inst_7 q h
  · exact wi_inst_8 q h
  · exact wi_inst_9 q h
  · exact wi_inst_10 q h
  · exact wi_inst_12 q h
  · exact wi_inst_13 q h
  · exact wi_inst_14 q h
  · exact wi_inst_15 q h
  · exact wi_inst_16 q h
def wl_sel : List (Nat) := wl_sel_1 ++ (wl_sel_2 ++ (wl_sel_3 ++ (wl_sel_4 ++ (wl_sel_5 ++ (wl_sel_6 ++ (wl_sel_7 ++ (wl_sel_8 ++ (wl_sel_9 ++ (wl_sel_10 ++ (wl_sel_12 ++ (wl_sel_14 ++ (wl_sel_15 ++ (wl_sel_16 ++ (wl_sel_p1 ++ (wl_sel_p2 ++ (wl_sel_p3 ++ (wl_sel_p4 ++ (wl_sel_p5 ++ (wl_sel_p6 ++ (wl_sel_p7 ++ (wl_sel_p8 ++ (wl_sel_p9 ++ (wl_sel_p10 ++ (wl_sel_p11 ++ (wl_sel_p12 ++ (wl_sel_p13 ++ (wl_sel_p14)))))))))))))))))))))))))))
theorem wi_sel : ∀ q ∈ wl_sel, wf_sel q ∈ lw_tbl := fun q h => by
  unfold wl_sel at h
  simp only [List.mem_append] at h
  rcases h with h | h | h | h | h | h | h | h | h | h | h | h | h | h | h | h | h | h | h | h | h | h | h | h | h | h | h | h
  · exact wi_sel_1 q h
  · exact wi_sel_2 q h
  · exact wi_sel_3 q h
  · exact wi_sel_4 q h
  · exact wi_sel_5 q h
  · exact wi_sel_6 q h
  · exact wi_sel_7 q h
  · exact wi_sel_8 q h
  · exact wi_sel_9 q h
  · exact wi_sel_10 q h
  · exact wi_sel_12 q h
  · exact wi_sel_14 q h
  · exact wi_sel_15 q h
  · exact wi_sel_16 q h
  · exact wi_sel_p1 q h
  · exact wi_sel_p2 q h
  · exact wi_sel_p3 q h
  · exact wi_sel_p4 q h
  · exact wi_sel_p5 q h
  · exact wi_sel_p6 q h
  · exact wi_sel_p7 q h
  · exact wi_sel_p8 q h
  · exact wi_sel_p9 q h
  · exact wi_sel_p10 q h
  · exact wi_sel_p11 q h
  · exact wi_sel_p12 q h
  · exact wi_sel_p13 q h
  · exact wi_sel_p14 q h
def wl_ini : List (Nat) := wl_ini_1
theorem wi_ini : ∀ q ∈ wl_ini, wf_ini q ∈ lw_tbl := fun q h => by
  unfold wl_ini at h
  exact wi_ini_1 q h
def wl_ins : List (Nat) := wl_ins_1 ++ (wl_ins_2 ++ (wl_ins_3 ++ (wl_ins_10)))
theorem wi_ins : ∀ q ∈ wl_ins, wf_ins q ∈ lw_tbl := fun q h => by
  unfold wl_ins at h
  simp only [List.mem_append] at h
  rcases h with h | h | h | h
  · exact wi_ins_1 q h
  · exact wi_ins_2 q h
  · exact wi_ins_3 q h
  · exact wi_ins_10 q h
def wl_clk : List (Nat × (Nat × Nat)) := wl_clk_1 ++ (wl_clk_2 ++ (wl_clk_3 ++ (wl_clk_10)))
theorem wi_clk : ∀ q ∈ wl_clk, wf_clk q ∈ lw_tbl := fun q h => by
  unfold wl_clk at h
  simp only [List.mem_append] at h
  rcases h with h | h | h | h
  · exact wi_clk_1 q h
  · exact wi_clk_2 q h
  · exact wi_clk_3 q h
  · exact wi_clk_10 q h
def wl_clm : List (Nat × Nat) := wl_clm_1 ++ (wl_clm_2 ++ (wl_clm_3))
theorem wi_clm : ∀ q ∈ wl_clm, wf_clm q ∈ lw_tbl := fun q h => by
  unfold wl_clm at h
  simp only [List.mem_append] at h
  rcases h with h | h | h
  · exact wi_clm_1 q h
  · exact wi_clm_2 q h
  · exact wi_clm_3 q h
def wl_cst : List (Nat × (Nat × Int)) := wl_cst_1 ++ (wl_cst_3 ++ (wl_cst_4 ++ (wl_cst_5 ++ (wl_cst_6 ++ (wl_cst_7 ++ (wl_cst_10 ++ (wl_cst_12 ++ (wl_cst_13 ++ (wl_cst_14)))))))))
theorem wi_cst : ∀ q ∈ wl_cst, wf_cst q ∈ lw_tbl := fun q h => by
  unfold wl_cst at h
  simp only [List.mem_append] at h
  rcases h with h | h | h | h | h | h | h | h | h | h
  · exact wi_cst_1 q h
  · exact wi_cst_3 q h
  · exact wi_cst_4 q h
  · exact wi_cst_5 q h
  · exact wi_cst_6 q h
  · exact wi_cst_7 q h
  · exact wi_cst_10 q h
  · exact wi_cst_12 q h
  · exact wi_cst_13 q h
  · exact wi_cst_14 q h
def wl_csl : List (Nat × (Nat × Int)) := wl_csl_4 ++ (wl_csl_5 ++ (wl_csl_8 ++ (wl_csl_12 ++ (wl_csl_15))))
theorem wi_csl : ∀ q ∈ wl_csl, wf_csl q ∈ lw_tbl := fun q h => by
  unfold wl_csl at h
  simp only [List.mem_append] at h
  rcases h with h | h | h | h | h
  · exact wi_csl_4 q h
  · exact wi_csl_5 q h
  · exact wi_csl_8 q h
  · exact wi_csl_12 q h
  · exact wi_csl_15 q h
def wl_arr : List (FieldType) := wl_arr_1 ++ (wl_arr_2)
theorem wi_arr : ∀ q ∈ wl_arr, wf_arr q ∈ lw_tbl := fun q h => by
  unfold wl_arr at h
  simp only [List.mem_append] at h
  rcases h with h | h
  · exact wi_arr_1 q h
  · exact wi_arr_2 q h
def wl_oi : List (Nat × Nat) := wl_oi_1 ++ (wl_oi_2 ++ (wl_oi_3 ++ (wl_oi_10)))
theorem wi_oi : ∀ q ∈ wl_oi, wf_oi q ∈ lw_tbl := fun q h => by
  unfold wl_oi at h
  simp only [List.mem_append] at h
  rcases h with h | h | h | h
  · exact wi_oi_1 q h
  · exact wi_oi_2 q h
  · exact wi_oi_3 q h
  · exact wi_oi_10 q h
def wl_ac : List (Nat × Nat) := wl_ac_3 ++ (wl_ac_6 ++ (wl_ac_7))
theorem wi_ac : ∀ q ∈ wl_ac, wf_ac q ∈ lw_tbl := fun q h => by
  unfold wl_ac at h
  simp only [List.mem_append] at h
  rcases h with h | h | h
  · exact wi_ac_3 q h
  · exact wi_ac_6 q h
  · exact wi_ac_7 q h
def wl_sl : List (Nat × (Nat × Nat)) := wl_sl_4 ++ (wl_sl_5 ++ (wl_sl_8))
theorem wi_sl : ∀ q ∈ wl_sl, wf_sl q ∈ lw_tbl := fun q h => by
  unfold wl_sl at h
  simp only [List.mem_append] at h
  rcases h with h | h | h
  · exact wi_sl_4 q h
  · exact wi_sl_5 q h
  · exact wi_sl_8 q h
def wl_ly : List (Nat × Nat) := wl_ly_1 ++ (wl_ly_2 ++ (wl_ly_3 ++ (wl_ly_10 ++ (wl_ly_11 ++ (wl_ly_12)))))
theorem wi_ly : ∀ q ∈ wl_ly, wf_ly q ∈ lw_tbl := fun q h => by
  unfold wl_ly at h
  simp only [List.mem_append] at h
  rcases h with h | h | h | h | h | h
  · exact wi_ly_1 q h
  · exact wi_ly_2 q h
  · exact wi_ly_3 q h
  · exact wi_ly_10 q h
  · exact wi_ly_11 q h
  · exact wi_ly_12 q h
noncomputable def wx_1 : List Cond := (([0, 15, 16, 17, 18, 19, 22, 23, 24, 25, 26, 28, 70, 87, 150, 159, 204] : List Nat).filterMap (fun i => tq_1[i]?)).filter goodWord
theorem wi_x_1 : ∀ w ∈ wx_1, w ∈ lw_tbl := fun w h => by
  obtain ⟨i, -, hi⟩ := List.mem_filterMap.mp (List.mem_filter.mp h).1
  exact tq_mem.1 _ (by rw [tq_ok_1]; exact List.mem_of_getElem? hi)
theorem wg_x_1 : ∀ w ∈ wx_1, goodWord w = true := fun w h => (List.mem_filter.mp h).2
theorem wm_x_1 {w : Cond} (i : Nat) (hi : i ∈ ([0, 15, 16, 17, 18, 19, 22, 23, 24, 25, 26, 28, 70, 87, 150, 159, 204] : List Nat)) (h : tq_1[i]? = some w) (g : goodWord w = true) : w ∈ wx_1 := List.mem_filter.mpr ⟨List.mem_filterMap.mpr ⟨i, hi, h⟩, g⟩
noncomputable def wx_2 : List Cond := (([29, 99, 158, 202, 235] : List Nat).filterMap (fun i => tq_2[i]?)).filter goodWord
theorem wi_x_2 : ∀ w ∈ wx_2, w ∈ lw_tbl := fun w h => by
  obtain ⟨i, -, hi⟩ := List.mem_filterMap.mp (List.mem_filter.mp h).1
  exact tq_mem.2.1 _ (by rw [tq_ok_2]; exact List.mem_of_getElem? hi)
theorem wg_x_2 : ∀ w ∈ wx_2, goodWord w = true := fun w h => (List.mem_filter.mp h).2
theorem wm_x_2 {w : Cond} (i : Nat) (hi : i ∈ ([29, 99, 158, 202, 235] : List Nat)) (h : tq_2[i]? = some w) (g : goodWord w = true) : w ∈ wx_2 := List.mem_filter.mpr ⟨List.mem_filterMap.mpr ⟨i, hi, h⟩, g⟩
noncomputable def wx_3 : List Cond := (([72, 119, 156, 186] : List Nat).filterMap (fun i => tq_3[i]?)).filter goodWord
theorem wi_x_3 : ∀ w ∈ wx_3, w ∈ lw_tbl := fun w h => by
  obtain ⟨i, -, hi⟩ := List.mem_filterMap.mp (List.mem_filter.mp h).1
  exact tq_mem.2.2.1 _ (by rw [tq_ok_3]; exact List.mem_of_getElem? hi)
theorem wg_x_3 : ∀ w ∈ wx_3, goodWord w = true := fun w h => (List.mem_filter.mp h).2
theorem wm_x_3 {w : Cond} (i : Nat) (hi : i ∈ ([72, 119, 156, 186] : List Nat)) (h : tq_3[i]? = some w) (g : goodWord w = true) : w ∈ wx_3 := List.mem_filter.mpr ⟨List.mem_filterMap.mpr ⟨i, hi, h⟩, g⟩
noncomputable def wx_4 : List Cond := (([36, 60, 69, 70, 71, 72, 73, 74, 75, 76, 77, 78, 79, 80, 81, 82, 83, 84, 85, 86, 87, 88, 89, 90, 91, 92, 93, 94, 95, 96, 97, 100, 101, 102, 103, 104, 105, 106, 107, 108, 109, 110, 111, 112, 113, 114, 115, 116, 117, 118, 119, 120, 121, 122, 123, 124, 125, 126, 127, 128, 129, 130, 131, 132, 133, 134, 135, 136, 137, 138, 139, 140, 141, 142, 143, 144, 145, 146, 147, 148, 149, 150, 151, 152, 153, 154, 155, 156, 157, 158, 159, 160, 161, 162, 163, 164, 165, 166, 167, 168, 169, 170, 171, 172, 173, 197] : List Nat).filterMap (fun i => tq_4[i]?)).filter goodWord
theorem wi_x_4 : ∀ w ∈ wx_4, w ∈ lw_tbl := fun w h => by
  obtain ⟨i, -, hi⟩ := List.mem_filterMap.mp (List.mem_filter.mp h).1
  exact tq_mem.2.2.2.1 _ (by rw [tq_ok_4]; exact List.mem_of_getElem? hi)
theorem wg_x_4 : ∀ w ∈ wx_4, goodWord w = true := fun w h => (List.mem_filter.mp h).2
theorem wm_x_4 {w : Cond} (i : Nat) (hi : i ∈ ([36, 60, 69, 70, 71, 72, 73, 74, 75, 76, 77, 78, 79, 80, 81, 82, 83, 84, 85, 86, 87, 88, 89, 90, 91, 92, 93, 94, 95, 96, 97, 100, 101, 102, 103, 104, 105, 106, 107, 108, 109, 110, 111, 112, 113, 114, 115, 116, 117, 118, 119, 120, 121, 122, 123, 124, 125, 126, 127, 128, 129, 130, 131, 132, 133, 134, 135, 136, 137, 138, 139, 140, 141, 142, 143, 144, 145, 146, 147, 148, 149, 150, 151, 152, 153, 154, 155, 156, 157, 158, 159, 160, 161, 162, 163, 164, 165, 166, 167, 168, 169, 170, 171, 172, 173, 197] : List Nat)) (h : tq_4[i]? = some w) (g : goodWord w = true) : w ∈ wx_4 := List.mem_filter.mpr ⟨List.mem_filterMap.mpr ⟨i, hi, h⟩, g⟩
noncomputable def wx_5 : List Cond := (([28, 94, 148, 149, 210] : List Nat).filterMap (fun i => tq_5[i]?)).filter goodWord
theorem wi_x_5 : ∀ w ∈ wx_5, w ∈ lw_tbl := fun w h => by
  obtain ⟨i, -, hi⟩ := List.mem_filterMap.mp (List.mem_filter.mp h).1
  exact tq_mem.2.2.2.2.1 _ (by rw [tq_ok_5]; exact List.mem_of_getElem? hi)
theorem wg_x_5 : ∀ w ∈ wx_5, goodWord w = true := fun w h => (List.mem_filter.mp h).2
theorem wm_x_5 {w : Cond} (i : Nat) (hi : i ∈ ([28, 94, 148, 149, 210] : List Nat)) (h : tq_5[i]? = some w) (g : goodWord w = true) : w ∈ wx_5 := List.mem_filter.mpr ⟨List.mem_filterMap.mpr ⟨i, hi, h⟩, g⟩
noncomputable def wx_6 : List Cond := (([98, 213] : List Nat).filterMap (fun i => tq_6[i]?)).filter goodWord
theorem wi_x_6 : ∀ w ∈ wx_6, w ∈ lw_tbl := fun w h => by
  obtain ⟨i, -, hi⟩ := List.mem_filterMap.mp (List.mem_filter.mp h).1
  exact tq_mem.2.2.2.2.2.1 _ (by rw [tq_ok_6]; exact List.mem_of_getElem? hi)
theorem wg_x_6 : ∀ w ∈ wx_6, goodWord w = true := fun w h => (List.mem_filter.mp h).2
theorem wm_x_6 {w : Cond} (i : Nat) (hi : i ∈ ([98, 213] : List Nat)) (h : tq_6[i]? = some w) (g : goodWord w = true) : w ∈ wx_6 := List.mem_filter.mpr ⟨List.mem_filterMap.mpr ⟨i, hi, h⟩, g⟩
noncomputable def wx_7 : List Cond := (([12, 19, 44, 96] : List Nat).filterMap (fun i => tq_7[i]?)).filter goodWord
theorem wi_x_7 : ∀ w ∈ wx_7, w ∈ lw_tbl := fun w h => by
  obtain ⟨i, -, hi⟩ := List.mem_filterMap.mp (List.mem_filter.mp h).1
  exact tq_mem.2.2.2.2.2.2.1 _ (by rw [tq_ok_7]; exact List.mem_of_getElem? hi)
theorem wg_x_7 : ∀ w ∈ wx_7, goodWord w = true := fun w h => (List.mem_filter.mp h).2
theorem wm_x_7 {w : Cond} (i : Nat) (hi : i ∈ ([12, 19, 44, 96] : List Nat)) (h : tq_7[i]? = some w) (g : goodWord w = true) : w ∈ wx_7 := List.mem_filter.mpr ⟨List.mem_filterMap.mpr ⟨i, hi, h⟩, g⟩
noncomputable def wx_8 : List Cond := (([67, 72, 74] : List Nat).filterMap (fun i => tq_8[i]?)).filter goodWord
theorem wi_x_8 : ∀ w ∈ wx_8, w ∈ lw_tbl := fun w h => by
  obtain ⟨i, -, hi⟩ := List.mem_filterMap.mp (List.mem_filter.mp h).1
  exact tq_mem.2.2.2.2.2.2.2.1 _ (by rw [tq_ok_8]; exact List.mem_of_getElem? hi)
theorem wg_x_8 : ∀ w ∈ wx_8, goodWord w = true := fun w h => (List.mem_filter.mp h).2
theorem wm_x_8 {w : Cond} (i : Nat) (hi : i ∈ ([67, 72, 74] : List Nat)) (h : tq_8[i]? = some w) (g : goodWord w = true) : w ∈ wx_8 := List.mem_filter.mpr ⟨List.mem_filterMap.mpr ⟨i, hi, h⟩, g⟩
noncomputable def wx_9 : List Cond := (([121, 122, 123, 124, 125, 126, 127, 128, 129, 130, 131, 132, 133, 134, 135, 136, 137, 138, 139, 140, 141, 142, 143, 144, 145, 146, 147, 148, 149, 150, 151, 152, 153, 154, 155, 156, 157, 158, 159, 160, 161, 162, 163, 164, 165, 167, 168, 169, 170, 171, 172, 173, 174, 175, 176, 177, 178, 179, 180, 181, 182, 183, 184, 185, 186, 187, 192, 195, 196, 197, 198, 200, 201, 202, 203, 204, 205, 206, 207, 208, 209, 210, 211, 212, 213, 214, 215, 216, 217, 218, 219, 220, 221, 222, 223, 224, 225, 226, 227, 228, 229, 230, 231, 232, 233, 234, 235, 236, 237, 238, 239] : List Nat).filterMap (fun i => tq_9[i]?)).filter goodWord
theorem wi_x_9 : ∀ w ∈ wx_9, w ∈ lw_tbl := fun w h => by
  obtain ⟨i, -, hi⟩ := List.mem_filterMap.mp (List.mem_filter.mp h).1
  exact tq_mem.2.2.2.2.2.2.2.2.1 _ (by rw [tq_ok_9]; exact List.mem_of_getElem? hi)
theorem wg_x_9 : ∀ w ∈ wx_9, goodWord w = true := fun w h => (List.mem_filter.mp h).2
theorem wm_x_9 {w : Cond} (i : Nat) (hi : i ∈ ([121, 122, 123, 124, 125, 126, 127, 128, 129, 130, 131, 132, 133, 134, 135, 136, 137, 138, 139, 140, 141, 142, 143, 144, 145, 146, 147, 148, 149, 150, 151, 152, 153, 154, 155, 156, 157, 158, 159, 160, 161, 162, 163, 164, 165, 167, 168, 169, 170, 171, 172, 173, 174, 175, 176, 177, 178, 179, 180, 181, 182, 183, 184, 185, 186, 187, 192, 195, 196, 197, 198, 200, 201, 202, 203, 204, 205, 206, 207, 208, 209, 210, 211, 212, 213, 214, 215, 216, 217, 218, 219, 220, 221, 222, 223, 224, 225, 226, 227, 228, 229, 230, 231, 232, 233, 234, 235, 236, 237, 238, 239] : List Nat)) (h : tq_9[i]? = some w) (g : goodWord w = true) : w ∈ wx_9 := List.mem_filter.mpr ⟨List.mem_filterMap.mpr ⟨i, hi, h⟩, g⟩
noncomputable def wx_10 : List Cond := (([0, 1, 2, 3, 4, 5, 6, 7, 8, 9, 10, 11, 12, 13, 14, 15, 16, 17, 18, 19] : List Nat).filterMap (fun i => tq_10[i]?)).filter goodWord
theorem wi_x_10 : ∀ w ∈ wx_10, w ∈ lw_tbl := fun w h => by
  obtain ⟨i, -, hi⟩ := List.mem_filterMap.mp (List.mem_filter.mp h).1
  exact tq_mem.2.2.2.2.2.2.2.2.2.1 _ (by rw [tq_ok_10]; exact List.mem_of_getElem? hi)
theorem wg_x_10 : ∀ w ∈ wx_10, goodWord w = true := fun w h => (List.mem_filter.mp h).2
theorem wm_x_10 {w : Cond} (i : Nat) (hi : i ∈ ([0, 1, 2, 3, 4, 5, 6, 7, 8, 9, 10, 11, 12, 13, 14, 15, 16, 17, 18, 19] : List Nat)) (h : tq_10[i]? = some w) (g : goodWord w = true) : w ∈ wx_10 := List.mem_filter.mpr ⟨List.mem_filterMap.mpr ⟨i, hi, h⟩, g⟩
noncomputable def wx_12 : List Cond := (([103] : List Nat).filterMap (fun i => tq_12[i]?)).filter goodWord
theorem wi_x_12 : ∀ w ∈ wx_12, w ∈ lw_tbl := fun w h => by
  obtain ⟨i, -, hi⟩ := List.mem_filterMap.mp (List.mem_filter.mp h).1
  exact tq_mem.2.2.2.2.2.2.2.2.2.2.2.1 _ (by rw [tq_ok_12]; exact List.mem_of_getElem? hi)
theorem wg_x_12 : ∀ w ∈ wx_12, goodWord w = true := fun w h => (List.mem_filter.mp h).2
theorem wm_x_12 {w : Cond} (i : Nat) (hi : i ∈ ([103] : List Nat)) (h : tq_12[i]? = some w) (g : goodWord w = true) : w ∈ wx_12 := List.mem_filter.mpr ⟨List.mem_filterMap.mpr ⟨i, hi, h⟩, g⟩
noncomputable def wx_16 : List Cond := (([11, 12, 13] : List Nat).filterMap (fun i => tq_16[i]?)).filter goodWord
theorem wi_x_16 : ∀ w ∈ wx_16, w ∈ lw_tbl := fun w h => by
  obtain ⟨i, -, hi⟩ := List.mem_filterMap.mp (List.mem_filter.mp h).1
  exact tq_mem.2.2.2.2.2.2.2.2.2.2.2.2.2.2.2 _ (by rw [tq_ok_16]; exact List.mem_of_getElem? hi)
theorem wg_x_16 : ∀ w ∈ wx_16, goodWord w = true := fun w h => (List.mem_filter.mp h).2
theorem wm_x_16 {w : Cond} (i : Nat) (hi : i ∈ ([11, 12, 13] : List Nat)) (h : tq_16[i]? = some w) (g : goodWord w = true) : w ∈ wx_16 := List.mem_filter.mpr ⟨List.mem_filterMap.mpr ⟨i, hi, h⟩, g⟩
noncomputable def wx : List Cond := wx_1 ++ (wx_2 ++ (wx_3 ++ (wx_4 ++ (wx_5 ++ (wx_6 ++ (wx_7 ++ (wx_8 ++ (wx_9 ++ (wx_10 ++ (wx_12 ++ (wx_16)))))))))))
theorem wi_x : ∀ w ∈ wx, w ∈ lw_tbl := fun w h => by
  unfold wx at h
  simp only [List.mem_append] at h
  rcases h with h | h | h | h | h | h | h | h | h | h | h | h
  · exact wi_x_1 w h
  · exact wi_x_2 w h
  · exact wi_x_3 w h
  · exact wi_x_4 w h
  · exact wi_x_5 w h
  · exact wi_x_6 w h
  · exact wi_x_7 w h
  · exact wi_x_8 w h
  · exact wi_x_9 w h
  · exact wi_x_10 w h
  · exact wi_x_12 w h
  · exact wi_x_16 w h
theorem wg_x : ∀ w ∈ wx, goodWord w = true := fun w h => by
  unfold wx at h
  simp only [List.mem_append] at h
  rcases h with h | h | h | h | h | h | h | h | h | h | h | h
  · exact wg_x_1 w h
  · exact wg_x_2 w h
  · exact wg_x_3 w h
  · exact wg_x_4 w h
  · exact wg_x_5 w h
  · exact wg_x_6 w h
  · exact wg_x_7 w h
  · exact wg_x_8 w h
  · exact wg_x_9 w h
  · exact wg_x_10 w h
  · exact wg_x_12 w h
  · exact wg_x_16 w h
theorem wa_x_1 : ∀ w ∈ wx_1, w ∈ wx := fun w h => List.mem_append_left _ h
theorem wa_x_2 : ∀ w ∈ wx_2, w ∈ wx := fun w h => List.mem_append_right _ (List.mem_append_left _ h)
theorem wa_x_3 : ∀ w ∈ wx_3, w ∈ wx := fun w h => List.mem_append_right _ (List.mem_append_right _ (List.mem_append_left _ h))
theorem wa_x_4 : ∀ w ∈ wx_4, w ∈ wx := fun w h => List.mem_append_right _ (List.mem_append_right _ (List.mem_append_right _ (List.mem_append_left _ h)))
theorem wa_x_5 : ∀ w ∈ wx_5, w ∈ wx := fun w h => List.mem_append_right _ (List.mem_append_right _ (List.mem_append_right _ (List.mem_append_right _ (List.mem_append_left _ h))))
theorem wa_x_6 : ∀ w ∈ wx_6, w ∈ wx := fun w h => List.mem_append_right _ (List.mem_append_right _ (List.mem_append_right _ (List.mem_append_right _ (List.mem_append_right _ (List.mem_append_left _ h)))))
theorem wa_x_7 : ∀ w ∈ wx_7, w ∈ wx := fun w h => List.mem_append_right _ (List.mem_append_right _ (List.mem_append_right _ (List.mem_append_right _ (List.mem_append_right _ (List.mem_append_right _ (List.mem_append_left _ h))))))
theorem wa_x_8 : ∀ w ∈ wx_8, w ∈ wx := fun w h => List.mem_append_right _ (List.mem_append_right _ (List.mem_append_right _ (List.mem_append_right _ (List.mem_append_right _ (List.mem_append_right _ (List.mem_append_right _ (List.mem_append_left _ h)))))))
theorem wa_x_9 : ∀ w ∈ wx_9, w ∈ wx := fun w h => List.mem_append_right _ (List.mem_append_right _ (List.mem_append_right _ (List.mem_append_right _ (List.mem_append_right _ (List.mem_append_right _ (List.mem_append_right _ (List.mem_append_right _ (List.mem_append_left _ h))))))))
theorem wa_x_10 : ∀ w ∈ wx_10, w ∈ wx := fun w h => List.mem_append_right _ (List.mem_append_right _ (List.mem_append_right _ (List.mem_append_right _ (List.mem_append_right _ (List.mem_append_right _ (List.mem_append_right _ (List.mem_append_right _ (List.mem_append_right _ (List.mem_append_left _ h)))))))))
theorem wa_x_12 : ∀ w ∈ wx_12, w ∈ wx := fun w h => List.mem_append_right _ (List.mem_append_right _ (List.mem_append_right _ (List.mem_append_right _ (List.mem_append_right _ (List.mem_append_right _ (List.mem_append_right _ (List.mem_append_right _ (List.mem_append_right _ (List.mem_append_right _ (List.mem_append_left _ h))))))))))
theorem wa_x_16 : ∀ w ∈ wx_16, w ∈ wx := fun w h => List.mem_append_right _ (List.mem_append_right _ (List.mem_append_right _ (List.mem_append_right _ (List.mem_append_right _ (List.mem_append_right _ (List.mem_append_right _ (List.mem_append_right _ (List.mem_append_right _ (List.mem_append_right _ (List.mem_append_right _ (h)))))))))))
def wo0 : List Cond := [.instanceMethod objectInit, .code objectInit ⟨#[0xb1]⟩ 1 none, .native arraycopyName, .static arraycopyName, .initialized "java/lang/System"]
set_option maxRecDepth 100000 in
theorem wi_o0 : ∀ w ∈ wo0, w ∈ lw_tbl := fun w h => by
  simp only [wo0, List.mem_cons, List.not_mem_nil, or_false] at h
  rcases h with rfl | rfl | rfl | rfl | rfl
  · exact tq_mem.1 _ (by rw [tq_ok_1]; exact List.mem_of_getElem? (i := 35) rfl)
  · exact tq_mem.1 _ (by rw [tq_ok_1]; exact List.mem_of_getElem? (i := 36) rfl)
  · exact tq_mem.2.2.1 _ (by rw [tq_ok_3]; exact List.mem_of_getElem? (i := 191) rfl)
  · exact tq_mem.2.2.1 _ (by rw [tq_ok_3]; exact List.mem_of_getElem? (i := 190) rfl)
  · exact tq_mem.1 _ (by rw [tq_ok_1]; exact List.mem_of_getElem? (i := 21) rfl)
noncomputable def wo : List Cond := wo0 ++ wx
theorem wi_o : ∀ w ∈ wo, w ∈ lw_tbl := fun w h => (List.mem_append.mp h).elim (wi_o0 w) (wi_x w)
noncomputable def TsT : List Cond := wl_fl.map wf_fl ++ (wl_lk.map wf_lk ++ (wl_code.map wf_code ++ (wl_stat.map wf_stat ++ (wl_inst.map wf_inst ++ (wl_sel.map wf_sel ++ (wl_ini.map wf_ini ++ (wl_ins.map wf_ins ++ (wl_clk.map wf_clk ++ (wl_clm.map wf_clm ++ (wl_cst.map wf_cst ++ (wl_csl.map wf_csl ++ (wl_arr.map wf_arr ++ (wl_oi.map wf_oi ++ (wl_ac.map wf_ac ++ (wl_sl.map wf_sl ++ (wl_ly.map wf_ly ++ (wo)))))))))))))))))
theorem TsT_in : ∀ w ∈ TsT, w ∈ lw_tbl := fun w hw => by
  unfold TsT at hw
  simp only [List.mem_append, List.mem_map] at hw
  rcases hw with ⟨q, h, rfl⟩ | ⟨q, h, rfl⟩ | ⟨q, h, rfl⟩ | ⟨q, h, rfl⟩ | ⟨q, h, rfl⟩ | ⟨q, h, rfl⟩ | ⟨q, h, rfl⟩ | ⟨q, h, rfl⟩ | ⟨q, h, rfl⟩ | ⟨q, h, rfl⟩ | ⟨q, h, rfl⟩ | ⟨q, h, rfl⟩ | ⟨q, h, rfl⟩ | ⟨q, h, rfl⟩ | ⟨q, h, rfl⟩ | ⟨q, h, rfl⟩ | ⟨q, h, rfl⟩ | h
  · exact wi_fl q h
  · exact wi_lk q h
  · exact wi_code q h
  · exact wi_stat q h
  · exact wi_inst q h
  · exact wi_sel q h
  · exact wi_ini q h
  · exact wi_ins q h
  · exact wi_clk q h
  · exact wi_clm q h
  · exact wi_cst q h
  · exact wi_csl q h
  · exact wi_arr q h
  · exact wi_oi q h
  · exact wi_ac q h
  · exact wi_sl q h
  · exact wi_ly q h
  · exact wi_o w h
theorem wg_fl : ∀ q, goodWord (wf_fl q) = true := fun q => rfl
theorem wg_lk : ∀ q, goodWord (wf_lk q) = true := fun q => rfl
theorem wg_code : ∀ q, goodWord (wf_code q) = true := fun q => rfl
theorem wg_stat : ∀ q, goodWord (wf_stat q) = true := fun q => rfl
theorem wg_inst : ∀ q, goodWord (wf_inst q) = true := fun q => rfl
theorem wg_sel : ∀ q, goodWord (wf_sel q) = true := fun q => rfl
theorem wg_ini : ∀ q, goodWord (wf_ini q) = true := fun q => rfl
theorem wg_ins : ∀ q, goodWord (wf_ins q) = true := fun q => rfl
theorem wg_clk : ∀ q, goodWord (wf_clk q) = true := fun q => rfl
theorem wg_clm : ∀ q, goodWord (wf_clm q) = true := fun q => rfl
theorem wg_cst : ∀ q, goodWord (wf_cst q) = true := fun q => rfl
theorem wg_csl : ∀ q, goodWord (wf_csl q) = true := fun q => rfl
theorem wg_arr : ∀ q, goodWord (wf_arr q) = true := fun q => rfl
theorem wg_oi : ∀ q, goodWord (wf_oi q) = true := fun q => rfl
theorem wg_ac : ∀ q, goodWord (wf_ac q) = true := fun q => rfl
theorem wg_sl : ∀ q, goodWord (wf_sl q) = true := fun q => rfl
theorem wg_ly : ∀ q, goodWord (wf_ly q) = true := fun q => by
  unfold wf_ly u_lay
  split <;> rfl
theorem wg_o0 : ∀ w ∈ wo0, goodWord w = true := fun w h => by
  simp only [wo0, List.mem_cons, List.not_mem_nil, or_false] at h
  rcases h with rfl | rfl | rfl | rfl | rfl <;> rfl
theorem wg_o : ∀ w ∈ wo, goodWord w = true := fun w h => (List.mem_append.mp h).elim (wg_o0 w) (wg_x w)
theorem TsT_good : ∀ w ∈ TsT, goodWord w = true := fun w hw => by
  unfold TsT at hw
  simp only [List.mem_append, List.mem_map] at hw
  rcases hw with ⟨q, h, rfl⟩ | ⟨q, h, rfl⟩ | ⟨q, h, rfl⟩ | ⟨q, h, rfl⟩ | ⟨q, h, rfl⟩ | ⟨q, h, rfl⟩ | ⟨q, h, rfl⟩ | ⟨q, h, rfl⟩ | ⟨q, h, rfl⟩ | ⟨q, h, rfl⟩ | ⟨q, h, rfl⟩ | ⟨q, h, rfl⟩ | ⟨q, h, rfl⟩ | ⟨q, h, rfl⟩ | ⟨q, h, rfl⟩ | ⟨q, h, rfl⟩ | ⟨q, h, rfl⟩ | h
  · exact wg_fl q
  · exact wg_lk q
  · exact wg_code q
  · exact wg_stat q
  · exact wg_inst q
  · exact wg_sel q
  · exact wg_ini q
  · exact wg_ins q
  · exact wg_clk q
  · exact wg_clm q
  · exact wg_cst q
  · exact wg_csl q
  · exact wg_arr q
  · exact wg_oi q
  · exact wg_ac q
  · exact wg_sl q
  · exact wg_ly q
  · exact wg_o w h
theorem TsT_fl : ∀ q ∈ wl_fl, wf_fl q ∈ TsT := fun q h => (List.mem_append_left _ (List.mem_map_of_mem h))
theorem TsT_lk : ∀ q ∈ wl_lk, wf_lk q ∈ TsT := fun q h => (List.mem_append_right _ (List.mem_append_left _ (List.mem_map_of_mem h)))
theorem TsT_code : ∀ q ∈ wl_code, wf_code q ∈ TsT := fun q h => (List.mem_append_right _ (List.mem_append_right _ (List.mem_append_left _ (List.mem_map_of_mem h))))
theorem TsT_stat : ∀ q ∈ wl_stat, wf_stat q ∈ TsT := fun q h => (List.mem_append_right _ (List.mem_append_right _ (List.mem_append_right _ (List.mem_append_left _ (List.mem_map_of_mem h)))))
theorem TsT_inst : ∀ q ∈ wl_inst, wf_inst q ∈ TsT := fun q h => (List.mem_append_right _ (List.mem_append_right _ (List.mem_append_right _ (List.mem_append_right _ (List.mem_append_left _ (List.mem_map_of_mem h))))))
theorem TsT_sel : ∀ q ∈ wl_sel, wf_sel q ∈ TsT := fun q h => (List.mem_append_right _ (List.mem_append_right _ (List.mem_append_right _ (List.mem_append_right _ (List.mem_append_right _ (List.mem_append_left _ (List.mem_map_of_mem h)))))))
theorem TsT_ini : ∀ q ∈ wl_ini, wf_ini q ∈ TsT := fun q h => (List.mem_append_right _ (List.mem_append_right _ (List.mem_append_right _ (List.mem_append_right _ (List.mem_append_right _ (List.mem_append_right _ (List.mem_append_left _ (List.mem_map_of_mem h))))))))
theorem TsT_ins : ∀ q ∈ wl_ins, wf_ins q ∈ TsT := fun q h => (List.mem_append_right _ (List.mem_append_right _ (List.mem_append_right _ (List.mem_append_right _ (List.mem_append_right _ (List.mem_append_right _ (List.mem_append_right _ (List.mem_append_left _ (List.mem_map_of_mem h)))))))))
theorem TsT_clk : ∀ q ∈ wl_clk, wf_clk q ∈ TsT := fun q h => (List.mem_append_right _ (List.mem_append_right _ (List.mem_append_right _ (List.mem_append_right _ (List.mem_append_right _ (List.mem_append_right _ (List.mem_append_right _ (List.mem_append_right _ (List.mem_append_left _ (List.mem_map_of_mem h))))))))))
theorem TsT_clm : ∀ q ∈ wl_clm, wf_clm q ∈ TsT := fun q h => (List.mem_append_right _ (List.mem_append_right _ (List.mem_append_right _ (List.mem_append_right _ (List.mem_append_right _ (List.mem_append_right _ (List.mem_append_right _ (List.mem_append_right _ (List.mem_append_right _ (List.mem_append_left _ (List.mem_map_of_mem h)))))))))))
theorem TsT_cst : ∀ q ∈ wl_cst, wf_cst q ∈ TsT := fun q h => (List.mem_append_right _ (List.mem_append_right _ (List.mem_append_right _ (List.mem_append_right _ (List.mem_append_right _ (List.mem_append_right _ (List.mem_append_right _ (List.mem_append_right _ (List.mem_append_right _ (List.mem_append_right _ (List.mem_append_left _ (List.mem_map_of_mem h))))))))))))
theorem TsT_csl : ∀ q ∈ wl_csl, wf_csl q ∈ TsT := fun q h => (List.mem_append_right _ (List.mem_append_right _ (List.mem_append_right _ (List.mem_append_right _ (List.mem_append_right _ (List.mem_append_right _ (List.mem_append_right _ (List.mem_append_right _ (List.mem_append_right _ (List.mem_append_right _ (List.mem_append_right _ (List.mem_append_left _ (List.mem_map_of_mem h)))))))))))))
theorem TsT_arr : ∀ q ∈ wl_arr, wf_arr q ∈ TsT := fun q h => (List.mem_append_right _ (List.mem_append_right _ (List.mem_append_right _ (List.mem_append_right _ (List.mem_append_right _ (List.mem_append_right _ (List.mem_append_right _ (List.mem_append_right _ (List.mem_append_right _ (List.mem_append_right _ (List.mem_append_right _ (List.mem_append_right _ (List.mem_append_left _ (List.mem_map_of_mem h))))))))))))))
theorem TsT_oi : ∀ q ∈ wl_oi, wf_oi q ∈ TsT := fun q h => (List.mem_append_right _ (List.mem_append_right _ (List.mem_append_right _ (List.mem_append_right _ (List.mem_append_right _ (List.mem_append_right _ (List.mem_append_right _ (List.mem_append_right _ (List.mem_append_right _ (List.mem_append_right _ (List.mem_append_right _ (List.mem_append_right _ (List.mem_append_right _ (List.mem_append_left _ (List.mem_map_of_mem h)))))))))))))))
theorem TsT_ac : ∀ q ∈ wl_ac, wf_ac q ∈ TsT := fun q h => (List.mem_append_right _ (List.mem_append_right _ (List.mem_append_right _ (List.mem_append_right _ (List.mem_append_right _ (List.mem_append_right _ (List.mem_append_right _ (List.mem_append_right _ (List.mem_append_right _ (List.mem_append_right _ (List.mem_append_right _ (List.mem_append_right _ (List.mem_append_right _ (List.mem_append_right _ (List.mem_append_left _ (List.mem_map_of_mem h))))))))))))))))
theorem TsT_sl : ∀ q ∈ wl_sl, wf_sl q ∈ TsT := fun q h => (List.mem_append_right _ (List.mem_append_right _ (List.mem_append_right _ (List.mem_append_right _ (List.mem_append_right _ (List.mem_append_right _ (List.mem_append_right _ (List.mem_append_right _ (List.mem_append_right _ (List.mem_append_right _ (List.mem_append_right _ (List.mem_append_right _ (List.mem_append_right _ (List.mem_append_right _ (List.mem_append_right _ (List.mem_append_left _ (List.mem_map_of_mem h)))))))))))))))))
theorem TsT_ly : ∀ q ∈ wl_ly, wf_ly q ∈ TsT := fun q h => (List.mem_append_right _ (List.mem_append_right _ (List.mem_append_right _ (List.mem_append_right _ (List.mem_append_right _ (List.mem_append_right _ (List.mem_append_right _ (List.mem_append_right _ (List.mem_append_right _ (List.mem_append_right _ (List.mem_append_right _ (List.mem_append_right _ (List.mem_append_right _ (List.mem_append_right _ (List.mem_append_right _ (List.mem_append_right _ (List.mem_append_left _ (List.mem_map_of_mem h))))))))))))))))))
theorem TsT_o : ∀ w ∈ wo, w ∈ TsT := fun w h => (List.mem_append_right _ (List.mem_append_right _ (List.mem_append_right _ (List.mem_append_right _ (List.mem_append_right _ (List.mem_append_right _ (List.mem_append_right _ (List.mem_append_right _ (List.mem_append_right _ (List.mem_append_right _ (List.mem_append_right _ (List.mem_append_right _ (List.mem_append_right _ (List.mem_append_right _ (List.mem_append_right _ (List.mem_append_right _ (List.mem_append_right _ h)))))))))))))))))
def wl_nst : List (Nat × (Nat × Nat)) := [(1, 118, 308), (2, 66, 308), (3, 47, 308), (4, 58, 308), (4, 110, 309), (5, 42, 308), (6, 52, 308), (7, 67, 308), (8, 89, 308), (8, 197, 309), (9, 66, 308)]
def nwsT : List (String × (Nat × (MethodName × String))) := wl_nst.map fun q => (cnm q.1, (q.2.1, (namT q.2.2, cnm 11)))
def stsT : List (String × (String × (String × Nat))) := [((stn 1000).1, (stn 1000).2.1, (stn 1000).2.2, 1000), ((stn 1001).1, (stn 1001).2.1, (stn 1001).2.2, 1001), ((stn 1002).1, (stn 1002).2.1, (stn 1002).2.2, 1002), ((stn 1003).1, (stn 1003).2.1, (stn 1003).2.2, 1003), ((stn 1004).1, (stn 1004).2.1, (stn 1004).2.2, 1004)]
