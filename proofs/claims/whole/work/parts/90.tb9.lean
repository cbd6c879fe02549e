/-! ===== the eight methods around exceptions: the tables of their ways without any ===== -/
def k9_X11_feed : List (List ev_E) := [
  [(0, .aload_n 0, 1, 0, []), (1, .getfield 10, 3, 11267, []), (4, .getfield 105, 3, 10244, []), (7, .bipush 20, 2, 20, []), (9, .iadd, 1, 0, []), (10, .sipush 4096, 3, 4096, []), (13, .if_icmp .le 13, 3, 26, [])],
  [(26, .aload_n 0, 1, 0, []), (27, .getfield 10, 3, 11267, []), (30, .iload_n 1, 1, 0, []), (31, .invokevirtual 116, 3, 222, [])],
  [(34, .aload_n 0, 1, 0, []), (35, .getfield 10, 3, 11267, []), (38, .iload_n 2, 1, 0, []), (39, .invokevirtual 116, 3, 222, []), (42, .aload_n 0, 1, 0, []), (43, .getfield 10, 3, 11267, []), (46, .iload_n 3, 1, 0, []), (47, .invokevirtual 116, 3, 222, [])],
  [(50, .aload_n 0, 1, 0, []), (51, .getfield 10, 3, 11267, []), (54, .iload 4, 2, 0, []), (56, .invokevirtual 116, 3, 222, []), (59, .aload_n 0, 1, 0, []), (60, .getfield 10, 3, 11267, []), (63, .iload 5, 2, 0, [])],
  [(65, .invokevirtual 116, 3, 222, []), (68, .aload_n 0, 1, 0, []), (69, .getfield 10, 3, 11267, []), (72, .getfield 105, 3, 10244, []), (75, .ireturn, 1, 0, [])]]
def k9_X11_end : List (List ev_E) := [
  [(0, .iload_n 1, 1, 0, []), (1, .iconst 0, 1, 0, []), (2, .aload_n 0, 1, 0, []), (3, .getfield 10, 3, 11267, []), (6, .getfield 105, 3, 10244, []), (9, .invokestatic 120, 3, 308, []), (12, .ifCond .eq 13, 3, 25, [])],
  [(25, .aload_n 0, 1, 0, []), (26, .getfield 10, 3, 11267, []), (29, .iload_n 1, 1, 0, []), (30, .putfield 105, 3, 10244, [])],
  [(33, .return_, 1, 0, [])]]
def k9_X11_octet : List (List ev_E) := [
  [(0, .iload_n 1, 1, 0, []), (1, .iload_n 2, 1, 0, []), (2, .invokestatic 175, 3, 133, []), (5, .ifCond .ne 13, 3, 18, [])],
  [(18, .aload_n 0, 1, 0, []), (19, .getfield 31, 3, 11279, []), (22, .iload_n 1, 1, 0, []), (23, .iload_n 2, 1, 0, []), (24, .invokevirtual 184, 3, 134, []), (27, .ireturn, 1, 0, [])]]
def k9_X11_poke : List (List ev_E) := [
  [(0, .iload_n 1, 1, 0, []), (1, .iload_n 2, 1, 0, []), (2, .invokestatic 175, 3, 133, []), (5, .ifCond .ne 13, 3, 18, [])],
  [(18, .aload_n 0, 1, 0, []), (19, .getfield 31, 3, 11279, []), (22, .iload_n 1, 1, 0, []), (23, .iload_n 2, 1, 0, []), (24, .iload_n 3, 1, 0, []), (25, .invokevirtual 187, 3, 135, []), (28, .ireturn, 1, 0, [])]]
def k9_L_feed : List (List ev_E) := [
  [(0, .aload 6, 2, 0, []), (2, .iconst 0, 1, 0, []), (3, .aload_n 0, 1, 0, []), (4, .iload_n 1, 1, 0, []), (5, .iload_n 2, 1, 0, []), (6, .iload_n 3, 1, 0, []), (7, .iload 4, 2, 0, []), (9, .iload 5, 2, 0, []), (11, .invokevirtual 7, 3, 540, []), (14, .i2l, 1, 0, []), (15, .lastore, 1, 0, [])],
  [(16, .goto 7, 3, 23, []), (23, .iconst 0, 1, 0, []), (24, .ireturn, 1, 0, [])]]
def k9_L_end : List (List ev_E) := [
  [(0, .aload_n 0, 1, 0, []), (1, .iload_n 1, 1, 0, []), (2, .invokevirtual 15, 3, 541, []), (5, .goto 6, 3, 11, []), (11, .iconst 0, 1, 0, []), (12, .ireturn, 1, 0, [])]]
def k9_L_octet : List (List ev_E) := [
  [(0, .aload_n 3, 1, 0, []), (1, .iconst 0, 1, 0, []), (2, .aload_n 0, 1, 0, []), (3, .iload_n 1, 1, 0, []), (4, .iload_n 2, 1, 0, []), (5, .invokevirtual 21, 3, 542, []), (8, .i2l, 1, 0, []), (9, .lastore, 1, 0, []), (10, .goto 7, 3, 17, [])],
  [(17, .iconst 0, 1, 0, []), (18, .ireturn, 1, 0, [])]]
def k9_L_poke : List (List ev_E) := [
  [(0, .aload 4, 2, 0, []), (2, .iconst 0, 1, 0, []), (3, .aload_n 0, 1, 0, []), (4, .iload_n 1, 1, 0, []), (5, .iload_n 2, 1, 0, []), (6, .iload_n 3, 1, 0, []), (7, .invokevirtual 27, 3, 543, []), (10, .i2l, 1, 0, []), (11, .lastore, 1, 0, []), (12, .goto 7, 3, 19, [])],
  [(19, .iconst 0, 1, 0, []), (20, .ireturn, 1, 0, [])]]
def cod9_tab : List (List (List ev_E)) := [k9_X11_feed, k9_X11_end, k9_X11_octet, k9_X11_poke, k9_L_feed, k9_L_end, k9_L_octet, k9_L_poke]
def cod9 (M : Nat) : List (List ev_E) := bif Nat.ble M 539 then [] else (ev_nth cod9_tab (M - 540)).getD []
def dat9_tab : List (ev_D) := [(6, 6, false, 12), (2, 2, false, 12), (3, 3, false, 12), (4, 4, false, 12), (8, 7, false, 0), (3, 2, false, 0), (5, 4, false, 0), (6, 5, false, 0)]
def dat9 (M : Nat) : ev_D := bif Nat.ble M 539 then datT M else (ev_nth dat9_tab (M - 540)).getD (0, 0, false, 0)
noncomputable def bys9_tab : List (ByteArray) := [prog_1_method_2_code, prog_1_method_3_code, prog_1_method_8_code, prog_1_method_9_code, method_3_code, method_4_code, method_5_code, method_6_code]
noncomputable def bys9 (M : Nat) : ByteArray := bif Nat.ble M 539 then bysT M else (ev_nth bys9_tab (M - 540)).getD default
def nam9_tab : List (MethodName) := [⟨cnm 11, "feed", "(IIIII)I"⟩, ⟨cnm 11, "end", "(I)V"⟩, ⟨cnm 11, "octet", "(II)I"⟩, ⟨cnm 11, "poke", "(III)I"⟩, ⟨cnm 13, "feed", "(LPostHouse;IIIII[J)I"⟩, ⟨cnm 13, "end", "(LPostHouse;I)I"⟩, ⟨cnm 13, "octet", "(LPostHouse;II[J)I"⟩, ⟨cnm 13, "poke", "(LPostHouse;III[J)I"⟩]
def nam9 (M : Nat) : MethodName := bif Nat.ble M 539 then namT M else (ev_nth nam9_tab (M - 540)).getD ⟨cnm 11, "", ""⟩
def rty9_tab : List (Option FieldType) := [(some .int), none, (some .int), (some .int), (some .int), (some .int), (some .int), (some .int)]
def rty9 (M : Nat) : Option FieldType := bif Nat.ble M 539 then rtyT M else (ev_nth rty9_tab (M - 540)).getD none
def frm9_tab : List (Nat) := [11, 11, 11, 11, 12, 12, 12, 12]
def frm9 (M : Nat) : Nat := bif Nat.ble M 539 then frmT M else (ev_nth frm9_tab (M - 540)).getD 0
def lco9_tab : List (Nat) := [260, 260, 260, 260, 290, 290, 290, 290]
def lco9 (M : Nat) : Nat := bif Nat.ble M 539 then lcoT M else (ev_nth lco9_tab (M - 540)).getD 0
theorem w9_code_540 : Cond.code (nam9 540) (bys9 540) (dat9 540).1 (rty9 540) ∈ TsT := TsT_o _ (List.mem_append_right _ (wa_x_9 _ (wm_x_9 128 (by decide) rfl rfl)))
theorem w9_inst_540 : Cond.instanceMethod (nam9 540) ∈ TsT := TsT_o _ (List.mem_append_right _ (wa_x_9 _ (wm_x_9 126 (by decide) rfl rfl)))
theorem w9_sel_540 : Cond.selects (nam9 540).cls (nam9 540) (nam9 540) ∈ TsT := TsT_o _ (List.mem_append_right _ (wa_x_9 _ (wm_x_9 127 (by decide) rfl rfl)))
theorem w9_code_541 : Cond.code (nam9 541) (bys9 541) (dat9 541).1 (rty9 541) ∈ TsT := TsT_o _ (List.mem_append_right _ (wa_x_9 _ (wm_x_9 207 (by decide) rfl rfl)))
theorem w9_inst_541 : Cond.instanceMethod (nam9 541) ∈ TsT := TsT_o _ (List.mem_append_right _ (wa_x_9 _ (wm_x_9 205 (by decide) rfl rfl)))
theorem w9_sel_541 : Cond.selects (nam9 541).cls (nam9 541) (nam9 541) ∈ TsT := TsT_o _ (List.mem_append_right _ (wa_x_9 _ (wm_x_9 206 (by decide) rfl rfl)))
theorem w9_code_542 : Cond.code (nam9 542) (bys9 542) (dat9 542).1 (rty9 542) ∈ TsT := TsT_o _ (List.mem_append_right _ (wa_x_9 _ (wm_x_9 231 (by decide) rfl rfl)))
theorem w9_inst_542 : Cond.instanceMethod (nam9 542) ∈ TsT := TsT_o _ (List.mem_append_right _ (wa_x_9 _ (wm_x_9 229 (by decide) rfl rfl)))
theorem w9_sel_542 : Cond.selects (nam9 542).cls (nam9 542) (nam9 542) ∈ TsT := TsT_o _ (List.mem_append_right _ (wa_x_9 _ (wm_x_9 230 (by decide) rfl rfl)))
theorem w9_code_543 : Cond.code (nam9 543) (bys9 543) (dat9 543).1 (rty9 543) ∈ TsT := TsT_o _ (List.mem_append_right _ (wa_x_10 _ (wm_x_10 16 (by decide) rfl rfl)))
theorem w9_inst_543 : Cond.instanceMethod (nam9 543) ∈ TsT := TsT_o _ (List.mem_append_right _ (wa_x_10 _ (wm_x_10 14 (by decide) rfl rfl)))
theorem w9_sel_543 : Cond.selects (nam9 543).cls (nam9 543) (nam9 543) ∈ TsT := TsT_o _ (List.mem_append_right _ (wa_x_10 _ (wm_x_10 15 (by decide) rfl rfl)))
theorem w9_code_544 : Cond.codeWith (nam9 544) (bys9 544) (dat9 544).1 (rty9 544) [(0, 16, 19, 13)] ∈ TsT := TsT_o _ (List.mem_append_right _ (wa_x_9 _ (wm_x_9 123 (by decide) rfl rfl)))
theorem w9_lk_544 : Cond.methodLink (cnm 13) 35 (nam9 544) ∈ TsT := TsT_o _ (List.mem_append_right _ (wa_x_9 _ (wm_x_9 121 (by decide) rfl rfl)))
theorem w9_st_544 : Cond.static (nam9 544) ∈ TsT := TsT_o _ (List.mem_append_right _ (wa_x_9 _ (wm_x_9 122 (by decide) rfl rfl)))
theorem w9_code_545 : Cond.codeWith (nam9 545) (bys9 545) (dat9 545).1 (rty9 545) [(0, 5, 8, 19)] ∈ TsT := TsT_o _ (List.mem_append_right _ (wa_x_9 _ (wm_x_9 202 (by decide) rfl rfl)))
theorem w9_lk_545 : Cond.methodLink (cnm 13) 45 (nam9 545) ∈ TsT := TsT_o _ (List.mem_append_right _ (wa_x_9 _ (wm_x_9 200 (by decide) rfl rfl)))
theorem w9_st_545 : Cond.static (nam9 545) ∈ TsT := TsT_o _ (List.mem_append_right _ (wa_x_9 _ (wm_x_9 201 (by decide) rfl rfl)))
theorem w9_code_546 : Cond.codeWith (nam9 546) (bys9 546) (dat9 546).1 (rty9 546) [(0, 10, 13, 25)] ∈ TsT := TsT_o _ (List.mem_append_right _ (wa_x_9 _ (wm_x_9 226 (by decide) rfl rfl)))
theorem w9_lk_546 : Cond.methodLink (cnm 13) 65 (nam9 546) ∈ TsT := TsT_o _ (List.mem_append_right _ (wa_x_9 _ (wm_x_9 224 (by decide) rfl rfl)))
theorem w9_st_546 : Cond.static (nam9 546) ∈ TsT := TsT_o _ (List.mem_append_right _ (wa_x_9 _ (wm_x_9 225 (by decide) rfl rfl)))
theorem w9_code_547 : Cond.codeWith (nam9 547) (bys9 547) (dat9 547).1 (rty9 547) [(0, 12, 15, 25)] ∈ TsT := TsT_o _ (List.mem_append_right _ (wa_x_10 _ (wm_x_10 12 (by decide) rfl rfl)))
theorem w9_lk_547 : Cond.methodLink (cnm 13) 69 (nam9 547) ∈ TsT := TsT_o _ (List.mem_append_right _ (wa_x_10 _ (wm_x_10 10 (by decide) rfl rfl)))
theorem w9_st_547 : Cond.static (nam9 547) ∈ TsT := TsT_o _ (List.mem_append_right _ (wa_x_10 _ (wm_x_10 11 (by decide) rfl rfl)))
theorem L9_540 : Cond.methodLink (cnm 13) 7 (nam9 540) ∈ TsT := TsT_o _ (List.mem_append_right _ (wa_x_9 _ (wm_x_9 125 (by decide) rfl rfl)))
theorem L9_541 : Cond.methodLink (cnm 13) 15 (nam9 541) ∈ TsT := TsT_o _ (List.mem_append_right _ (wa_x_9 _ (wm_x_9 204 (by decide) rfl rfl)))
theorem L9_542 : Cond.methodLink (cnm 13) 21 (nam9 542) ∈ TsT := TsT_o _ (List.mem_append_right _ (wa_x_9 _ (wm_x_9 228 (by decide) rfl rfl)))
theorem L9_543 : Cond.methodLink (cnm 13) 27 (nam9 543) ∈ TsT := TsT_o _ (List.mem_append_right _ (wa_x_10 _ (wm_x_10 13 (by decide) rfl rfl)))
theorem w9_iniL : Cond.initialized (cnm 13) ∈ TsT := TsT_o _ (List.mem_append_right _ (wa_x_1 _ (wm_x_1 0 (by decide) rfl rfl)))
/-- what lies below 540 is run by the first tables -/
noncomputable def prm9 (F c : Nat) : Option (List ev_V → ev_M → Option ev_O) := bif Nat.ble c 539 then some (fun as x => bif ev_chk shpT (datT c).2.2.2 (datT c).1 as then evT F c 0 (ev_ent as (datT c).1) [] x else none) else none
theorem sn_P9 : sn_P clsT (cnm 11) "end" 10244 := by
  intro rr hrr
  obtain ⟨-, e⟩ := cls_at (ci := 10) hrr
  subst e
  exact ⟨Or.inl rfl, .int, by decide, fun _ => rfl, fun h => absurd h (by decide), fun h => absurd h (by decide), fun h => absurd h (by decide)⟩
variable (F : Nat)
theorem e9_540_0 : so_E shpT ftyT clsT dat9 (prm9 F) bys9 nam9 rty9 frm9 lco9 TsT nwsT stsT 540 0 (.aload_n 0, 1, 0, []) := ⟨by decide +kernel, rfl⟩
theorem e9_540_1 : so_E shpT ftyT clsT dat9 (prm9 F) bys9 nam9 rty9 frm9 lco9 TsT nwsT stsT 540 1 (.getfield 10, 3, 11267, []) := ⟨by decide +kernel, rfl, (fl_of (own := 11) (by decide +kernel)).1⟩
theorem e9_540_4 : so_E shpT ftyT clsT dat9 (prm9 F) bys9 nam9 rty9 frm9 lco9 TsT nwsT stsT 540 4 (.getfield 105, 3, 10244, []) := ⟨by decide +kernel, rfl, (fl_of (own := 11) (by decide +kernel)).1⟩
theorem e9_540_7 : so_E shpT ftyT clsT dat9 (prm9 F) bys9 nam9 rty9 frm9 lco9 TsT nwsT stsT 540 7 (.bipush 20, 2, 20, []) := ⟨by decide +kernel, rfl, by decide⟩
theorem e9_540_9 : so_E shpT ftyT clsT dat9 (prm9 F) bys9 nam9 rty9 frm9 lco9 TsT nwsT stsT 540 9 (.iadd, 1, 0, []) := ⟨by decide +kernel, rfl⟩
theorem e9_540_10 : so_E shpT ftyT clsT dat9 (prm9 F) bys9 nam9 rty9 frm9 lco9 TsT nwsT stsT 540 10 (.sipush 4096, 3, 4096, []) := ⟨by decide +kernel, rfl, by decide⟩
theorem e9_540_13 : so_E shpT ftyT clsT dat9 (prm9 F) bys9 nam9 rty9 frm9 lco9 TsT nwsT stsT 540 13 (.if_icmp .le 13, 3, 26, []) := ⟨by decide +kernel, rfl, by decide⟩
theorem e9_540_26 : so_E shpT ftyT clsT dat9 (prm9 F) bys9 nam9 rty9 frm9 lco9 TsT nwsT stsT 540 26 (.aload_n 0, 1, 0, []) := ⟨by decide +kernel, rfl⟩
theorem e9_540_27 : so_E shpT ftyT clsT dat9 (prm9 F) bys9 nam9 rty9 frm9 lco9 TsT nwsT stsT 540 27 (.getfield 10, 3, 11267, []) := ⟨by decide +kernel, rfl, (fl_of (own := 11) (by decide +kernel)).1⟩
theorem e9_540_30 : so_E shpT ftyT clsT dat9 (prm9 F) bys9 nam9 rty9 frm9 lco9 TsT nwsT stsT 540 30 (.iload_n 1, 1, 0, []) := ⟨by decide +kernel, rfl⟩
theorem e9_540_31 : so_E shpT ftyT clsT dat9 (prm9 F) bys9 nam9 rty9 frm9 lco9 TsT nwsT stsT 540 31 (.invokevirtual 116, 3, 222, []) := ⟨by decide +kernel, rfl, fun z => by cases z⟩
theorem e9_540_34 : so_E shpT ftyT clsT dat9 (prm9 F) bys9 nam9 rty9 frm9 lco9 TsT nwsT stsT 540 34 (.aload_n 0, 1, 0, []) := ⟨by decide +kernel, rfl⟩
theorem e9_540_35 : so_E shpT ftyT clsT dat9 (prm9 F) bys9 nam9 rty9 frm9 lco9 TsT nwsT stsT 540 35 (.getfield 10, 3, 11267, []) := ⟨by decide +kernel, rfl, (fl_of (own := 11) (by decide +kernel)).1⟩
theorem e9_540_38 : so_E shpT ftyT clsT dat9 (prm9 F) bys9 nam9 rty9 frm9 lco9 TsT nwsT stsT 540 38 (.iload_n 2, 1, 0, []) := ⟨by decide +kernel, rfl⟩
theorem e9_540_39 : so_E shpT ftyT clsT dat9 (prm9 F) bys9 nam9 rty9 frm9 lco9 TsT nwsT stsT 540 39 (.invokevirtual 116, 3, 222, []) := ⟨by decide +kernel, rfl, fun z => by cases z⟩
theorem e9_540_42 : so_E shpT ftyT clsT dat9 (prm9 F) bys9 nam9 rty9 frm9 lco9 TsT nwsT stsT 540 42 (.aload_n 0, 1, 0, []) := ⟨by decide +kernel, rfl⟩
theorem e9_540_43 : so_E shpT ftyT clsT dat9 (prm9 F) bys9 nam9 rty9 frm9 lco9 TsT nwsT stsT 540 43 (.getfield 10, 3, 11267, []) := ⟨by decide +kernel, rfl, (fl_of (own := 11) (by decide +kernel)).1⟩
theorem e9_540_46 : so_E shpT ftyT clsT dat9 (prm9 F) bys9 nam9 rty9 frm9 lco9 TsT nwsT stsT 540 46 (.iload_n 3, 1, 0, []) := ⟨by decide +kernel, rfl⟩
theorem e9_540_47 : so_E shpT ftyT clsT dat9 (prm9 F) bys9 nam9 rty9 frm9 lco9 TsT nwsT stsT 540 47 (.invokevirtual 116, 3, 222, []) := ⟨by decide +kernel, rfl, fun z => by cases z⟩
theorem e9_540_50 : so_E shpT ftyT clsT dat9 (prm9 F) bys9 nam9 rty9 frm9 lco9 TsT nwsT stsT 540 50 (.aload_n 0, 1, 0, []) := ⟨by decide +kernel, rfl⟩
theorem e9_540_51 : so_E shpT ftyT clsT dat9 (prm9 F) bys9 nam9 rty9 frm9 lco9 TsT nwsT stsT 540 51 (.getfield 10, 3, 11267, []) := ⟨by decide +kernel, rfl, (fl_of (own := 11) (by decide +kernel)).1⟩
theorem e9_540_54 : so_E shpT ftyT clsT dat9 (prm9 F) bys9 nam9 rty9 frm9 lco9 TsT nwsT stsT 540 54 (.iload 4, 2, 0, []) := ⟨by decide +kernel, rfl⟩
theorem e9_540_56 : so_E shpT ftyT clsT dat9 (prm9 F) bys9 nam9 rty9 frm9 lco9 TsT nwsT stsT 540 56 (.invokevirtual 116, 3, 222, []) := ⟨by decide +kernel, rfl, fun z => by cases z⟩
theorem e9_540_59 : so_E shpT ftyT clsT dat9 (prm9 F) bys9 nam9 rty9 frm9 lco9 TsT nwsT stsT 540 59 (.aload_n 0, 1, 0, []) := ⟨by decide +kernel, rfl⟩
theorem e9_540_60 : so_E shpT ftyT clsT dat9 (prm9 F) bys9 nam9 rty9 frm9 lco9 TsT nwsT stsT 540 60 (.getfield 10, 3, 11267, []) := ⟨by decide +kernel, rfl, (fl_of (own := 11) (by decide +kernel)).1⟩
theorem e9_540_63 : so_E shpT ftyT clsT dat9 (prm9 F) bys9 nam9 rty9 frm9 lco9 TsT nwsT stsT 540 63 (.iload 5, 2, 0, []) := ⟨by decide +kernel, rfl⟩
theorem e9_540_65 : so_E shpT ftyT clsT dat9 (prm9 F) bys9 nam9 rty9 frm9 lco9 TsT nwsT stsT 540 65 (.invokevirtual 116, 3, 222, []) := ⟨by decide +kernel, rfl, fun z => by cases z⟩
theorem e9_540_68 : so_E shpT ftyT clsT dat9 (prm9 F) bys9 nam9 rty9 frm9 lco9 TsT nwsT stsT 540 68 (.aload_n 0, 1, 0, []) := ⟨by decide +kernel, rfl⟩
theorem e9_540_69 : so_E shpT ftyT clsT dat9 (prm9 F) bys9 nam9 rty9 frm9 lco9 TsT nwsT stsT 540 69 (.getfield 10, 3, 11267, []) := ⟨by decide +kernel, rfl, (fl_of (own := 11) (by decide +kernel)).1⟩
theorem e9_540_72 : so_E shpT ftyT clsT dat9 (prm9 F) bys9 nam9 rty9 frm9 lco9 TsT nwsT stsT 540 72 (.getfield 105, 3, 10244, []) := ⟨by decide +kernel, rfl, (fl_of (own := 11) (by decide +kernel)).1⟩
theorem e9_540_75 : so_E shpT ftyT clsT dat9 (prm9 F) bys9 nam9 rty9 frm9 lco9 TsT nwsT stsT 540 75 (.ireturn, 1, 0, []) := ⟨by decide +kernel, rfl, Or.inl ⟨rfl, rfl⟩⟩
theorem e9_541_0 : so_E shpT ftyT clsT dat9 (prm9 F) bys9 nam9 rty9 frm9 lco9 TsT nwsT stsT 541 0 (.iload_n 1, 1, 0, []) := ⟨by decide +kernel, rfl⟩
theorem e9_541_1 : so_E shpT ftyT clsT dat9 (prm9 F) bys9 nam9 rty9 frm9 lco9 TsT nwsT stsT 541 1 (.iconst 0, 1, 0, []) := ⟨by decide +kernel, rfl, rfl⟩
theorem e9_541_2 : so_E shpT ftyT clsT dat9 (prm9 F) bys9 nam9 rty9 frm9 lco9 TsT nwsT stsT 541 2 (.aload_n 0, 1, 0, []) := ⟨by decide +kernel, rfl⟩
theorem e9_541_3 : so_E shpT ftyT clsT dat9 (prm9 F) bys9 nam9 rty9 frm9 lco9 TsT nwsT stsT 541 3 (.getfield 10, 3, 11267, []) := ⟨by decide +kernel, rfl, (fl_of (own := 11) (by decide +kernel)).1⟩
theorem e9_541_6 : so_E shpT ftyT clsT dat9 (prm9 F) bys9 nam9 rty9 frm9 lco9 TsT nwsT stsT 541 6 (.getfield 105, 3, 10244, []) := ⟨by decide +kernel, rfl, (fl_of (own := 11) (by decide +kernel)).1⟩
theorem e9_541_9 : so_E shpT ftyT clsT dat9 (prm9 F) bys9 nam9 rty9 frm9 lco9 TsT nwsT stsT 541 9 (.invokestatic 120, 3, 308, []) := ⟨by decide +kernel, rfl, fun z => by cases z⟩
theorem e9_541_12 : so_E shpT ftyT clsT dat9 (prm9 F) bys9 nam9 rty9 frm9 lco9 TsT nwsT stsT 541 12 (.ifCond .eq 13, 3, 25, []) := ⟨by decide +kernel, rfl, by decide⟩
theorem e9_541_25 : so_E shpT ftyT clsT dat9 (prm9 F) bys9 nam9 rty9 frm9 lco9 TsT nwsT stsT 541 25 (.aload_n 0, 1, 0, []) := ⟨by decide +kernel, rfl⟩
theorem e9_541_26 : so_E shpT ftyT clsT dat9 (prm9 F) bys9 nam9 rty9 frm9 lco9 TsT nwsT stsT 541 26 (.getfield 10, 3, 11267, []) := ⟨by decide +kernel, rfl, (fl_of (own := 11) (by decide +kernel)).1⟩
theorem e9_541_29 : so_E shpT ftyT clsT dat9 (prm9 F) bys9 nam9 rty9 frm9 lco9 TsT nwsT stsT 541 29 (.iload_n 1, 1, 0, []) := ⟨by decide +kernel, rfl⟩
theorem e9_541_30 : so_E shpT ftyT clsT dat9 (prm9 F) bys9 nam9 rty9 frm9 lco9 TsT nwsT stsT 541 30 (.putfield 105, 3, 10244, []) := ⟨by decide +kernel, rfl, (fl_of (own := 11) (by decide +kernel)).1, sn_P9⟩
theorem e9_541_33 : so_E shpT ftyT clsT dat9 (prm9 F) bys9 nam9 rty9 frm9 lco9 TsT nwsT stsT 541 33 (.return_, 1, 0, []) := ⟨by decide +kernel, rfl, rfl⟩
theorem e9_542_0 : so_E shpT ftyT clsT dat9 (prm9 F) bys9 nam9 rty9 frm9 lco9 TsT nwsT stsT 542 0 (.iload_n 1, 1, 0, []) := ⟨by decide +kernel, rfl⟩
theorem e9_542_1 : so_E shpT ftyT clsT dat9 (prm9 F) bys9 nam9 rty9 frm9 lco9 TsT nwsT stsT 542 1 (.iload_n 2, 1, 0, []) := ⟨by decide +kernel, rfl⟩
theorem e9_542_2 : so_E shpT ftyT clsT dat9 (prm9 F) bys9 nam9 rty9 frm9 lco9 TsT nwsT stsT 542 2 (.invokestatic 175, 3, 133, []) := ⟨by decide +kernel, rfl, fun z => by cases z⟩
theorem e9_542_5 : so_E shpT ftyT clsT dat9 (prm9 F) bys9 nam9 rty9 frm9 lco9 TsT nwsT stsT 542 5 (.ifCond .ne 13, 3, 18, []) := ⟨by decide +kernel, rfl, by decide⟩
theorem e9_542_18 : so_E shpT ftyT clsT dat9 (prm9 F) bys9 nam9 rty9 frm9 lco9 TsT nwsT stsT 542 18 (.aload_n 0, 1, 0, []) := ⟨by decide +kernel, rfl⟩
theorem e9_542_19 : so_E shpT ftyT clsT dat9 (prm9 F) bys9 nam9 rty9 frm9 lco9 TsT nwsT stsT 542 19 (.getfield 31, 3, 11279, []) := ⟨by decide +kernel, rfl, (fl_of (own := 11) (by decide +kernel)).1⟩
theorem e9_542_22 : so_E shpT ftyT clsT dat9 (prm9 F) bys9 nam9 rty9 frm9 lco9 TsT nwsT stsT 542 22 (.iload_n 1, 1, 0, []) := ⟨by decide +kernel, rfl⟩
theorem e9_542_23 : so_E shpT ftyT clsT dat9 (prm9 F) bys9 nam9 rty9 frm9 lco9 TsT nwsT stsT 542 23 (.iload_n 2, 1, 0, []) := ⟨by decide +kernel, rfl⟩
theorem e9_542_24 : so_E shpT ftyT clsT dat9 (prm9 F) bys9 nam9 rty9 frm9 lco9 TsT nwsT stsT 542 24 (.invokevirtual 184, 3, 134, []) := ⟨by decide +kernel, rfl, fun z => by cases z⟩
theorem e9_542_27 : so_E shpT ftyT clsT dat9 (prm9 F) bys9 nam9 rty9 frm9 lco9 TsT nwsT stsT 542 27 (.ireturn, 1, 0, []) := ⟨by decide +kernel, rfl, Or.inl ⟨rfl, rfl⟩⟩
theorem e9_543_0 : so_E shpT ftyT clsT dat9 (prm9 F) bys9 nam9 rty9 frm9 lco9 TsT nwsT stsT 543 0 (.iload_n 1, 1, 0, []) := ⟨by decide +kernel, rfl⟩
theorem e9_543_1 : so_E shpT ftyT clsT dat9 (prm9 F) bys9 nam9 rty9 frm9 lco9 TsT nwsT stsT 543 1 (.iload_n 2, 1, 0, []) := ⟨by decide +kernel, rfl⟩
theorem e9_543_2 : so_E shpT ftyT clsT dat9 (prm9 F) bys9 nam9 rty9 frm9 lco9 TsT nwsT stsT 543 2 (.invokestatic 175, 3, 133, []) := ⟨by decide +kernel, rfl, fun z => by cases z⟩
theorem e9_543_5 : so_E shpT ftyT clsT dat9 (prm9 F) bys9 nam9 rty9 frm9 lco9 TsT nwsT stsT 543 5 (.ifCond .ne 13, 3, 18, []) := ⟨by decide +kernel, rfl, by decide⟩
theorem e9_543_18 : so_E shpT ftyT clsT dat9 (prm9 F) bys9 nam9 rty9 frm9 lco9 TsT nwsT stsT 543 18 (.aload_n 0, 1, 0, []) := ⟨by decide +kernel, rfl⟩
theorem e9_543_19 : so_E shpT ftyT clsT dat9 (prm9 F) bys9 nam9 rty9 frm9 lco9 TsT nwsT stsT 543 19 (.getfield 31, 3, 11279, []) := ⟨by decide +kernel, rfl, (fl_of (own := 11) (by decide +kernel)).1⟩
theorem e9_543_22 : so_E shpT ftyT clsT dat9 (prm9 F) bys9 nam9 rty9 frm9 lco9 TsT nwsT stsT 543 22 (.iload_n 1, 1, 0, []) := ⟨by decide +kernel, rfl⟩
theorem e9_543_23 : so_E shpT ftyT clsT dat9 (prm9 F) bys9 nam9 rty9 frm9 lco9 TsT nwsT stsT 543 23 (.iload_n 2, 1, 0, []) := ⟨by decide +kernel, rfl⟩
theorem e9_543_24 : so_E shpT ftyT clsT dat9 (prm9 F) bys9 nam9 rty9 frm9 lco9 TsT nwsT stsT 543 24 (.iload_n 3, 1, 0, []) := ⟨by decide +kernel, rfl⟩
theorem e9_543_25 : so_E shpT ftyT clsT dat9 (prm9 F) bys9 nam9 rty9 frm9 lco9 TsT nwsT stsT 543 25 (.invokevirtual 187, 3, 135, []) := ⟨by decide +kernel, rfl, fun z => by cases z⟩
theorem e9_543_28 : so_E shpT ftyT clsT dat9 (prm9 F) bys9 nam9 rty9 frm9 lco9 TsT nwsT stsT 543 28 (.ireturn, 1, 0, []) := ⟨by decide +kernel, rfl, Or.inl ⟨rfl, rfl⟩⟩
theorem e9_544_0 : so_E shpT ftyT clsT dat9 (prm9 F) bys9 nam9 rty9 frm9 lco9 TsT nwsT stsT 544 0 (.aload 6, 2, 0, []) := ⟨by decide +kernel, rfl⟩
theorem e9_544_2 : so_E shpT ftyT clsT dat9 (prm9 F) bys9 nam9 rty9 frm9 lco9 TsT nwsT stsT 544 2 (.iconst 0, 1, 0, []) := ⟨by decide +kernel, rfl, rfl⟩
theorem e9_544_3 : so_E shpT ftyT clsT dat9 (prm9 F) bys9 nam9 rty9 frm9 lco9 TsT nwsT stsT 544 3 (.aload_n 0, 1, 0, []) := ⟨by decide +kernel, rfl⟩
theorem e9_544_4 : so_E shpT ftyT clsT dat9 (prm9 F) bys9 nam9 rty9 frm9 lco9 TsT nwsT stsT 544 4 (.iload_n 1, 1, 0, []) := ⟨by decide +kernel, rfl⟩
theorem e9_544_5 : so_E shpT ftyT clsT dat9 (prm9 F) bys9 nam9 rty9 frm9 lco9 TsT nwsT stsT 544 5 (.iload_n 2, 1, 0, []) := ⟨by decide +kernel, rfl⟩
theorem e9_544_6 : so_E shpT ftyT clsT dat9 (prm9 F) bys9 nam9 rty9 frm9 lco9 TsT nwsT stsT 544 6 (.iload_n 3, 1, 0, []) := ⟨by decide +kernel, rfl⟩
theorem e9_544_7 : so_E shpT ftyT clsT dat9 (prm9 F) bys9 nam9 rty9 frm9 lco9 TsT nwsT stsT 544 7 (.iload 4, 2, 0, []) := ⟨by decide +kernel, rfl⟩
theorem e9_544_9 : so_E shpT ftyT clsT dat9 (prm9 F) bys9 nam9 rty9 frm9 lco9 TsT nwsT stsT 544 9 (.iload 5, 2, 0, []) := ⟨by decide +kernel, rfl⟩
theorem e9_544_11 : so_E shpT ftyT clsT dat9 (prm9 F) bys9 nam9 rty9 frm9 lco9 TsT nwsT stsT 544 11 (.invokevirtual 7, 3, 540, []) := ⟨by decide +kernel, rfl, fun _ => ⟨⟨⟨w9_code_540, TsT_ini 11 (by decide), by decide, by decide, by decide +kernel⟩, by decide, L9_540, w9_inst_540, w9_sel_540, 11, _, rfl, rfl, rfl⟩, ⟨Nat.le_of_ble_eq_true rfl, Nat.le_of_ble_eq_true rfl⟩⟩⟩
theorem e9_544_14 : so_E shpT ftyT clsT dat9 (prm9 F) bys9 nam9 rty9 frm9 lco9 TsT nwsT stsT 544 14 (.i2l, 1, 0, []) := ⟨by decide +kernel, rfl⟩
theorem e9_544_15 : so_E shpT ftyT clsT dat9 (prm9 F) bys9 nam9 rty9 frm9 lco9 TsT nwsT stsT 544 15 (.lastore, 1, 0, []) := ⟨by decide +kernel, rfl⟩
theorem e9_544_16 : so_E shpT ftyT clsT dat9 (prm9 F) bys9 nam9 rty9 frm9 lco9 TsT nwsT stsT 544 16 (.goto 7, 3, 23, []) := ⟨by decide +kernel, rfl, by decide⟩
theorem e9_544_23 : so_E shpT ftyT clsT dat9 (prm9 F) bys9 nam9 rty9 frm9 lco9 TsT nwsT stsT 544 23 (.iconst 0, 1, 0, []) := ⟨by decide +kernel, rfl, rfl⟩
theorem e9_544_24 : so_E shpT ftyT clsT dat9 (prm9 F) bys9 nam9 rty9 frm9 lco9 TsT nwsT stsT 544 24 (.ireturn, 1, 0, []) := ⟨by decide +kernel, rfl, Or.inl ⟨rfl, rfl⟩⟩
theorem e9_545_0 : so_E shpT ftyT clsT dat9 (prm9 F) bys9 nam9 rty9 frm9 lco9 TsT nwsT stsT 545 0 (.aload_n 0, 1, 0, []) := ⟨by decide +kernel, rfl⟩
theorem e9_545_1 : so_E shpT ftyT clsT dat9 (prm9 F) bys9 nam9 rty9 frm9 lco9 TsT nwsT stsT 545 1 (.iload_n 1, 1, 0, []) := ⟨by decide +kernel, rfl⟩
theorem e9_545_2 : so_E shpT ftyT clsT dat9 (prm9 F) bys9 nam9 rty9 frm9 lco9 TsT nwsT stsT 545 2 (.invokevirtual 15, 3, 541, []) := ⟨by decide +kernel, rfl, fun _ => ⟨⟨⟨w9_code_541, TsT_ini 11 (by decide), by decide, by decide, by decide +kernel⟩, by decide, L9_541, w9_inst_541, w9_sel_541, 11, _, rfl, rfl, rfl⟩, ⟨Nat.le_of_ble_eq_true rfl, Nat.le_of_ble_eq_true rfl⟩⟩⟩
theorem e9_545_5 : so_E shpT ftyT clsT dat9 (prm9 F) bys9 nam9 rty9 frm9 lco9 TsT nwsT stsT 545 5 (.goto 6, 3, 11, []) := ⟨by decide +kernel, rfl, by decide⟩
theorem e9_545_11 : so_E shpT ftyT clsT dat9 (prm9 F) bys9 nam9 rty9 frm9 lco9 TsT nwsT stsT 545 11 (.iconst 0, 1, 0, []) := ⟨by decide +kernel, rfl, rfl⟩
theorem e9_545_12 : so_E shpT ftyT clsT dat9 (prm9 F) bys9 nam9 rty9 frm9 lco9 TsT nwsT stsT 545 12 (.ireturn, 1, 0, []) := ⟨by decide +kernel, rfl, Or.inl ⟨rfl, rfl⟩⟩
theorem e9_546_0 : so_E shpT ftyT clsT dat9 (prm9 F) bys9 nam9 rty9 frm9 lco9 TsT nwsT stsT 546 0 (.aload_n 3, 1, 0, []) := ⟨by decide +kernel, rfl⟩
theorem e9_546_1 : so_E shpT ftyT clsT dat9 (prm9 F) bys9 nam9 rty9 frm9 lco9 TsT nwsT stsT 546 1 (.iconst 0, 1, 0, []) := ⟨by decide +kernel, rfl, rfl⟩
theorem e9_546_2 : so_E shpT ftyT clsT dat9 (prm9 F) bys9 nam9 rty9 frm9 lco9 TsT nwsT stsT 546 2 (.aload_n 0, 1, 0, []) := ⟨by decide +kernel, rfl⟩
theorem e9_546_3 : so_E shpT ftyT clsT dat9 (prm9 F) bys9 nam9 rty9 frm9 lco9 TsT nwsT stsT 546 3 (.iload_n 1, 1, 0, []) := ⟨by decide +kernel, rfl⟩
theorem e9_546_4 : so_E shpT ftyT clsT dat9 (prm9 F) bys9 nam9 rty9 frm9 lco9 TsT nwsT stsT 546 4 (.iload_n 2, 1, 0, []) := ⟨by decide +kernel, rfl⟩
theorem e9_546_5 : so_E shpT ftyT clsT dat9 (prm9 F) bys9 nam9 rty9 frm9 lco9 TsT nwsT stsT 546 5 (.invokevirtual 21, 3, 542, []) := ⟨by decide +kernel, rfl, fun _ => ⟨⟨⟨w9_code_542, TsT_ini 11 (by decide), by decide, by decide, by decide +kernel⟩, by decide, L9_542, w9_inst_542, w9_sel_542, 11, _, rfl, rfl, rfl⟩, ⟨Nat.le_of_ble_eq_true rfl, Nat.le_of_ble_eq_true rfl⟩⟩⟩
theorem e9_546_8 : so_E shpT ftyT clsT dat9 (prm9 F) bys9 nam9 rty9 frm9 lco9 TsT nwsT stsT 546 8 (.i2l, 1, 0, []) := ⟨by decide +kernel, rfl⟩
theorem e9_546_9 : so_E shpT ftyT clsT dat9 (prm9 F) bys9 nam9 rty9 frm9 lco9 TsT nwsT stsT 546 9 (.lastore, 1, 0, []) := ⟨by decide +kernel, rfl⟩
theorem e9_546_10 : so_E shpT ftyT clsT dat9 (prm9 F) bys9 nam9 rty9 frm9 lco9 TsT nwsT stsT 546 10 (.goto 7, 3, 17, []) := ⟨by decide +kernel, rfl, by decide⟩
theorem e9_546_17 : so_E shpT ftyT clsT dat9 (prm9 F) bys9 nam9 rty9 frm9 lco9 TsT nwsT stsT 546 17 (.iconst 0, 1, 0, []) := ⟨by decide +kernel, rfl, rfl⟩
theorem e9_546_18 : so_E shpT ftyT clsT dat9 (prm9 F) bys9 nam9 rty9 frm9 lco9 TsT nwsT stsT 546 18 (.ireturn, 1, 0, []) := ⟨by decide +kernel, rfl, Or.inl ⟨rfl, rfl⟩⟩
theorem e9_547_0 : so_E shpT ftyT clsT dat9 (prm9 F) bys9 nam9 rty9 frm9 lco9 TsT nwsT stsT 547 0 (.aload 4, 2, 0, []) := ⟨by decide +kernel, rfl⟩
theorem e9_547_2 : so_E shpT ftyT clsT dat9 (prm9 F) bys9 nam9 rty9 frm9 lco9 TsT nwsT stsT 547 2 (.iconst 0, 1, 0, []) := ⟨by decide +kernel, rfl, rfl⟩
theorem e9_547_3 : so_E shpT ftyT clsT dat9 (prm9 F) bys9 nam9 rty9 frm9 lco9 TsT nwsT stsT 547 3 (.aload_n 0, 1, 0, []) := ⟨by decide +kernel, rfl⟩
theorem e9_547_4 : so_E shpT ftyT clsT dat9 (prm9 F) bys9 nam9 rty9 frm9 lco9 TsT nwsT stsT 547 4 (.iload_n 1, 1, 0, []) := ⟨by decide +kernel, rfl⟩
theorem e9_547_5 : so_E shpT ftyT clsT dat9 (prm9 F) bys9 nam9 rty9 frm9 lco9 TsT nwsT stsT 547 5 (.iload_n 2, 1, 0, []) := ⟨by decide +kernel, rfl⟩
theorem e9_547_6 : so_E shpT ftyT clsT dat9 (prm9 F) bys9 nam9 rty9 frm9 lco9 TsT nwsT stsT 547 6 (.iload_n 3, 1, 0, []) := ⟨by decide +kernel, rfl⟩
theorem e9_547_7 : so_E shpT ftyT clsT dat9 (prm9 F) bys9 nam9 rty9 frm9 lco9 TsT nwsT stsT 547 7 (.invokevirtual 27, 3, 543, []) := ⟨by decide +kernel, rfl, fun _ => ⟨⟨⟨w9_code_543, TsT_ini 11 (by decide), by decide, by decide, by decide +kernel⟩, by decide, L9_543, w9_inst_543, w9_sel_543, 11, _, rfl, rfl, rfl⟩, ⟨Nat.le_of_ble_eq_true rfl, Nat.le_of_ble_eq_true rfl⟩⟩⟩
theorem e9_547_10 : so_E shpT ftyT clsT dat9 (prm9 F) bys9 nam9 rty9 frm9 lco9 TsT nwsT stsT 547 10 (.i2l, 1, 0, []) := ⟨by decide +kernel, rfl⟩
theorem e9_547_11 : so_E shpT ftyT clsT dat9 (prm9 F) bys9 nam9 rty9 frm9 lco9 TsT nwsT stsT 547 11 (.lastore, 1, 0, []) := ⟨by decide +kernel, rfl⟩
theorem e9_547_12 : so_E shpT ftyT clsT dat9 (prm9 F) bys9 nam9 rty9 frm9 lco9 TsT nwsT stsT 547 12 (.goto 7, 3, 19, []) := ⟨by decide +kernel, rfl, by decide⟩
theorem e9_547_19 : so_E shpT ftyT clsT dat9 (prm9 F) bys9 nam9 rty9 frm9 lco9 TsT nwsT stsT 547 19 (.iconst 0, 1, 0, []) := ⟨by decide +kernel, rfl, rfl⟩
theorem e9_547_20 : so_E shpT ftyT clsT dat9 (prm9 F) bys9 nam9 rty9 frm9 lco9 TsT nwsT stsT 547 20 (.ireturn, 1, 0, []) := ⟨by decide +kernel, rfl, Or.inl ⟨rfl, rfl⟩⟩
theorem cv9_222 : sn_CV clsT datT bysT namT rtyT TsT (cnm 11) 116 222 := ⟨⟨TsT_code 222 (by decide +kernel), TsT_ini 10 (by decide), by decide, by decide, by decide +kernel⟩, by decide, TsT_o _ (List.mem_append_right _ (wa_x_9 _ (wm_x_9 196 (by decide) rfl rfl))), TsT_o _ (List.mem_append_right _ (wa_x_9 _ (wm_x_9 197 (by decide) rfl rfl))), TsT_o _ (List.mem_append_right _ (wa_x_9 _ (wm_x_9 198 (by decide) rfl rfl))), 10, _, rfl, rfl, rfl⟩
theorem cv9_134 : sn_CV clsT datT bysT namT rtyT TsT (cnm 11) 184 134 := ⟨⟨TsT_code 134 (by decide +kernel), TsT_ini 6 (by decide), by decide, by decide, by decide +kernel⟩, by decide, TsT_o _ (List.mem_append_right _ (wa_x_10 _ (wm_x_10 9 (by decide) rfl rfl))), TsT_inst 134 (by decide +kernel), TsT_sel 134 (by decide +kernel), 6, _, rfl, rfl, rfl⟩
theorem cv9_135 : sn_CV clsT datT bysT namT rtyT TsT (cnm 11) 187 135 := ⟨⟨TsT_code 135 (by decide +kernel), TsT_ini 6 (by decide), by decide, by decide, by decide +kernel⟩, by decide, TsT_o _ (List.mem_append_right _ (wa_x_10 _ (wm_x_10 17 (by decide) rfl rfl))), TsT_o _ (List.mem_append_right _ (wa_x_10 _ (wm_x_10 18 (by decide) rfl rfl))), TsT_o _ (List.mem_append_right _ (wa_x_10 _ (wm_x_10 19 (by decide) rfl rfl))), 6, _, rfl, rfl, rfl⟩
theorem cs9_308 : sn_CS datT bysT namT rtyT TsT nwsT (cnm 11) 120 308 := ⟨⟨TsT_code 308 (by decide +kernel), TsT_ini 11 (by decide), by decide, by decide, by decide +kernel⟩, TsT_stat 308 (by decide +kernel), Or.inl (TsT_lk (11, 120, 308) (by decide +kernel))⟩
theorem cs9_133 : sn_CS datT bysT namT rtyT TsT nwsT (cnm 11) 175 133 := ⟨⟨TsT_code 133 (by decide +kernel), TsT_ini 6 (by decide), by decide, by decide, by decide +kernel⟩, TsT_stat 133 (by decide +kernel), Or.inl (TsT_o _ (List.mem_append_right _ (wa_x_9 _ (wm_x_9 232 (by decide) rfl rfl))))⟩
theorem r9_540 : ∀ row ∈ k9_X11_feed, ∀ e ∈ row, so_E shpT ftyT clsT dat9 (prm9 F) bys9 nam9 rty9 frm9 lco9 TsT nwsT stsT 540 e.1 e.2 := List.forall_mem_cons.mpr ⟨(List.forall_mem_cons.mpr ⟨e9_540_0 F, List.forall_mem_cons.mpr ⟨e9_540_1 F, List.forall_mem_cons.mpr ⟨e9_540_4 F, List.forall_mem_cons.mpr ⟨e9_540_7 F, List.forall_mem_cons.mpr ⟨e9_540_9 F, List.forall_mem_cons.mpr ⟨e9_540_10 F, List.forall_mem_cons.mpr ⟨e9_540_13 F, List.forall_mem_nil _⟩⟩⟩⟩⟩⟩⟩), List.forall_mem_cons.mpr ⟨(List.forall_mem_cons.mpr ⟨e9_540_26 F, List.forall_mem_cons.mpr ⟨e9_540_27 F, List.forall_mem_cons.mpr ⟨e9_540_30 F, List.forall_mem_cons.mpr ⟨e9_540_31 F, List.forall_mem_nil _⟩⟩⟩⟩), List.forall_mem_cons.mpr ⟨(List.forall_mem_cons.mpr ⟨e9_540_34 F, List.forall_mem_cons.mpr ⟨e9_540_35 F, List.forall_mem_cons.mpr ⟨e9_540_38 F, List.forall_mem_cons.mpr ⟨e9_540_39 F, List.forall_mem_cons.mpr ⟨e9_540_42 F, List.forall_mem_cons.mpr ⟨e9_540_43 F, List.forall_mem_cons.mpr ⟨e9_540_46 F, List.forall_mem_cons.mpr ⟨e9_540_47 F, List.forall_mem_nil _⟩⟩⟩⟩⟩⟩⟩⟩), List.forall_mem_cons.mpr ⟨(List.forall_mem_cons.mpr ⟨e9_540_50 F, List.forall_mem_cons.mpr ⟨e9_540_51 F, List.forall_mem_cons.mpr ⟨e9_540_54 F, List.forall_mem_cons.mpr ⟨e9_540_56 F, List.forall_mem_cons.mpr ⟨e9_540_59 F, List.forall_mem_cons.mpr ⟨e9_540_60 F, List.forall_mem_cons.mpr ⟨e9_540_63 F, List.forall_mem_nil _⟩⟩⟩⟩⟩⟩⟩), List.forall_mem_cons.mpr ⟨(List.forall_mem_cons.mpr ⟨e9_540_65 F, List.forall_mem_cons.mpr ⟨e9_540_68 F, List.forall_mem_cons.mpr ⟨e9_540_69 F, List.forall_mem_cons.mpr ⟨e9_540_72 F, List.forall_mem_cons.mpr ⟨e9_540_75 F, List.forall_mem_nil _⟩⟩⟩⟩⟩), List.forall_mem_nil _⟩⟩⟩⟩⟩
theorem r9_541 : ∀ row ∈ k9_X11_end, ∀ e ∈ row, so_E shpT ftyT clsT dat9 (prm9 F) bys9 nam9 rty9 frm9 lco9 TsT nwsT stsT 541 e.1 e.2 := List.forall_mem_cons.mpr ⟨(List.forall_mem_cons.mpr ⟨e9_541_0 F, List.forall_mem_cons.mpr ⟨e9_541_1 F, List.forall_mem_cons.mpr ⟨e9_541_2 F, List.forall_mem_cons.mpr ⟨e9_541_3 F, List.forall_mem_cons.mpr ⟨e9_541_6 F, List.forall_mem_cons.mpr ⟨e9_541_9 F, List.forall_mem_cons.mpr ⟨e9_541_12 F, List.forall_mem_nil _⟩⟩⟩⟩⟩⟩⟩), List.forall_mem_cons.mpr ⟨(List.forall_mem_cons.mpr ⟨e9_541_25 F, List.forall_mem_cons.mpr ⟨e9_541_26 F, List.forall_mem_cons.mpr ⟨e9_541_29 F, List.forall_mem_cons.mpr ⟨e9_541_30 F, List.forall_mem_nil _⟩⟩⟩⟩), List.forall_mem_cons.mpr ⟨(List.forall_mem_cons.mpr ⟨e9_541_33 F, List.forall_mem_nil _⟩), List.forall_mem_nil _⟩⟩⟩
theorem r9_542 : ∀ row ∈ k9_X11_octet, ∀ e ∈ row, so_E shpT ftyT clsT dat9 (prm9 F) bys9 nam9 rty9 frm9 lco9 TsT nwsT stsT 542 e.1 e.2 := List.forall_mem_cons.mpr ⟨(List.forall_mem_cons.mpr ⟨e9_542_0 F, List.forall_mem_cons.mpr ⟨e9_542_1 F, List.forall_mem_cons.mpr ⟨e9_542_2 F, List.forall_mem_cons.mpr ⟨e9_542_5 F, List.forall_mem_nil _⟩⟩⟩⟩), List.forall_mem_cons.mpr ⟨(List.forall_mem_cons.mpr ⟨e9_542_18 F, List.forall_mem_cons.mpr ⟨e9_542_19 F, List.forall_mem_cons.mpr ⟨e9_542_22 F, List.forall_mem_cons.mpr ⟨e9_542_23 F, List.forall_mem_cons.mpr ⟨e9_542_24 F, List.forall_mem_cons.mpr ⟨e9_542_27 F, List.forall_mem_nil _⟩⟩⟩⟩⟩⟩), List.forall_mem_nil _⟩⟩
theorem r9_543 : ∀ row ∈ k9_X11_poke, ∀ e ∈ row, so_E shpT ftyT clsT dat9 (prm9 F) bys9 nam9 rty9 frm9 lco9 TsT nwsT stsT 543 e.1 e.2 := List.forall_mem_cons.mpr ⟨(List.forall_mem_cons.mpr ⟨e9_543_0 F, List.forall_mem_cons.mpr ⟨e9_543_1 F, List.forall_mem_cons.mpr ⟨e9_543_2 F, List.forall_mem_cons.mpr ⟨e9_543_5 F, List.forall_mem_nil _⟩⟩⟩⟩), List.forall_mem_cons.mpr ⟨(List.forall_mem_cons.mpr ⟨e9_543_18 F, List.forall_mem_cons.mpr ⟨e9_543_19 F, List.forall_mem_cons.mpr ⟨e9_543_22 F, List.forall_mem_cons.mpr ⟨e9_543_23 F, List.forall_mem_cons.mpr ⟨e9_543_24 F, List.forall_mem_cons.mpr ⟨e9_543_25 F, List.forall_mem_cons.mpr ⟨e9_543_28 F, List.forall_mem_nil _⟩⟩⟩⟩⟩⟩⟩), List.forall_mem_nil _⟩⟩
theorem r9_544 : ∀ row ∈ k9_L_feed, ∀ e ∈ row, so_E shpT ftyT clsT dat9 (prm9 F) bys9 nam9 rty9 frm9 lco9 TsT nwsT stsT 544 e.1 e.2 := List.forall_mem_cons.mpr ⟨(List.forall_mem_cons.mpr ⟨e9_544_0 F, List.forall_mem_cons.mpr ⟨e9_544_2 F, List.forall_mem_cons.mpr ⟨e9_544_3 F, List.forall_mem_cons.mpr ⟨e9_544_4 F, List.forall_mem_cons.mpr ⟨e9_544_5 F, List.forall_mem_cons.mpr ⟨e9_544_6 F, List.forall_mem_cons.mpr ⟨e9_544_7 F, List.forall_mem_cons.mpr ⟨e9_544_9 F, List.forall_mem_cons.mpr ⟨e9_544_11 F, List.forall_mem_cons.mpr ⟨e9_544_14 F, List.forall_mem_cons.mpr ⟨e9_544_15 F, List.forall_mem_nil _⟩⟩⟩⟩⟩⟩⟩⟩⟩⟩⟩), List.forall_mem_cons.mpr ⟨(List.forall_mem_cons.mpr ⟨e9_544_16 F, List.forall_mem_cons.mpr ⟨e9_544_23 F, List.forall_mem_cons.mpr ⟨e9_544_24 F, List.forall_mem_nil _⟩⟩⟩), List.forall_mem_nil _⟩⟩
theorem r9_545 : ∀ row ∈ k9_L_end, ∀ e ∈ row, so_E shpT ftyT clsT dat9 (prm9 F) bys9 nam9 rty9 frm9 lco9 TsT nwsT stsT 545 e.1 e.2 := List.forall_mem_cons.mpr ⟨(List.forall_mem_cons.mpr ⟨e9_545_0 F, List.forall_mem_cons.mpr ⟨e9_545_1 F, List.forall_mem_cons.mpr ⟨e9_545_2 F, List.forall_mem_cons.mpr ⟨e9_545_5 F, List.forall_mem_cons.mpr ⟨e9_545_11 F, List.forall_mem_cons.mpr ⟨e9_545_12 F, List.forall_mem_nil _⟩⟩⟩⟩⟩⟩), List.forall_mem_nil _⟩
theorem r9_546 : ∀ row ∈ k9_L_octet, ∀ e ∈ row, so_E shpT ftyT clsT dat9 (prm9 F) bys9 nam9 rty9 frm9 lco9 TsT nwsT stsT 546 e.1 e.2 := List.forall_mem_cons.mpr ⟨(List.forall_mem_cons.mpr ⟨e9_546_0 F, List.forall_mem_cons.mpr ⟨e9_546_1 F, List.forall_mem_cons.mpr ⟨e9_546_2 F, List.forall_mem_cons.mpr ⟨e9_546_3 F, List.forall_mem_cons.mpr ⟨e9_546_4 F, List.forall_mem_cons.mpr ⟨e9_546_5 F, List.forall_mem_cons.mpr ⟨e9_546_8 F, List.forall_mem_cons.mpr ⟨e9_546_9 F, List.forall_mem_cons.mpr ⟨e9_546_10 F, List.forall_mem_nil _⟩⟩⟩⟩⟩⟩⟩⟩⟩), List.forall_mem_cons.mpr ⟨(List.forall_mem_cons.mpr ⟨e9_546_17 F, List.forall_mem_cons.mpr ⟨e9_546_18 F, List.forall_mem_nil _⟩⟩), List.forall_mem_nil _⟩⟩
theorem r9_547 : ∀ row ∈ k9_L_poke, ∀ e ∈ row, so_E shpT ftyT clsT dat9 (prm9 F) bys9 nam9 rty9 frm9 lco9 TsT nwsT stsT 547 e.1 e.2 := List.forall_mem_cons.mpr ⟨(List.forall_mem_cons.mpr ⟨e9_547_0 F, List.forall_mem_cons.mpr ⟨e9_547_2 F, List.forall_mem_cons.mpr ⟨e9_547_3 F, List.forall_mem_cons.mpr ⟨e9_547_4 F, List.forall_mem_cons.mpr ⟨e9_547_5 F, List.forall_mem_cons.mpr ⟨e9_547_6 F, List.forall_mem_cons.mpr ⟨e9_547_7 F, List.forall_mem_cons.mpr ⟨e9_547_10 F, List.forall_mem_cons.mpr ⟨e9_547_11 F, List.forall_mem_cons.mpr ⟨e9_547_12 F, List.forall_mem_nil _⟩⟩⟩⟩⟩⟩⟩⟩⟩⟩), List.forall_mem_cons.mpr ⟨(List.forall_mem_cons.mpr ⟨e9_547_19 F, List.forall_mem_cons.mpr ⟨e9_547_20 F, List.forall_mem_nil _⟩⟩), List.forall_mem_nil _⟩⟩
