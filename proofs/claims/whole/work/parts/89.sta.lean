/-! ===== LEVEL 1: the world at the start ===== -/
theorem lw_ls_DIVISOR : (Jvm.Cond.laysStatic "PostHouse$Bars" "DIVISOR" "[I") ∈ lw_tbl := tq_mem.2.2.2.2.2.2.2.1 _ (by rw [tq_ok_8]; exact List.mem_of_getElem? (i := 67) rfl)
theorem lw_ls_LOGS : (Jvm.Cond.laysStatic "PostHouse$Bars" "LOGS" "[I") ∈ lw_tbl := tq_mem.2.2.2.2.2.2.2.1 _ (by rw [tq_ok_8]; exact List.mem_of_getElem? (i := 74) rfl)
theorem lw_ls_POWERS : (Jvm.Cond.laysStatic "PostHouse$Bars" "POWERS" "[I") ∈ lw_tbl := tq_mem.2.2.2.2.2.2.2.1 _ (by rw [tq_ok_8]; exact List.mem_of_getElem? (i := 72) rfl)
theorem lw_ls_ARGUMENTS : (Jvm.Cond.laysStatic "PostHouse$Log" "ARGUMENTS" "[I") ∈ lw_tbl := tq_mem.2.2.2.1 _ (by rw [tq_ok_4]; exact List.mem_of_getElem? (i := 36) rfl)
theorem lw_ls_SYMBOLS : (Jvm.Cond.laysStatic "PostHouse$Sheet" "SYMBOLS" "[I") ∈ lw_tbl := tq_mem.2.2.2.2.1 _ (by rw [tq_ok_5]; exact List.mem_of_getElem? (i := 94) rfl)
theorem lw_ls_CS : (Jvm.Cond.laysStatic "java/lang/String" "COMPACT_STRINGS" "Z") ∈ lw_tbl := tq_mem.2.2.2.1 _ (by rw [tq_ok_4]; exact List.mem_of_getElem? (i := 82) rfl)
theorem lw_ls_SF : (Jvm.Cond.laysStatic "jdk/internal/util/Preconditions" "SIOOBE_FORMATTER" "Ljava/util/function/BiFunction;") ∈ lw_tbl := tq_mem.2.2.2.1 _ (by rw [tq_ok_4]; exact List.mem_of_getElem? (i := 123) rfl)
theorem lw_ls_US : (Jvm.Cond.laysStatic "java/lang/Throwable" "UNASSIGNED_STACK" "[Ljava/lang/StackTraceElement;") ∈ lw_tbl := tq_mem.2.2.2.2.2.2.2.2.1 _ (by rw [tq_ok_9]; exact List.mem_of_getElem? (i := 156) rfl)
theorem lw_ls_SS : (Jvm.Cond.laysStatic "java/lang/Throwable" "SUPPRESSED_SENTINEL" "Ljava/util/List;") ∈ lw_tbl := tq_mem.2.2.2.2.2.2.2.2.1 _ (by rw [tq_ok_9]; exact List.mem_of_getElem? (i := 158) rfl)
theorem lw_sr_73 : (Jvm.Cond.stringRef "PostHouse$Book" (73 : Nat) "P#,@;S#,@,#,#,#;R#,@,#,#,#;H#,@,#;") ∈ lw_tbl := tq_mem.2.2.2.1 _ (by rw [tq_ok_4]; exact List.mem_of_getElem? (i := 60) rfl)
theorem lw_sr_108 : (Jvm.Cond.stringRef "PostHouse$Money" (108 : Nat) "K#,#=#;V#=#;") ∈ lw_tbl := tq_mem.2.2.2.2.2.2.1 _ (by rw [tq_ok_7]; exact List.mem_of_getElem? (i := 44) rfl)
theorem lw_ao : (Jvm.Cond.arrayOver (Jvm.ClassFile.FieldType.array Jvm.ClassFile.FieldType.int)) ∈ lw_tbl := tq_mem.1 _ (by rw [tq_ok_1]; exact List.mem_of_getElem? (i := 159) rfl)
theorem lw_nst_0 : (Jvm.Cond.methodLinkNest "PostHouse$Book" (118 : Nat) ({ cls := "PostHouse", name := "outside", desc := "(III)Z" } : Jvm.MethodName) "PostHouse") ∈ lw_tbl := tq_mem.2.2.2.1 _ (by rw [tq_ok_4]; exact List.mem_of_getElem? (i := 197) rfl)
theorem lw_nst_1 : (Jvm.Cond.methodLinkNest "PostHouse$Chronicle" (66 : Nat) ({ cls := "PostHouse", name := "outside", desc := "(III)Z" } : Jvm.MethodName) "PostHouse") ∈ lw_tbl := tq_mem.2.2.2.2.2.2.1 _ (by rw [tq_ok_7]; exact List.mem_of_getElem? (i := 96) rfl)
theorem lw_nst_2 : (Jvm.Cond.methodLinkNest "PostHouse$Items" (47 : Nat) ({ cls := "PostHouse", name := "outside", desc := "(III)Z" } : Jvm.MethodName) "PostHouse") ∈ lw_tbl := tq_mem.2.2.2.2.1 _ (by rw [tq_ok_5]; exact List.mem_of_getElem? (i := 149) rfl)
theorem lw_nst_3 : (Jvm.Cond.methodLinkNest "PostHouse$Lines" (58 : Nat) ({ cls := "PostHouse", name := "outside", desc := "(III)Z" } : Jvm.MethodName) "PostHouse") ∈ lw_tbl := tq_mem.2.2.2.2.2.1 _ (by rw [tq_ok_6]; exact List.mem_of_getElem? (i := 98) rfl)
theorem lw_nst_4 : (Jvm.Cond.methodLinkNest "PostHouse$Lines" (110 : Nat) ({ cls := "PostHouse", name := "without", desc := "([III)I" } : Jvm.MethodName) "PostHouse") ∈ lw_tbl := tq_mem.2.2.2.2.2.2.1 _ (by rw [tq_ok_7]; exact List.mem_of_getElem? (i := 12) rfl)
theorem lw_nst_5 : (Jvm.Cond.methodLinkNest "PostHouse$Lockers" (42 : Nat) ({ cls := "PostHouse", name := "outside", desc := "(III)Z" } : Jvm.MethodName) "PostHouse") ∈ lw_tbl := tq_mem.2.2.2.2.2.1 _ (by rw [tq_ok_6]; exact List.mem_of_getElem? (i := 213) rfl)
theorem lw_nst_6 : (Jvm.Cond.methodLinkNest "PostHouse$Log" (52 : Nat) ({ cls := "PostHouse", name := "outside", desc := "(III)Z" } : Jvm.MethodName) "PostHouse") ∈ lw_tbl := tq_mem.2.2.1 _ (by rw [tq_ok_3]; exact List.mem_of_getElem? (i := 186) rfl)
theorem lw_nst_7 : (Jvm.Cond.methodLinkNest "PostHouse$Money" (67 : Nat) ({ cls := "PostHouse", name := "outside", desc := "(III)Z" } : Jvm.MethodName) "PostHouse") ∈ lw_tbl := tq_mem.2.2.2.2.1 _ (by rw [tq_ok_5]; exact List.mem_of_getElem? (i := 148) rfl)
theorem lw_nst_8 : (Jvm.Cond.methodLinkNest "PostHouse$Rounds" (89 : Nat) ({ cls := "PostHouse", name := "outside", desc := "(III)Z" } : Jvm.MethodName) "PostHouse") ∈ lw_tbl := tq_mem.2.2.2.2.1 _ (by rw [tq_ok_5]; exact List.mem_of_getElem? (i := 210) rfl)
theorem lw_nst_9 : (Jvm.Cond.methodLinkNest "PostHouse$Rounds" (195 : Nat) ({ cls := "PostHouse", name := "without", desc := "([III)I" } : Jvm.MethodName) "PostHouse") ∈ lw_tbl := tq_mem.2.2.2.2.2.2.1 _ (by rw [tq_ok_7]; exact List.mem_of_getElem? (i := 19) rfl)
theorem lw_nst_10 : (Jvm.Cond.methodLinkNest "PostHouse$Sheet" (66 : Nat) ({ cls := "PostHouse", name := "outside", desc := "(III)Z" } : Jvm.MethodName) "PostHouse") ∈ lw_tbl := tq_mem.2.2.2.2.1 _ (by rw [tq_ok_5]; exact List.mem_of_getElem? (i := 28) rfl)
theorem nwsT_in : ∀ q ∈ nwsT, Cond.methodLinkNest q.1 q.2.1 q.2.2.1 q.2.2.2 ∈ lw_tbl := by
  intro q hq
  simp only [nwsT, wl_nst, List.map_cons, List.map_nil, List.mem_cons, List.not_mem_nil, or_false] at hq
  rcases hq with rfl | rfl | rfl | rfl | rfl | rfl | rfl | rfl | rfl | rfl | rfl
  · exact lw_nst_0
  · exact lw_nst_1
  · exact lw_nst_2
  · exact lw_nst_3
  · exact lw_nst_4
  · exact lw_nst_5
  · exact lw_nst_6
  · exact lw_nst_7
  · exact lw_nst_8
  · exact lw_nst_9
  · exact lw_nst_10
noncomputable def lvs : List Cond := flatC (Jvm.Cond.and given_1 narrow_1)
def l1000 : List Int := [13, 12, 8, 7]
def l1001 : List Int := [0, 0, 1, 4, 2, 8, 5, 10, 3, 14, 9, 7, 6, 13, 11, 12]
def l1002 : List Int := [1, 2, 4, 8, 3, 6, 12, 11, 5, 10, 7, 14, 15, 13, 9]
def l1003 : List Int := [0, 0, 4, 3, 1, 6, 2, 1, 3, 2, 4, 3, 2, 1, 1, 1, 5, 2, 2, 2, 1, 1, 4, 1, 1, 2, 4, 2, 1, 1, 2, 0, 1, 3, 3, 2, 2, 2, 4, 3, 1]
def l1004 : List Int := [31599, 11415, 29671, 29647, 23497, 31183, 31215, 29266, 31727, 31695, 11245, 27566, 14627, 27502, 31143, 31140, 14699, 23533, 29847, 4714, 23469, 18727, 24557, 31597, 11114, 27556, 11123, 27565, 14478, 29842, 23407, 23402, 23549, 23213, 23186, 29351]
/-- what the static rows and the script hold -/
def stcT (xs : Nat → Int32) (L : Nat) (g j : Nat) : Int32 := bif Nat.beq g 1000 then cI (l1000.getD j 0) else bif Nat.beq g 1001 then cI (l1001.getD j 0) else bif Nat.beq g 1002 then cI (l1002.getD j 0) else bif Nat.beq g 1003 then cI (l1003.getD j 0) else bif Nat.beq g 1004 then cI (l1004.getD j 0) else bif Nat.beq g 1020 then xs j else bif Nat.beq g 1021 then (bif Nat.beq j 0 then nI L else 0) else 0
theorem lv_1000 : lvs[93]? = some (.arrayOf (.static "PostHouse$Bars" "DIVISOR" "[I") .int) ∧ lvs[94]? = some (.eq (.length (.static "PostHouse$Bars" "DIVISOR" "[I")) (.int (Int32.ofNat 4))) := ⟨rfl, rfl⟩
theorem lw_1000 : (lvs.drop 95).take 4 = (List.range 4).map fun j => Cond.eq (.elem (.static "PostHouse$Bars" "DIVISOR" "[I") (.int (Int32.ofNat j))) (.int (cI (l1000.getD j 0))) := rfl
theorem lv_1001 : lvs[118]? = some (.arrayOf (.static "PostHouse$Bars" "LOGS" "[I") .int) ∧ lvs[119]? = some (.eq (.length (.static "PostHouse$Bars" "LOGS" "[I")) (.int (Int32.ofNat 16))) := ⟨rfl, rfl⟩
theorem lw_1001 : (lvs.drop 120).take 16 = (List.range 16).map fun j => Cond.eq (.elem (.static "PostHouse$Bars" "LOGS" "[I") (.int (Int32.ofNat j))) (.int (cI (l1001.getD j 0))) := rfl
theorem lv_1002 : lvs[100]? = some (.arrayOf (.static "PostHouse$Bars" "POWERS" "[I") .int) ∧ lvs[101]? = some (.eq (.length (.static "PostHouse$Bars" "POWERS" "[I")) (.int (Int32.ofNat 15))) := ⟨rfl, rfl⟩
theorem lw_1002 : (lvs.drop 102).take 15 = (List.range 15).map fun j => Cond.eq (.elem (.static "PostHouse$Bars" "POWERS" "[I") (.int (Int32.ofNat j))) (.int (cI (l1002.getD j 0))) := rfl
theorem lv_1003 : lvs[5]? = some (.arrayOf (.static "PostHouse$Log" "ARGUMENTS" "[I") .int) ∧ lvs[6]? = some (.eq (.length (.static "PostHouse$Log" "ARGUMENTS" "[I")) (.int (Int32.ofNat 41))) := ⟨rfl, rfl⟩
theorem lw_1003 : (lvs.drop 7).take 41 = (List.range 41).map fun j => Cond.eq (.elem (.static "PostHouse$Log" "ARGUMENTS" "[I") (.int (Int32.ofNat j))) (.int (cI (l1003.getD j 0))) := rfl
theorem lv_1004 : lvs[54]? = some (.arrayOf (.static "PostHouse$Sheet" "SYMBOLS" "[I") .int) ∧ lvs[55]? = some (.eq (.length (.static "PostHouse$Sheet" "SYMBOLS" "[I")) (.int (Int32.ofNat 36))) := ⟨rfl, rfl⟩
theorem lw_1004 : (lvs.drop 56).take 36 = (List.range 36).map fun j => Cond.eq (.elem (.static "PostHouse$Sheet" "SYMBOLS" "[I") (.int (Int32.ofNat j))) (.int (cI (l1004.getD j 0))) := rfl
theorem lv_cs : lvs[48]? = some (.eq (.static "java/lang/String" "COMPACT_STRINGS" "Z") (.int 1)) ∧ lvs[49]? = some (.isRef (.static "jdk/internal/util/Preconditions" "SIOOBE_FORMATTER" "Ljava/util/function/BiFunction;")) := ⟨rfl, rfl⟩
theorem lv_tB : lvs[183]? = some (.exactly (.string "PostHouse$Book" 73) "java/lang/String") ∧ lvs[184]? = some (.eq (.field (.string "PostHouse$Book" 73) "java/lang/String" "coder" "B") (.int 0)) ∧ lvs[185]? = some (.arrayOf (.field (.string "PostHouse$Book" 73) "java/lang/String" "value" "[B") .byte) ∧ lvs[186]? = some (.eq (.length (.field (.string "PostHouse$Book" 73) "java/lang/String" "value" "[B")) (.int (Int32.ofNat 34))) := ⟨rfl, rfl, rfl, rfl⟩
theorem lw_tB : (lvs.drop 187).take 34 = (List.range 34).map fun j => Cond.eq (.elem (.field (.string "PostHouse$Book" 73) "java/lang/String" "value" "[B") (.int (Int32.ofNat j))) (.int (cI ((txtB.getD j 0 : Nat) : Int))) := rfl
theorem lv_tM : lvs[221]? = some (.exactly (.string "PostHouse$Money" 108) "java/lang/String") ∧ lvs[222]? = some (.eq (.field (.string "PostHouse$Money" 108) "java/lang/String" "coder" "B") (.int 0)) ∧ lvs[223]? = some (.arrayOf (.field (.string "PostHouse$Money" 108) "java/lang/String" "value" "[B") .byte) ∧ lvs[224]? = some (.eq (.length (.field (.string "PostHouse$Money" 108) "java/lang/String" "value" "[B")) (.int (Int32.ofNat 12))) := ⟨rfl, rfl, rfl, rfl⟩
theorem lw_tM : (lvs.drop 225).take 12 = (List.range 12).map fun j => Cond.eq (.elem (.field (.string "PostHouse$Money" 108) "java/lang/String" "value" "[B") (.int (Int32.ofNat j))) (.int (cI ((txtM.getD j 0 : Nat) : Int))) := rfl
theorem dt_mem {l : List Cond} {off N : Nat} {F : Nat → Cond} (h : (l.drop off).take N = (List.range N).map F) {j : Nat} (hj : j < N) : F j ∈ l := List.mem_of_mem_drop (List.mem_of_mem_take (by rw [h]; exact List.mem_map.mpr ⟨j, List.mem_range.mpr hj, rfl⟩))
theorem st_arr {args : Array Value} {s : State} {ty : FieldType} (h : (Cond.arrayClass ty).before args s = true) : ∃ cA : ClassId, s.vm.findClass ("[" ++ ty.toString) = some cA ∧ ArrOfT s cA ty := by
  unfold Cond.before Cond.holds at h
  simp only [Cond.value, beq_iff_eq, Option.map_eq_some_iff, Option.bind_eq_some_iff] at h
  obtain ⟨kA, ⟨cA, h1, h2⟩, h3⟩ := h
  split at h3
  · next comp ty' hk =>
    have e : ty' = ty := of_decide_eq_true h3
    subst e
    exact ⟨cA, h1, fun n z => ⟨fun k h => (by cases h), kA, h2, comp, hk⟩⟩
  · cases h3
theorem st_over {args : Array Value} {s : State} (h : (Cond.arrayOver (.array .int)).before args s = true) : ∃ cA : ClassId, s.vm.findClass ("[" ++ (FieldType.array .int).toString) = some cA ∧ ArrOfT s cA (.array .int) := by
  unfold Cond.before Cond.holds at h
  simp only [Cond.value, beq_iff_eq, Option.map_eq_some_iff, Option.bind_eq_some_iff] at h
  obtain ⟨comp, h0, cA, h1, kA, h2, h3⟩ := h
  split at h3
  · next comp' ty' hk =>
    obtain ⟨h4, h5⟩ := (Bool.and_eq_true _ _).mp h3
    have e : ty' = .array .int := of_decide_eq_true h4
    subst e
    exact ⟨cA, of_decide_eq_true h5, fun n z => ⟨fun k h => (by cases h), kA, h2, comp', hk⟩⟩
  · cases h3
theorem ao_any {args : Array Value} {s : State} (h : (Cond.arrayOver (.array .int)).before args s = true) : (Cond.arrayOver (.array .int)).before #[] s = true := by
  unfold Cond.before Cond.holds at h ⊢
  simp only [Cond.value] at h ⊢
  exact h
theorem ins_all : ∀ ci, ci < 13 → ci ∈ wl_ins := by decide
theorem st_K {args : Array Value} {s : State} (hts : ∀ w ∈ lw_tbl, w.before args s = true) : ∃ (D : va_G) (cA : Nat → ClassId), va_K D clsT (sn_tys cA) s := by
  have ht : ∀ w ∈ TsT, w.before args s = true := fun w h => hts w (TsT_in w h)
  have h1 : ∀ ci : Nat, ∃ q : ClassId × (Nat → Nat), ∀ rr : vw_C, clsT[ci]? = some rr → u_Kn s rr.1 rr.2.1 rr.2.2 q.1 q.2 := fun ci => by
    by_cases h : ∃ rr, clsT[ci]? = some rr
    · obtain ⟨rr, hr⟩ := h
      obtain ⟨hc, e⟩ := cls_at hr
      have hi : (Cond.instantiable rr.1 rr.2.2).before args s = true := by
        have h2 := ht _ (TsT_ins ci (ins_all ci hc))
        rw [e, cls_nm0 ci hc]
        exact h2
      obtain ⟨cC, iS, hk⟩ := u_known ht (clsT_C ci rr hr).1 hi
      exact ⟨(cC, iS), fun r2 h2 => by cases hr.symm.trans h2; exact hk⟩
    · exact ⟨((default : ClassId), fun _ => 0), fun rr h2 => absurd ⟨rr, h2⟩ h⟩
  obtain ⟨d, hd⟩ := Classical.axiomOfChoice h1
  obtain ⟨c1, a1, b1⟩ := st_arr (ht _ (TsT_arr .int (by decide)))
  obtain ⟨c2, a2, b2⟩ := st_arr (ht _ (TsT_arr .byte (by decide)))
  obtain ⟨c3, a3, b3⟩ := st_arr (ht _ (TsT_arr .boolean (by decide)))
  obtain ⟨c4, a4, b4⟩ := st_arr (ht _ (TsT_arr .long (by decide)))
  obtain ⟨c5, a5, b5⟩ := st_over (hts _ lw_ao)
  refine ⟨(fun ci => (d ci).1, fun ci => (d ci).2), fun k => match k with
    | 1 => c1
    | 2 => c2
    | 3 => c3
    | 4 => c4
    | _ => c5, fun ci rr h => hd ci rr h, fun k q hk => ?_⟩
  match k, hk with
  | 0, hk => cases hk; exact ⟨b1, a1⟩
  | 1, hk => cases hk; exact ⟨b2, a2⟩
  | 2, hk => cases hk; exact ⟨b3, a3⟩
  | 3, hk => cases hk; exact ⟨b4, a4⟩
  | 4, hk => cases hk; exact ⟨b5, a5⟩
theorem st_T {args : Array Value} {s : State} {C n : String} {N o1 o2 off : Nat} {f : Nat → Int32} {A : Nat → Prop} (hs : ∀ c ∈ lvs, c.before args s = true) (h1 : lvs[o1]? = some (.arrayOf (.static C n "[I") .int) ∧ lvs[o2]? = some (.eq (.length (.static C n "[I")) (.int (Int32.ofNat N)))) (h3 : (lvs.drop off).take N = (List.range N).map fun j => Cond.eq (.elem (.static C n "[I") (.int (Int32.ofNat j))) (.int (f j))) (hN : N < 2 ^ 31) (hl : (Cond.laysStatic C n "[I").before args s = true) (hi : (Cond.initialized C).before args s = true) (hA : ∀ a : Nat, a < s.heap.size → ¬ A a) : ∃ t : Nat, va_Z C n "[I" (.ref t) A s s.heap ∧ va_T .int t N (fun j => .int (f j)) A s s.heap := by
  obtain ⟨t, h4, h5⟩ := va_Tof (f := fun j => .int (f j)) hN (hs _ (List.mem_of_getElem? h1.1)) (va_eqt (hs _ (List.mem_of_getElem? h1.2))) (fun j hj => va_eqt (hs _ (dt_mem h3 hj))) hA
  exact ⟨t, va_Zof hl hi h4 hA, h5⟩
theorem st_W {args : Array Value} {s : State} {C tx : String} {k N o0 o1 o2 o3 off : Nat} {f : Nat → Int32} {A : Nat → Prop} (hts : ∀ w ∈ lw_tbl, w.before args s = true) (hs : ∀ c ∈ lvs, c.before args s = true) (h1 : lvs[o0]? = some (.exactly (.string C k) "java/lang/String") ∧ lvs[o1]? = some (.eq (.field (.string C k) "java/lang/String" "coder" "B") (.int 0)) ∧ lvs[o2]? = some (.arrayOf (.field (.string C k) "java/lang/String" "value" "[B") .byte) ∧ lvs[o3]? = some (.eq (.length (.field (.string C k) "java/lang/String" "value" "[B")) (.int (Int32.ofNat N)))) (h3 : (lvs.drop off).take N = (List.range N).map fun j => Cond.eq (.elem (.field (.string C k) "java/lang/String" "value" "[B") (.int (Int32.ofNat j))) (.int (f j))) (hN : N < 2 ^ 31) (hr : (Cond.stringRef C k tx).before args s = true) (hA : ∀ a : Nat, a < s.heap.size → ¬ A a) : ∃ a va : Nat, sj_W a va N f A s s.heap ∧ vk_R C k tx a s := by
  obtain ⟨a, c, cA, kA, q1, q2, q3, q4, q5, q6, -⟩ := Cond.exactly_spec (args := args) (first := s) (o := none) (s := s) (idx := []) (t := .string C k) (cls := "java/lang/String") (hs _ (List.mem_of_getElem? h1.1))
  have hv : ∃ va : Nat, (Term.field (.string C k) "java/lang/String" "value" "[B").eval args s none [] s = some (.ref va) ∧ va_T .byte va N (fun j => .int (f j)) A s s.heap := va_Tof (f := fun j => .int (f j)) hN (hs _ (List.mem_of_getElem? h1.2.2.1)) (va_eqt (hs _ (List.mem_of_getElem? h1.2.2.2))) (fun j hj => va_eqt (hs _ (dt_mem h3 hj))) hA
  obtain ⟨va, hv1, hv2⟩ := hv
  refine ⟨a, va, ⟨⟨cA, q3, q5, by rw [q6]; exact q2, hA a (Array.getElem?_eq_some_iff.mp q3).1⟩, vk_OFof q1 (va_eqt (hs _ (List.mem_of_getElem? h1.2.1))) hA, vk_OFof q1 hv1 hA, hv2, va_Zof (hts _ lw_ls_CS) (hts _ (TsT_in _ w_ini_String)) (va_eqt (hs _ (List.mem_of_getElem? lv_cs.1))) hA, va_Zqof (hts _ lw_ls_SF) (hts _ (TsT_in _ w_ini_Preconditions)) (hs _ (List.mem_of_getElem? lv_cs.2)) hA⟩, vk_R.of hr q1⟩
theorem st_X {b L : Nat} {xs : Nat → Int32} {s : State} {A : Nat → Prop} (h : va_X b L xs s s.heap) (hA : ∀ a : Nat, a < s.heap.size → ¬ A a) : va_T .int b L (fun j => .int (xs j)) A s s.heap := by
  obtain ⟨scr, h1, h2, h3, h4, h5⟩ := h
  exact ⟨scr, h1, h2, h3, by rw [h4]; exact Nat.le_refl _, by rw [h4], h5, hA b (Array.getElem?_eq_some_iff.mp h1).1⟩
theorem nst_in : ∀ q ∈ nwsT, Cond.methodLinkNest q.1 q.2.1 q.2.2.1 q.2.2.2 ∈ lw_tbl := nwsT_in
def adT (base a0 a1 a2 a3 a4 ta tb b : Nat) (g : Nat) : Nat := if g < 1000 then base + g else if g = 1000 then a0 else if g = 1001 then a1 else if g = 1002 then a2 else if g = 1003 then a3 else if g = 1004 then a4 else if g = 1010 then ta else if g = 1011 then tb else b
theorem sta_cases {g : Nat} (h : 1000 ≤ g) : (shpT g = (9, (0, (0, 0)))) ∨ g = 1000 ∨ g = 1001 ∨ g = 1002 ∨ g = 1003 ∨ g = 1004 ∨ g = 1010 ∨ g = 1011 ∨ g = 1020 := by
  rw [shp_hi h]
  by_cases h0 : g = 1000
  · exact Or.inr (Or.inl h0)
  by_cases h1 : g = 1001
  · exact Or.inr (Or.inr (Or.inl h1))
  by_cases h2 : g = 1002
  · exact Or.inr (Or.inr (Or.inr (Or.inl h2)))
  by_cases h3 : g = 1003
  · exact Or.inr (Or.inr (Or.inr (Or.inr (Or.inl h3))))
  by_cases h4 : g = 1004
  · exact Or.inr (Or.inr (Or.inr (Or.inr (Or.inr (Or.inl h4)))))
  by_cases h5 : g = 1010
  · exact Or.inr (Or.inr (Or.inr (Or.inr (Or.inr (Or.inr (Or.inl h5))))))
  by_cases h6 : g = 1011
  · exact Or.inr (Or.inr (Or.inr (Or.inr (Or.inr (Or.inr (Or.inr (Or.inl h6)))))))
  by_cases h7 : g = 1020
  · exact Or.inr (Or.inr (Or.inr (Or.inr (Or.inr (Or.inr (Or.inr (Or.inr h7)))))))
  refine Or.inl ?_
  have nb : ∀ n : Nat, g ≠ n → Nat.beq g n = false := fun n hn => by
    cases hb : Nat.beq g n with
    | false => rfl
    | true => exact absurd (Nat.eq_of_beq_eq_true hb) hn
  unfold shp_sta
  rw [nb _ h0, nb _ h1, nb _ h2, nb _ h3, nb _ h4, nb _ h5, nb _ h6, nb _ h7]
  rfl
theorem st_world {p : Program} {s : State} {m : MethodId} {meth : Method} {c : Code} {b L : Nat} {xs : Nat → Int32} (hL : L ≤ 448) (C0 : lw_At p s m meth c b L xs) : ∃ (D : va_G) (cA : Nat → ClassId) (ad : Nat → Nat), (∀ g, g < 1000 → ad g = s.heap.size + g) ∧ ad 1020 = b ∧ sn_WK shpT D clsT cA ad s.heap.size (stcT xs L) nwsT stsT (exT ad s.heap.size) s := by
  obtain ⟨hx, hb, hr, hml, hown, hts, hX, hbl, hlk, hgv⟩ := C0
  have hs : ∀ w ∈ lvs, w.before #[Value.ref b] s = true := flat_of_before _ hgv
  have hA : ∀ a : Nat, a < s.heap.size → ¬ sn_A s.heap.size a := fun a h1 h2 => absurd h1 (Nat.not_lt.mpr h2)
  obtain ⟨D, cA, hK⟩ := st_K hts
  have hB := hts _ (TsT_in _ (TsT_ini 0 (by decide)))
  have hG := hts _ (TsT_in _ (TsT_ini 6 (by decide)))
  have hH := hts _ (TsT_in _ (TsT_ini 9 (by decide)))
  obtain ⟨a0, z0, t0⟩ := st_T hs lv_1000 lw_1000 (by decide) (hts _ lw_ls_DIVISOR) hB hA
  obtain ⟨a1, z1, t1⟩ := st_T hs lv_1001 lw_1001 (by decide) (hts _ lw_ls_LOGS) hB hA
  obtain ⟨a2, z2, t2⟩ := st_T hs lv_1002 lw_1002 (by decide) (hts _ lw_ls_POWERS) hB hA
  obtain ⟨a3, z3, t3⟩ := st_T hs lv_1003 lw_1003 (by decide) (hts _ lw_ls_ARGUMENTS) hG hA
  obtain ⟨a4, z4, t4⟩ := st_T hs lv_1004 lw_1004 (by decide) (hts _ lw_ls_SYMBOLS) hH hA
  obtain ⟨ta, va, w1, r1⟩ := st_W hts hs lv_tB lw_tB (by decide) (hts _ lw_sr_73) hA
  obtain ⟨tb, vb, w2, r2⟩ := st_W hts hs lv_tM lw_tM (by decide) (hts _ lw_sr_108) hA
  refine ⟨D, cA, adT s.heap.size a0 a1 a2 a3 a4 ta tb b, fun g hg => if_pos hg, rfl, hK, fun q hq => va_Nw.of rfl (hts _ (nst_in q hq)), ao_any (hts _ lw_ao), fun q hq => ?_, fun g hg => ?_, Nat.le_refl _, exT_ES, ⟨⟨va, w1⟩, ⟨vb, w2⟩, r1, r2⟩⟩
  · simp only [stsT, List.mem_cons, List.not_mem_nil, or_false] at hq
    rcases hq with rfl | rfl | rfl | rfl | rfl
    · exact z0
    · exact z1
    · exact z2
    · exact z3
    · exact z4
  · rcases sta_cases hg with h9 | rfl | rfl | rfl | rfl | rfl | rfl | rfl | rfl
    · rw [h9]
      exact ⟨fun n w h => (by cases h), fun w h => by (cases h), fun t w h => by cases h; exact Or.inr (Or.inr (by decide))⟩
    · exact ⟨fun n w h => (by cases h; exact t0), fun w h => by (cases h), fun t w h => by cases h; exact Or.inl rfl⟩
    · exact ⟨fun n w h => (by cases h; exact t1), fun w h => by (cases h), fun t w h => by cases h; exact Or.inl rfl⟩
    · exact ⟨fun n w h => (by cases h; exact t2), fun w h => by (cases h), fun t w h => by cases h; exact Or.inl rfl⟩
    · exact ⟨fun n w h => (by cases h; exact t3), fun w h => by (cases h), fun t w h => by cases h; exact Or.inl rfl⟩
    · exact ⟨fun n w h => (by cases h; exact t4), fun w h => by (cases h), fun t w h => by cases h; exact Or.inl rfl⟩
    · exact ⟨fun n w h => (by cases h), fun w h => by (cases h), fun t w h => by cases h; exact Or.inr (Or.inr (by decide))⟩
    · exact ⟨fun n w h => (by cases h), fun w h => by (cases h), fun t w h => by cases h; exact Or.inr (Or.inr (by decide))⟩
    · have e : ix (stcT xs L 1021 0) = L := nI_clamp (by omega)
      exact ⟨fun n w h => (by cases h), fun w h => ⟨by rw [e]; exact st_X hX hA, by rw [e]; rfl⟩, fun t w h => by cases h; exact Or.inr (Or.inl rfl)⟩

