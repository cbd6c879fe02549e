/-! ===== LEVEL 1: what exceptions ask of the world ===== -/
theorem lw_sr_111 : (Jvm.Cond.stringRef "PostHouse" (111 : Nat) "the tape has no room for twenty bytes") ∈ lw_tbl := tq_mem.2.2.2.2.2.2.2.2.1 _ (by rw [tq_ok_9]; exact List.mem_of_getElem? (i := 170) rfl)
theorem lw_sr_126 : (Jvm.Cond.stringRef "PostHouse" (126 : Nat) "the tape has no such place") ∈ lw_tbl := tq_mem.2.2.2.2.2.2.2.2.1 _ (by rw [tq_ok_9]; exact List.mem_of_getElem? (i := 217) rfl)
theorem lw_sr_181 : (Jvm.Cond.stringRef "PostHouse" (181 : Nat) "no such block or byte") ∈ lw_tbl := tq_mem.2.2.2.2.2.2.2.2.2.1 _ (by rw [tq_ok_10]; exact List.mem_of_getElem? (i := 2) rfl)
theorem lw_iniT : (Jvm.Cond.initialized "java/lang/Throwable") ∈ lw_tbl := tq_mem.1 _ (by rw [tq_ok_1]; exact List.mem_of_getElem? (i := 15) rfl)
theorem lv_x : lvs[136]? = some (.isRef (.static "java/lang/Throwable" "UNASSIGNED_STACK" "[Ljava/lang/StackTraceElement;")) ∧ lvs[137]? = some (.isRef (.static "java/lang/Throwable" "SUPPRESSED_SENTINEL" "Ljava/util/List;")) := ⟨rfl, rfl⟩
set_option maxRecDepth 20000 in
theorem lv_111 : lvs[238]? = some (.exactly (.string "PostHouse" 111) "java/lang/String") := rfl
set_option maxRecDepth 20000 in
theorem lv_126 : lvs[281]? = some (.exactly (.string "PostHouse" 126) "java/lang/String") := rfl
set_option maxRecDepth 20000 in
theorem lv_181 : lvs[314]? = some (.exactly (.string "PostHouse" 181) "java/lang/String") := rfl
def exX (base : Nat) (s : State) : Prop := vx_Zq Bundle.tN "UNASSIGNED_STACK" Bundle.steD (sn_A base) s s.heap ∧ vx_Zq Bundle.tN "SUPPRESSED_SENTINEL" Bundle.listD (sn_A base) s s.heap ∧ (∃ a, vk_R "PostHouse" 111 "the tape has no room for twenty bytes" a s) ∧ (∃ a, vk_R "PostHouse" 126 "the tape has no such place" a s) ∧ ∃ a, vk_R "PostHouse" 181 "no such block or byte" a s
def exA (ad : Nat → Nat) (base : Nat) (s : State) : Prop := exT ad base s ∧ exX base s
theorem exA_ES {ad : Nat → Nat} {base : Nat} : sn_ES base (exA ad base) := by
  intro s U hW hz ho h
  obtain ⟨h0, h1, h2, ⟨a, h3⟩, ⟨b, h4⟩, ⟨c, h5⟩⟩ := h
  exact ⟨exT_ES s U hW hz ho h0, (vx_Zq.moved hW.alike h1).kept ho, (vx_Zq.moved hW.alike h2).kept ho, ⟨a, vk_R.warm hW h3⟩, ⟨b, vk_R.warm hW h4⟩, ⟨c, vk_R.warm hW h5⟩⟩
theorem st_R {args : Array Value} {s : State} {C tx : String} {k : Nat} (h : (Cond.exactly (.string C k) "java/lang/String").before args s = true) (hr : (Cond.stringRef C k tx).before args s = true) : ∃ a, vk_R C k tx a s := by
  obtain ⟨a, c, cA, kA, q1, q2, q3, q4, q5, q6, -⟩ := Cond.exactly_spec (args := args) (first := s) (o := none) (s := s) (idx := []) (t := .string C k) (cls := "java/lang/String") h
  exact ⟨a, vk_R.of hr q1⟩
theorem st_worldA {p : Program} {s : State} {m : MethodId} {meth : Method} {c : Code} {b L : Nat} {xs : Nat → Int32} (hL : L ≤ 448) (C0 : lw_At p s m meth c b L xs) : ∃ (D : va_G) (cA : Nat → ClassId) (ad : Nat → Nat), (∀ g, g < 1000 → ad g = s.heap.size + g) ∧ ad 1020 = b ∧ sn_WK shpT D clsT cA ad s.heap.size (stcT xs L) nwsT stsT (exA ad s.heap.size) s := by
  obtain ⟨D, cA, ad, h1, h2, k1, k2, k3, k4, k5, k6, k7, k8⟩ := st_world hL C0
  obtain ⟨hx, hb, hr, hml, hown, hts, hX, hbl, hlk, hgv⟩ := C0
  have hs : ∀ w ∈ lvs, w.before #[Value.ref b] s = true := flat_of_before _ hgv
  have hA : ∀ a : Nat, a < s.heap.size → ¬ sn_A s.heap.size a := fun a h1 h2 => absurd h1 (Nat.not_lt.mpr h2)
  exact ⟨D, cA, ad, h1, h2, k1, k2, k3, k4, k5, k6, exA_ES, k8, vx_Zqof (hts _ lw_ls_US) (hts _ lw_iniT) (hs _ (List.mem_of_getElem? lv_x.1)) hA, vx_Zqof (hts _ lw_ls_SS) (hts _ lw_iniT) (hs _ (List.mem_of_getElem? lv_x.2)) hA, st_R (hs _ (List.mem_of_getElem? lv_111)) (hts _ lw_sr_111), st_R (hs _ (List.mem_of_getElem? lv_126)) (hts _ lw_sr_126), st_R (hs _ (List.mem_of_getElem? lv_181)) (hts _ lw_sr_181)⟩
