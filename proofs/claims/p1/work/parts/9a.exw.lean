/-! ===== LEVEL 1: the words of a throw ===== -/
def xN : List Cond := [.castable "java/lang/IllegalStateException" "java/lang/IllegalStateException", .castable "java/lang/IllegalArgumentException" "java/lang/IllegalArgumentException", .castable "java/lang/IndexOutOfBoundsException" "java/lang/IndexOutOfBoundsException", .declares (Bundle.initS "java/lang/RuntimeException"), .declares (Bundle.initS "java/lang/Exception"), .declares (Bundle.initS Bundle.tN)]
theorem xN_in : ∀ w ∈ xN, w ∈ lw_tbl := fun w h => by
  simp only [xN, List.mem_cons, List.not_mem_nil, or_false] at h
  rcases h with rfl | rfl | rfl | rfl | rfl | rfl
  · exact tq_mem.2.2.2.2.2.2.2.2.1 _ (by rw [tq_ok_9]; exact List.mem_of_getElem? (i := 131) rfl)
  · exact tq_mem.2.2.2.2.2.2.2.2.1 _ (by rw [tq_ok_9]; exact List.mem_of_getElem? (i := 210) rfl)
  · exact tq_mem.2.2.2.2.2.2.2.2.1 _ (by rw [tq_ok_9]; exact List.mem_of_getElem? (i := 235) rfl)
  · exact tq_mem.2.2.2.2.2.2.2.2.1 _ (by rw [tq_ok_9]; exact List.mem_of_getElem? (i := 133) rfl)
  · exact tq_mem.2.2.2.2.2.2.2.2.1 _ (by rw [tq_ok_9]; exact List.mem_of_getElem? (i := 135) rfl)
  · exact tq_mem.2.2.2.2.2.2.2.2.1 _ (by rw [tq_ok_9]; exact List.mem_of_getElem? (i := 137) rfl)
theorem xN_ot : ∀ w ∈ xN, w.onTables = true := by
  intro w h
  simp only [xN, List.mem_cons, List.not_mem_nil, or_false] at h
  rcases h with rfl | rfl | rfl | rfl | rfl | rfl <;> rfl
theorem xN_warm {s U : State} (hW : s.WarmedH U.vm) : ∀ w ∈ xN, va_Nw w s → va_Nw w U := by
  intro w h hz
  simp only [xN, List.mem_cons, List.not_mem_nil, or_false] at h
  rcases h with rfl | rfl | rfl | rfl | rfl | rfl
  · exact va_Nw.warmC hW hz
  · exact va_Nw.warmC hW hz
  · exact va_Nw.warmC hW hz
  · exact va_Nw.warmD hW hz
  · exact va_Nw.warmD hW hz
  · exact va_Nw.warmD hW hz
def exB (ad : Nat → Nat) (base : Nat) (s : State) : Prop := exA ad base s ∧ ∀ w ∈ xN, va_Nw w s
theorem exB_ES {ad : Nat → Nat} {base : Nat} : sn_ES base (exB ad base) := by
  intro s U hW hz ho h
  exact ⟨exA_ES s U hW hz ho h.1, fun w hw => xN_warm hW w hw (h.2 w hw)⟩
theorem st_worldB {p : Program} {s : State} {m : MethodId} {meth : Method} {c : Code} {b L : Nat} {xs : Nat → Int32} (hL : L ≤ 448) (C0 : lw_At p s m meth c b L xs) : ∃ (D : va_G) (cA : Nat → ClassId) (ad : Nat → Nat), (∀ g, g < 1000 → ad g = s.heap.size + g) ∧ ad 1020 = b ∧ sn_WK shpT D clsT cA ad s.heap.size (stcT xs L) nwsT stsT (exB ad s.heap.size) s := by
  obtain ⟨D, cA, ad, h1, h2, k1, k2, k3, k4, k5, k6, k7, k8⟩ := st_worldA hL C0
  obtain ⟨hx, hb, hr, hml, hown, hts, hX, hbl, hlk, hgv⟩ := C0
  exact ⟨D, cA, ad, h1, h2, k1, k2, k3, k4, k5, k6, exB_ES, k8, fun w hw => va_tabs (xN_ot w hw) rfl (hts w (xN_in w hw))⟩
theorem ok_g {args : Array Value} {s : State} (hts : ∀ w ∈ TsT, w.before args s = true) {w : Cond} (h : w ∈ TsT) : w.before args s = true ∧ vx_ot w = true := ⟨hts w h, by unfold vx_ot; rw [TsT_good w h, Bool.or_true]⟩
theorem ok_n {args : Array Value} {s : State} (hN : ∀ w ∈ xN, va_Nw w s) {w : Cond} (h : w ∈ xN) : w.before args s = true ∧ vx_ot w = true := ⟨va_tabs (xN_ot w h) rfl (hN w h), by unfold vx_ot; rw [xN_ot w h, Bool.true_or]⟩
set_option maxRecDepth 20000 in
theorem at_ISE {args : Array Value} {s : State} (hts : ∀ w ∈ TsT, w.before args s = true) (hN : ∀ w ∈ xN, va_Nw w s) : ∀ w ∈ vx_atS "PostHouse" 113 "java/lang/IllegalStateException" ["java/lang/RuntimeException", "java/lang/Exception"], w.before args s = true ∧ vx_ot w = true := by
  intro w hw
  obtain ⟨hw1, hw2⟩ := List.mem_filter.mp hw
  simp only [Bundle.ownAtoms, Bundle.throwableAtoms, Bundle.throwableSAtoms, Bundle.chainSAtoms, Bundle.passSAtoms, List.cons_append, List.nil_append, List.append_assoc, List.mem_cons, List.not_mem_nil, or_false] at hw1
  rcases hw1 with rfl | rfl | rfl | rfl | rfl | rfl | rfl | rfl | rfl | rfl | rfl | rfl | rfl | rfl | rfl | rfl | rfl | rfl | rfl | rfl | rfl | rfl | rfl | rfl | rfl | rfl | rfl | rfl | rfl | rfl | rfl | rfl | rfl | rfl | rfl | rfl | rfl | rfl | rfl | rfl | rfl | rfl | rfl | rfl | rfl | rfl | rfl | rfl | rfl | rfl | rfl | rfl | rfl | rfl | rfl | rfl | rfl
  · exact ok_g hts (TsT_o _ (List.mem_append_right _ (wa_x_1 _ (wm_x_1 15 (by decide) rfl rfl))))
  · exact ok_g hts (TsT_o _ (List.mem_append_right _ (wa_x_9 _ (wm_x_9 151 (by decide) rfl rfl))))
  · exact ok_g hts (TsT_o _ (List.mem_append_right _ (wa_x_9 _ (wm_x_9 160 (by decide) rfl rfl))))
  · exact ok_g hts (TsT_o _ (List.mem_append_right _ (wa_x_9 _ (wm_x_9 164 (by decide) rfl rfl))))
  · exact ok_g hts (TsT_o _ (List.mem_append_right _ (wa_x_9 _ (wm_x_9 167 (by decide) rfl rfl))))
  · exact ok_g hts (TsT_o _ (List.mem_append_right _ (wa_x_9 _ (wm_x_9 169 (by decide) rfl rfl))))
  · exact ok_g hts (TsT_o _ (List.mem_append_right _ (wa_x_9 _ (wm_x_9 152 (by decide) rfl rfl))))
  · exact ok_g hts (TsT_o _ (List.mem_append_right _ (wa_x_9 _ (wm_x_9 153 (by decide) rfl rfl))))
  · exact ok_g hts (TsT_o _ (List.mem_append_left _ (List.mem_of_getElem? (i := 0) rfl)))
  · exact ok_g hts (TsT_o _ (List.mem_append_left _ (List.mem_of_getElem? (i := 1) rfl)))
  · exact ok_g hts (TsT_o _ (List.mem_append_right _ (wa_x_9 _ (wm_x_9 154 (by decide) rfl rfl))))
  · exact ok_g hts (TsT_o _ (List.mem_append_right _ (wa_x_9 _ (wm_x_9 159 (by decide) rfl rfl))))
  · exact ok_g hts (TsT_o _ (List.mem_append_right _ (wa_x_9 _ (wm_x_9 165 (by decide) rfl rfl))))
  · exact ok_g hts (TsT_o _ (List.mem_append_right _ (wa_x_9 _ (wm_x_9 185 (by decide) rfl rfl))))
  · exact ok_g hts (TsT_o _ (List.mem_append_right _ (wa_x_9 _ (wm_x_9 141 (by decide) rfl rfl))))
  · exact ok_g hts (TsT_o _ (List.mem_append_right _ (wa_x_9 _ (wm_x_9 186 (by decide) rfl rfl))))
  · exact ok_g hts (TsT_o _ (List.mem_append_right _ (wa_x_9 _ (wm_x_9 143 (by decide) rfl rfl))))
  · exact ok_g hts (TsT_o _ (List.mem_append_right _ (wa_x_9 _ (wm_x_9 187 (by decide) rfl rfl))))
  · exact ok_g hts (TsT_o _ (List.mem_append_right _ (wa_x_9 _ (wm_x_9 145 (by decide) rfl rfl))))
  · exact ok_g hts (TsT_o _ (List.mem_append_right _ (wa_x_9 _ (wm_x_9 155 (by decide) rfl rfl))))
  · exact absurd hw2 (by decide +kernel)
  · exact ok_g hts (TsT_o _ (List.mem_append_right _ (wa_x_9 _ (wm_x_9 157 (by decide) rfl rfl))))
  · exact absurd hw2 (by decide +kernel)
  · exact ok_g hts (TsT_o _ (List.mem_append_right _ (wa_x_9 _ (wm_x_9 147 (by decide) rfl rfl))))
  · exact ok_g hts (TsT_o _ (List.mem_append_right _ (wa_x_9 _ (wm_x_9 181 (by decide) rfl rfl))))
  · exact ok_g hts (TsT_o _ (List.mem_append_right _ (wa_x_9 _ (wm_x_9 182 (by decide) rfl rfl))))
  · exact ok_g hts (TsT_o _ (List.mem_append_right _ (wa_x_9 _ (wm_x_9 184 (by decide) rfl rfl))))
  · exact ok_g hts (TsT_o _ (List.mem_append_right _ (wa_x_9 _ (wm_x_9 147 (by decide) rfl rfl))))
  · exact ok_g hts (TsT_o _ (List.mem_append_right _ (wa_x_9 _ (wm_x_9 172 (by decide) rfl rfl))))
  · exact ok_g hts (TsT_o _ (List.mem_append_right _ (wa_x_9 _ (wm_x_9 173 (by decide) rfl rfl))))
  · exact ok_g hts (TsT_o _ (List.mem_append_right _ (wa_x_9 _ (wm_x_9 174 (by decide) rfl rfl))))
  · exact ok_g hts (TsT_o _ (List.mem_append_right _ (wa_x_9 _ (wm_x_9 175 (by decide) rfl rfl))))
  · exact ok_n hN (List.mem_of_getElem? (i := 3) rfl)
  · exact ok_g hts (TsT_o _ (List.mem_append_right _ (wa_x_9 _ (wm_x_9 175 (by decide) rfl rfl))))
  · exact ok_g hts (TsT_o _ (List.mem_append_right _ (wa_x_9 _ (wm_x_9 176 (by decide) rfl rfl))))
  · exact ok_g hts (TsT_o _ (List.mem_append_right _ (wa_x_9 _ (wm_x_9 177 (by decide) rfl rfl))))
  · exact ok_g hts (TsT_o _ (List.mem_append_right _ (wa_x_9 _ (wm_x_9 178 (by decide) rfl rfl))))
  · exact ok_n hN (List.mem_of_getElem? (i := 4) rfl)
  · exact ok_g hts (TsT_o _ (List.mem_append_right _ (wa_x_9 _ (wm_x_9 178 (by decide) rfl rfl))))
  · exact ok_g hts (TsT_o _ (List.mem_append_right _ (wa_x_9 _ (wm_x_9 179 (by decide) rfl rfl))))
  · exact ok_g hts (TsT_o _ (List.mem_append_right _ (wa_x_9 _ (wm_x_9 180 (by decide) rfl rfl))))
  · exact ok_g hts (TsT_o _ (List.mem_append_right _ (wa_x_9 _ (wm_x_9 181 (by decide) rfl rfl))))
  · exact ok_n hN (List.mem_of_getElem? (i := 5) rfl)
  · exact ok_g hts (TsT_o _ (List.mem_append_right _ (wa_x_9 _ (wm_x_9 171 (by decide) rfl rfl))))
  · exact ok_g hts (TsT_o _ (List.mem_append_right _ (wa_x_9 _ (wm_x_9 130 (by decide) rfl rfl))))
  · exact ok_n hN (List.mem_of_getElem? (i := 0) rfl)
  · exact ok_g hts (TsT_o _ (List.mem_append_right _ (wa_x_9 _ (wm_x_9 138 (by decide) rfl rfl))))
  · exact ok_g hts (TsT_o _ (List.mem_append_right _ (wa_x_9 _ (wm_x_9 139 (by decide) rfl rfl))))
  · exact ok_g hts (TsT_o _ (List.mem_append_right _ (wa_x_9 _ (wm_x_9 140 (by decide) rfl rfl))))
  · exact ok_g hts (TsT_o _ (List.mem_append_right _ (wa_x_9 _ (wm_x_9 142 (by decide) rfl rfl))))
  · exact ok_g hts (TsT_o _ (List.mem_append_right _ (wa_x_9 _ (wm_x_9 144 (by decide) rfl rfl))))
  · exact ok_g hts (TsT_o _ (List.mem_append_right _ (wa_x_9 _ (wm_x_9 146 (by decide) rfl rfl))))
  · exact absurd hw2 (by decide +kernel)
  · exact absurd hw2 (by decide +kernel)
  · exact ok_g hts (TsT_o _ (List.mem_append_right _ (wa_x_9 _ (wm_x_9 150 (by decide) rfl rfl))))
  · exact ok_g hts (TsT_o _ (List.mem_append_right _ (wa_x_9 _ (wm_x_9 149 (by decide) rfl rfl))))
  · exact ok_g hts (TsT_o _ (List.mem_append_right _ (wa_x_9 _ (wm_x_9 148 (by decide) rfl rfl))))
set_option maxRecDepth 20000 in
theorem at_IAE {args : Array Value} {s : State} (hts : ∀ w ∈ TsT, w.before args s = true) (hN : ∀ w ∈ xN, va_Nw w s) : ∀ w ∈ vx_atS "PostHouse" 128 "java/lang/IllegalArgumentException" ["java/lang/RuntimeException", "java/lang/Exception"], w.before args s = true ∧ vx_ot w = true := by
  intro w hw
  obtain ⟨hw1, hw2⟩ := List.mem_filter.mp hw
  simp only [Bundle.ownAtoms, Bundle.throwableAtoms, Bundle.throwableSAtoms, Bundle.chainSAtoms, Bundle.passSAtoms, List.cons_append, List.nil_append, List.append_assoc, List.mem_cons, List.not_mem_nil, or_false] at hw1
  rcases hw1 with rfl | rfl | rfl | rfl | rfl | rfl | rfl | rfl | rfl | rfl | rfl | rfl | rfl | rfl | rfl | rfl | rfl | rfl | rfl | rfl | rfl | rfl | rfl | rfl | rfl | rfl | rfl | rfl | rfl | rfl | rfl | rfl | rfl | rfl | rfl | rfl | rfl | rfl | rfl | rfl | rfl | rfl | rfl | rfl | rfl | rfl | rfl | rfl | rfl | rfl | rfl | rfl | rfl | rfl | rfl | rfl | rfl
  · exact ok_g hts (TsT_o _ (List.mem_append_right _ (wa_x_1 _ (wm_x_1 15 (by decide) rfl rfl))))
  · exact ok_g hts (TsT_o _ (List.mem_append_right _ (wa_x_9 _ (wm_x_9 151 (by decide) rfl rfl))))
  · exact ok_g hts (TsT_o _ (List.mem_append_right _ (wa_x_9 _ (wm_x_9 160 (by decide) rfl rfl))))
  · exact ok_g hts (TsT_o _ (List.mem_append_right _ (wa_x_9 _ (wm_x_9 164 (by decide) rfl rfl))))
  · exact ok_g hts (TsT_o _ (List.mem_append_right _ (wa_x_9 _ (wm_x_9 167 (by decide) rfl rfl))))
  · exact ok_g hts (TsT_o _ (List.mem_append_right _ (wa_x_9 _ (wm_x_9 169 (by decide) rfl rfl))))
  · exact ok_g hts (TsT_o _ (List.mem_append_right _ (wa_x_9 _ (wm_x_9 152 (by decide) rfl rfl))))
  · exact ok_g hts (TsT_o _ (List.mem_append_right _ (wa_x_9 _ (wm_x_9 153 (by decide) rfl rfl))))
  · exact ok_g hts (TsT_o _ (List.mem_append_left _ (List.mem_of_getElem? (i := 0) rfl)))
  · exact ok_g hts (TsT_o _ (List.mem_append_left _ (List.mem_of_getElem? (i := 1) rfl)))
  · exact ok_g hts (TsT_o _ (List.mem_append_right _ (wa_x_9 _ (wm_x_9 154 (by decide) rfl rfl))))
  · exact ok_g hts (TsT_o _ (List.mem_append_right _ (wa_x_9 _ (wm_x_9 159 (by decide) rfl rfl))))
  · exact ok_g hts (TsT_o _ (List.mem_append_right _ (wa_x_9 _ (wm_x_9 165 (by decide) rfl rfl))))
  · exact ok_g hts (TsT_o _ (List.mem_append_right _ (wa_x_9 _ (wm_x_9 185 (by decide) rfl rfl))))
  · exact ok_g hts (TsT_o _ (List.mem_append_right _ (wa_x_9 _ (wm_x_9 141 (by decide) rfl rfl))))
  · exact ok_g hts (TsT_o _ (List.mem_append_right _ (wa_x_9 _ (wm_x_9 186 (by decide) rfl rfl))))
  · exact ok_g hts (TsT_o _ (List.mem_append_right _ (wa_x_9 _ (wm_x_9 143 (by decide) rfl rfl))))
  · exact ok_g hts (TsT_o _ (List.mem_append_right _ (wa_x_9 _ (wm_x_9 187 (by decide) rfl rfl))))
  · exact ok_g hts (TsT_o _ (List.mem_append_right _ (wa_x_9 _ (wm_x_9 145 (by decide) rfl rfl))))
  · exact ok_g hts (TsT_o _ (List.mem_append_right _ (wa_x_9 _ (wm_x_9 155 (by decide) rfl rfl))))
  · exact absurd hw2 (by decide +kernel)
  · exact ok_g hts (TsT_o _ (List.mem_append_right _ (wa_x_9 _ (wm_x_9 157 (by decide) rfl rfl))))
  · exact absurd hw2 (by decide +kernel)
  · exact ok_g hts (TsT_o _ (List.mem_append_right _ (wa_x_9 _ (wm_x_9 147 (by decide) rfl rfl))))
  · exact ok_g hts (TsT_o _ (List.mem_append_right _ (wa_x_9 _ (wm_x_9 181 (by decide) rfl rfl))))
  · exact ok_g hts (TsT_o _ (List.mem_append_right _ (wa_x_9 _ (wm_x_9 182 (by decide) rfl rfl))))
  · exact ok_g hts (TsT_o _ (List.mem_append_right _ (wa_x_9 _ (wm_x_9 184 (by decide) rfl rfl))))
  · exact ok_g hts (TsT_o _ (List.mem_append_right _ (wa_x_9 _ (wm_x_9 147 (by decide) rfl rfl))))
  · exact ok_g hts (TsT_o _ (List.mem_append_right _ (wa_x_9 _ (wm_x_9 219 (by decide) rfl rfl))))
  · exact ok_g hts (TsT_o _ (List.mem_append_right _ (wa_x_9 _ (wm_x_9 220 (by decide) rfl rfl))))
  · exact ok_g hts (TsT_o _ (List.mem_append_right _ (wa_x_9 _ (wm_x_9 221 (by decide) rfl rfl))))
  · exact ok_g hts (TsT_o _ (List.mem_append_right _ (wa_x_9 _ (wm_x_9 175 (by decide) rfl rfl))))
  · exact ok_n hN (List.mem_of_getElem? (i := 3) rfl)
  · exact ok_g hts (TsT_o _ (List.mem_append_right _ (wa_x_9 _ (wm_x_9 175 (by decide) rfl rfl))))
  · exact ok_g hts (TsT_o _ (List.mem_append_right _ (wa_x_9 _ (wm_x_9 176 (by decide) rfl rfl))))
  · exact ok_g hts (TsT_o _ (List.mem_append_right _ (wa_x_9 _ (wm_x_9 177 (by decide) rfl rfl))))
  · exact ok_g hts (TsT_o _ (List.mem_append_right _ (wa_x_9 _ (wm_x_9 178 (by decide) rfl rfl))))
  · exact ok_n hN (List.mem_of_getElem? (i := 4) rfl)
  · exact ok_g hts (TsT_o _ (List.mem_append_right _ (wa_x_9 _ (wm_x_9 178 (by decide) rfl rfl))))
  · exact ok_g hts (TsT_o _ (List.mem_append_right _ (wa_x_9 _ (wm_x_9 179 (by decide) rfl rfl))))
  · exact ok_g hts (TsT_o _ (List.mem_append_right _ (wa_x_9 _ (wm_x_9 180 (by decide) rfl rfl))))
  · exact ok_g hts (TsT_o _ (List.mem_append_right _ (wa_x_9 _ (wm_x_9 181 (by decide) rfl rfl))))
  · exact ok_n hN (List.mem_of_getElem? (i := 5) rfl)
  · exact ok_g hts (TsT_o _ (List.mem_append_right _ (wa_x_9 _ (wm_x_9 218 (by decide) rfl rfl))))
  · exact ok_g hts (TsT_o _ (List.mem_append_right _ (wa_x_9 _ (wm_x_9 209 (by decide) rfl rfl))))
  · exact ok_n hN (List.mem_of_getElem? (i := 1) rfl)
  · exact ok_g hts (TsT_o _ (List.mem_append_right _ (wa_x_9 _ (wm_x_9 211 (by decide) rfl rfl))))
  · exact ok_g hts (TsT_o _ (List.mem_append_right _ (wa_x_9 _ (wm_x_9 162 (by decide) rfl rfl))))
  · exact ok_g hts (TsT_o _ (List.mem_append_right _ (wa_x_9 _ (wm_x_9 212 (by decide) rfl rfl))))
  · exact ok_g hts (TsT_o _ (List.mem_append_right _ (wa_x_9 _ (wm_x_9 213 (by decide) rfl rfl))))
  · exact ok_g hts (TsT_o _ (List.mem_append_right _ (wa_x_9 _ (wm_x_9 214 (by decide) rfl rfl))))
  · exact ok_g hts (TsT_o _ (List.mem_append_right _ (wa_x_9 _ (wm_x_9 215 (by decide) rfl rfl))))
  · exact absurd hw2 (by decide +kernel)
  · exact absurd hw2 (by decide +kernel)
  · exact ok_g hts (TsT_o _ (List.mem_append_right _ (wa_x_9 _ (wm_x_9 150 (by decide) rfl rfl))))
  · exact ok_g hts (TsT_o _ (List.mem_append_right _ (wa_x_9 _ (wm_x_9 149 (by decide) rfl rfl))))
  · exact ok_g hts (TsT_o _ (List.mem_append_right _ (wa_x_9 _ (wm_x_9 216 (by decide) rfl rfl))))
set_option maxRecDepth 20000 in
theorem at_IOE {args : Array Value} {s : State} (hts : ∀ w ∈ TsT, w.before args s = true) (hN : ∀ w ∈ xN, va_Nw w s) : ∀ w ∈ vx_atS "PostHouse" 183 "java/lang/IndexOutOfBoundsException" ["java/lang/RuntimeException", "java/lang/Exception"], w.before args s = true ∧ vx_ot w = true := by
  intro w hw
  obtain ⟨hw1, hw2⟩ := List.mem_filter.mp hw
  simp only [Bundle.ownAtoms, Bundle.throwableAtoms, Bundle.throwableSAtoms, Bundle.chainSAtoms, Bundle.passSAtoms, List.cons_append, List.nil_append, List.append_assoc, List.mem_cons, List.not_mem_nil, or_false] at hw1
  rcases hw1 with rfl | rfl | rfl | rfl | rfl | rfl | rfl | rfl | rfl | rfl | rfl | rfl | rfl | rfl | rfl | rfl | rfl | rfl | rfl | rfl | rfl | rfl | rfl | rfl | rfl | rfl | rfl | rfl | rfl | rfl | rfl | rfl | rfl | rfl | rfl | rfl | rfl | rfl | rfl | rfl | rfl | rfl | rfl | rfl | rfl | rfl | rfl | rfl | rfl | rfl | rfl | rfl | rfl | rfl | rfl | rfl | rfl
  · exact ok_g hts (TsT_o _ (List.mem_append_right _ (wa_x_1 _ (wm_x_1 15 (by decide) rfl rfl))))
  · exact ok_g hts (TsT_o _ (List.mem_append_right _ (wa_x_9 _ (wm_x_9 151 (by decide) rfl rfl))))
  · exact ok_g hts (TsT_o _ (List.mem_append_right _ (wa_x_9 _ (wm_x_9 160 (by decide) rfl rfl))))
  · exact ok_g hts (TsT_o _ (List.mem_append_right _ (wa_x_9 _ (wm_x_9 164 (by decide) rfl rfl))))
  · exact ok_g hts (TsT_o _ (List.mem_append_right _ (wa_x_9 _ (wm_x_9 167 (by decide) rfl rfl))))
  · exact ok_g hts (TsT_o _ (List.mem_append_right _ (wa_x_9 _ (wm_x_9 169 (by decide) rfl rfl))))
  · exact ok_g hts (TsT_o _ (List.mem_append_right _ (wa_x_9 _ (wm_x_9 152 (by decide) rfl rfl))))
  · exact ok_g hts (TsT_o _ (List.mem_append_right _ (wa_x_9 _ (wm_x_9 153 (by decide) rfl rfl))))
  · exact ok_g hts (TsT_o _ (List.mem_append_left _ (List.mem_of_getElem? (i := 0) rfl)))
  · exact ok_g hts (TsT_o _ (List.mem_append_left _ (List.mem_of_getElem? (i := 1) rfl)))
  · exact ok_g hts (TsT_o _ (List.mem_append_right _ (wa_x_9 _ (wm_x_9 154 (by decide) rfl rfl))))
  · exact ok_g hts (TsT_o _ (List.mem_append_right _ (wa_x_9 _ (wm_x_9 159 (by decide) rfl rfl))))
  · exact ok_g hts (TsT_o _ (List.mem_append_right _ (wa_x_9 _ (wm_x_9 165 (by decide) rfl rfl))))
  · exact ok_g hts (TsT_o _ (List.mem_append_right _ (wa_x_9 _ (wm_x_9 185 (by decide) rfl rfl))))
  · exact ok_g hts (TsT_o _ (List.mem_append_right _ (wa_x_9 _ (wm_x_9 141 (by decide) rfl rfl))))
  · exact ok_g hts (TsT_o _ (List.mem_append_right _ (wa_x_9 _ (wm_x_9 186 (by decide) rfl rfl))))
  · exact ok_g hts (TsT_o _ (List.mem_append_right _ (wa_x_9 _ (wm_x_9 143 (by decide) rfl rfl))))
  · exact ok_g hts (TsT_o _ (List.mem_append_right _ (wa_x_9 _ (wm_x_9 187 (by decide) rfl rfl))))
  · exact ok_g hts (TsT_o _ (List.mem_append_right _ (wa_x_9 _ (wm_x_9 145 (by decide) rfl rfl))))
  · exact ok_g hts (TsT_o _ (List.mem_append_right _ (wa_x_9 _ (wm_x_9 155 (by decide) rfl rfl))))
  · exact absurd hw2 (by decide +kernel)
  · exact ok_g hts (TsT_o _ (List.mem_append_right _ (wa_x_9 _ (wm_x_9 157 (by decide) rfl rfl))))
  · exact absurd hw2 (by decide +kernel)
  · exact ok_g hts (TsT_o _ (List.mem_append_right _ (wa_x_9 _ (wm_x_9 147 (by decide) rfl rfl))))
  · exact ok_g hts (TsT_o _ (List.mem_append_right _ (wa_x_9 _ (wm_x_9 181 (by decide) rfl rfl))))
  · exact ok_g hts (TsT_o _ (List.mem_append_right _ (wa_x_9 _ (wm_x_9 182 (by decide) rfl rfl))))
  · exact ok_g hts (TsT_o _ (List.mem_append_right _ (wa_x_9 _ (wm_x_9 184 (by decide) rfl rfl))))
  · exact ok_g hts (TsT_o _ (List.mem_append_right _ (wa_x_9 _ (wm_x_9 147 (by decide) rfl rfl))))
  · exact ok_g hts (TsT_o _ (List.mem_append_right _ (wa_x_10 _ (wm_x_10 4 (by decide) rfl rfl))))
  · exact ok_g hts (TsT_o _ (List.mem_append_right _ (wa_x_10 _ (wm_x_10 5 (by decide) rfl rfl))))
  · exact ok_g hts (TsT_o _ (List.mem_append_right _ (wa_x_10 _ (wm_x_10 6 (by decide) rfl rfl))))
  · exact ok_g hts (TsT_o _ (List.mem_append_right _ (wa_x_9 _ (wm_x_9 175 (by decide) rfl rfl))))
  · exact ok_n hN (List.mem_of_getElem? (i := 3) rfl)
  · exact ok_g hts (TsT_o _ (List.mem_append_right _ (wa_x_9 _ (wm_x_9 175 (by decide) rfl rfl))))
  · exact ok_g hts (TsT_o _ (List.mem_append_right _ (wa_x_9 _ (wm_x_9 176 (by decide) rfl rfl))))
  · exact ok_g hts (TsT_o _ (List.mem_append_right _ (wa_x_9 _ (wm_x_9 177 (by decide) rfl rfl))))
  · exact ok_g hts (TsT_o _ (List.mem_append_right _ (wa_x_9 _ (wm_x_9 178 (by decide) rfl rfl))))
  · exact ok_n hN (List.mem_of_getElem? (i := 4) rfl)
  · exact ok_g hts (TsT_o _ (List.mem_append_right _ (wa_x_9 _ (wm_x_9 178 (by decide) rfl rfl))))
  · exact ok_g hts (TsT_o _ (List.mem_append_right _ (wa_x_9 _ (wm_x_9 179 (by decide) rfl rfl))))
  · exact ok_g hts (TsT_o _ (List.mem_append_right _ (wa_x_9 _ (wm_x_9 180 (by decide) rfl rfl))))
  · exact ok_g hts (TsT_o _ (List.mem_append_right _ (wa_x_9 _ (wm_x_9 181 (by decide) rfl rfl))))
  · exact ok_n hN (List.mem_of_getElem? (i := 5) rfl)
  · exact ok_g hts (TsT_o _ (List.mem_append_right _ (wa_x_10 _ (wm_x_10 3 (by decide) rfl rfl))))
  · exact ok_g hts (TsT_o _ (List.mem_append_right _ (wa_x_9 _ (wm_x_9 234 (by decide) rfl rfl))))
  · exact ok_n hN (List.mem_of_getElem? (i := 2) rfl)
  · exact ok_g hts (TsT_o _ (List.mem_append_right _ (wa_x_9 _ (wm_x_9 236 (by decide) rfl rfl))))
  · exact ok_g hts (TsT_o _ (List.mem_append_right _ (wa_x_9 _ (wm_x_9 163 (by decide) rfl rfl))))
  · exact ok_g hts (TsT_o _ (List.mem_append_right _ (wa_x_9 _ (wm_x_9 237 (by decide) rfl rfl))))
  · exact ok_g hts (TsT_o _ (List.mem_append_right _ (wa_x_9 _ (wm_x_9 238 (by decide) rfl rfl))))
  · exact ok_g hts (TsT_o _ (List.mem_append_right _ (wa_x_9 _ (wm_x_9 239 (by decide) rfl rfl))))
  · exact ok_g hts (TsT_o _ (List.mem_append_right _ (wa_x_10 _ (wm_x_10 0 (by decide) rfl rfl))))
  · exact absurd hw2 (by decide +kernel)
  · exact absurd hw2 (by decide +kernel)
  · exact ok_g hts (TsT_o _ (List.mem_append_right _ (wa_x_9 _ (wm_x_9 150 (by decide) rfl rfl))))
  · exact ok_g hts (TsT_o _ (List.mem_append_right _ (wa_x_9 _ (wm_x_9 149 (by decide) rfl rfl))))
  · exact ok_g hts (TsT_o _ (List.mem_append_right _ (wa_x_10 _ (wm_x_10 1 (by decide) rfl rfl))))
theorem ini_ISE : Cond.initialized "java/lang/IllegalStateException" ∈ TsT := TsT_o _ (List.mem_append_right _ (wa_x_1 _ (wm_x_1 18 (by decide) rfl rfl)))
theorem clk_ISE : Cond.classLink "PostHouse" 109 "java/lang/IllegalStateException" ∈ TsT := TsT_o _ (List.mem_append_right _ (wa_x_9 _ (wm_x_9 129 (by decide) rfl rfl)))
theorem ini_IAE : Cond.initialized "java/lang/IllegalArgumentException" ∈ TsT := TsT_o _ (List.mem_append_right _ (wa_x_1 _ (wm_x_1 19 (by decide) rfl rfl)))
theorem clk_IAE : Cond.classLink "PostHouse" 124 "java/lang/IllegalArgumentException" ∈ TsT := TsT_o _ (List.mem_append_right _ (wa_x_9 _ (wm_x_9 208 (by decide) rfl rfl)))
theorem ini_IOE : Cond.initialized "java/lang/IndexOutOfBoundsException" ∈ TsT := TsT_o _ (List.mem_append_right _ (wa_x_1 _ (wm_x_1 28 (by decide) rfl rfl)))
theorem clk_IOE : Cond.classLink "PostHouse" 179 "java/lang/IndexOutOfBoundsException" ∈ TsT := TsT_o _ (List.mem_append_right _ (wa_x_9 _ (wm_x_9 233 (by decide) rfl rfl)))
theorem clL_ISE : Cond.classLink (cnm 13) 13 "java/lang/IllegalStateException" ∈ TsT := TsT_o _ (List.mem_append_right _ (wa_x_9 _ (wm_x_9 124 (by decide) rfl rfl)))
theorem clL_IAE : Cond.classLink (cnm 13) 19 "java/lang/IllegalArgumentException" ∈ TsT := TsT_o _ (List.mem_append_right _ (wa_x_9 _ (wm_x_9 203 (by decide) rfl rfl)))
theorem clL_IOE : Cond.classLink (cnm 13) 25 "java/lang/IndexOutOfBoundsException" ∈ TsT := TsT_o _ (List.mem_append_right _ (wa_x_9 _ (wm_x_9 227 (by decide) rfl rfl)))
