/-! ===== SOUNDNESS: a method's contract; a call of it ===== -/
section CAL
variable (shp : Nat → Nat × (Nat × (Nat × Nat))) (rfT : Nat → Nat → Nat) (fty : Nat → Nat → Nat) (D : va_G) (cls : List vw_C) (cA : Nat → ClassId) (ad : Nat → Nat) (base : Nat) (stc : Nat → Nat → Int32)
variable (dat : Nat → ev_D) (bys : Nat → ByteArray) (nam : Nat → MethodName) (rty : Nat → Option FieldType) (frm lco : Nat → Nat) (Ts : List Cond) (nws : List (String × (Nat × (MethodName × String)))) (sts : List (String × (String × (String × Nat)))) (EX : State → Prop)
def sn_ws (c : Nat) : List Cond := Cond.code (nam c) (bys c) (dat c).1 (rty c) :: Ts
def sn_rm (c : Nat) (x : ev_M) (o : ev_O) : Room := { frames := frm c, cells := o.1.2.2.2.2.1 - x.2.2.2.2.1, slots := o.1.2.2.2.2.2 - x.2.2.2.2.2, locals := lco c }
def sn_PC (md : Bool) (as : List ev_V) (x : ev_M) : Array Value → State → Prop := fun a U => a = (as.map (sn_v ad)).toArray ∧ sn_HR shp rfT fty D cls cA ad base stc md x U.heap ∧ sn_WK shp D cls cA ad base stc nws sts EX U
def sn_nor (o : ev_O) : Prop := ∀ v ∈ o.2, ∀ q, v ≠ .inr (.inr q)
def sn_QC (md : Bool) (o : ev_O) : Array Value → State → Outcome → State → Prop := fun _ st oc t => ((∃ v : Option Value, oc = .returned v ∧ v.toList = o.2.map (sn_v ad)) ∧ sn_HR shp rfT fty D cls cA ad base stc md o.1 t.heap ∧ sn_nor o) ∧ va_F (sn_A base) st t
abbrev sn_Met (l : Launch) (md : Bool) (c : Nat) (as : List ev_V) (x : ev_M) (o : ev_O) : Prop := Met l (nam c) (sn_ws dat bys nam rty Ts c) (sn_rm frm lco c x o) (sn_PC shp rfT fty D cls cA ad base stc nws sts EX md as x) (sn_QC shp rfT fty D cls cA ad base stc md o) (o.1.2.2.2.2.1 - x.2.2.2.2.1) (o.1.2.2.2.2.2 - x.2.2.2.2.2) (sn_A base)
/-- what the tables say of a call of method c from a method of class 'own' -/
def sn_CB (own : String) (idx n : Nat) (c : Nat) : Prop := Cond.code (nam c) (bys c) (dat c).1 (rty c) ∈ Ts ∧ Cond.initialized (nam c).cls ∈ Ts ∧ ((nam c).cls ≠ "java/lang/invoke/MethodHandle" ∧ (nam c).cls ≠ "java/lang/invoke/VarHandle" ∧ (parseMethodDescriptor (nam c).desc).map (fun d => d.parameters.length) = some n)
def sn_CV (own : String) (idx c : Nat) : Prop := sn_CB dat bys nam rty Ts own idx ((dat c).2.1 - 1) c ∧ 1 ≤ (dat c).2.1 ∧ Cond.methodLink own idx (nam c) ∈ Ts ∧ Cond.instanceMethod (nam c) ∈ Ts ∧ Cond.selects (nam c).cls (nam c) (nam c) ∈ Ts ∧ ∃ (ci : Nat) (rr : vw_C), (dat c).2.2.2 = ci + 1 ∧ cls[ci]? = some rr ∧ rr.1 = (nam c).cls
def sn_CS (own : String) (idx c : Nat) : Prop := sn_CB dat bys nam rty Ts own idx (dat c).2.1 c ∧ Cond.static (nam c) ∈ Ts ∧ (Cond.methodLink own idx (nam c) ∈ Ts ∨ ∃ host, (own, (idx, (nam c, host))) ∈ nws)
def sn_CI (own : String) (idx c : Nat) : Prop := sn_CB dat bys nam rty Ts own idx ((dat c).2.1 - 1) c ∧ 1 ≤ (dat c).2.1 ∧ Cond.methodLink own idx (nam c) ∈ Ts ∧ Cond.instanceMethod (nam c) ∈ Ts ∧ (nam c).name = "<init>" ∧ rty c = none ∧ ∃ (ci : Nat) (rr : vw_C), (dat c).2.2.2 = ci + 1 ∧ cls[ci]? = some rr
variable {shp rfT fty D cls cA ad base stc dat bys nam rty frm lco Ts nws sts EX}
variable {p : Program} {l : Launch} {e : Env} {R : Room} {s : State} {m : MethodId} {args : Array Value} {below : List Frame} {meth : Method} {c : Code} {Q : State → Prop} {cc : ByteArray} {md : Bool} {c0 s0 nL : Nat} {out : ev_O}
variable {pc : Nat} {k : ev_K} {L : ev_L} {st st' : List ev_V} {x : ev_M} {o : ev_O}
theorem sn_after {H : Heap} {locs : List Loc} {cells slots : Nat} {ls : Array Slot} {a : Array Value} (hrun : va_Run p l e R s m args below meth c H locs cells slots (o.1.2.2.2.2.1 - x.2.2.2.2.1) (o.1.2.2.2.2.2 - x.2.2.2.2.2) (F0 m pc ls (st.map (sn_v ad))) (st'.map (sn_v ad)) (sn_QC shp rfT fty D cls cA ad base stc md o a) (sn_A base)) (S : sn_S shp rfT fty D cls cA ad base stc md s c0 s0 nL x H locs cells slots ls L st) (hle : ev_le x o.1) (hs : ∀ v ∈ st', sn_okv shp x.2.2.1 v) (hk : sn_K shp rfT fty D cls cA ad base stc p l e R s m args below meth c Q md c0 s0 nL out k) (h : k (pc + 3) L (o.2 ++ st') o.1 = some out) : W p l e R s m args below meth c H locs cells slots Q (F0 m pc ls (st.map (sn_v ad))) := by
  intro T hT X
  obtain ⟨v, st₀, t, T', L9, h0, X', hL, e1, e2, ⟨⟨⟨v', hv, hv2⟩, hHR, hnr⟩, hz, hk2⟩, stp⟩ := hrun T hT X
  cases hv
  rw [h0] at hz hk2
  obtain ⟨⟨a1, a2, a3, a4, a5, a6⟩, b, cc1, d, k1, k2⟩ := S
  have S' : sn_S shp rfT fty D cls cA ad base stc md s c0 s0 nL o.1 T'.heap (locs ++ L9) (cells + (o.1.2.2.2.2.1 - x.2.2.2.2.1)) (slots + (o.1.2.2.2.2.2 - x.2.2.2.2.2)) ls L (o.2 ++ st') := by
    refine ⟨by rw [e1]; exact hHR, ⟨Nat.le_trans b.1 (by rw [e1]; exact hz), fun q h1 h2 => ?_, fun q hq => ?_⟩, cc1.mono shp ad hle.1, fun w hw => ?_, ?_, ?_⟩
    · rw [e1, hk2 q (Nat.lt_of_lt_of_le h1 b.1) h2]
      exact b.2.1 q h1 h2
    · rcases List.mem_append.mp hq with h9 | h9
      · exact b.2.2 q h9
      · exact hL q h9
    · rcases List.mem_append.mp hw with h9 | h9
      · match w, hnr w h9 with
        | .inl _, _ => trivial
        | .inr (.inl _), _ => trivial
        | .inr (.inr q), hn => exact absurd rfl (hn q)
      · exact (hs w h9).mono shp hle.1
    · have := hle.2.1
      omega
    · have := hle.2.2
      omega
  obtain ⟨t2, q1, q2⟩ := hk _ _ _ _ h T'.heap _ _ _ ls S' T' rfl X'
  refine ⟨t2, stp t2 ?_, q2⟩
  have e9 : (F0 m (pc + 3) ls ((o.2 ++ st').map (sn_v ad))) = { F0 m pc ls (st.map (sn_v ad)) with pc := (F0 m pc ls (st.map (sn_v ad))).pc + 3, stack := v.toList ++ st'.map (sn_v ad) } := by
    rw [List.map_append, ← hv2]
  rw [← e9]
  exact q1
theorem sn_good (hg : ∀ w ∈ Ts, goodWord w = true) {c : Nat} (hc : Cond.code (nam c) (bys c) (dat c).1 (rty c) ∈ Ts) : GoodIn Ts (sn_ws dat bys nam rty Ts c) := fun w hw => by
  have h1 : w ∈ Ts := (List.mem_cons.mp hw).elim (fun e => e ▸ hc) id
  exact ⟨h1, good_of_word (hg w h1)⟩
theorem sn_blind {as : List ev_V} : FrameBlind (sn_PC shp rfT fty D cls cA ad base stc nws sts EX md as x) := fun _ _ _ _ h => ⟨h.1, h.2.1, h.2.2.calling⟩
theorem sn_pre {as : List ev_V} {H : Heap} {locs : List Loc} (hHR : sn_HR shp rfT fty D cls cA ad base stc md x H) (hS : va_S (sn_A base) s.heap H locs) (hW : sn_WK shp D cls cA ad base stc nws sts EX s) : ∀ U : State, U.heap = H → s.WarmedH U.vm → sn_PC shp rfT fty D cls cA ad base stc nws sts EX md as x (as.map (sn_v ad)).toArray U := fun U hU hw => ⟨rfl, by rw [hU]; exact hHR, sn_WK.moved _ _ _ _ _ _ _ hw hU hS hW⟩
/-- the caller's side: what its own words and room give -/
def sn_FR (p : Program) (R : Room) (s : State) (m : MethodId) (args : Array Value) (meth : Method) (c : Code) (own : String) (cc : ByteArray) (nL : Nat) (Ts : List Cond) : Prop := p.tables.exec = Jvm.exec ∧ c.code = cc ∧ c.maxLocals = nL ∧ s.vm.findClass own = some m.cls ∧ ∀ w ∈ Ts, w.before args s = true
variable {own : String} {idx cn : Nat}
theorem w_call_S (F : CallFix p m c cc nL s args Ts own) (hg : ∀ w ∈ Ts, goodWord w = true) (hWK : sn_WK shp D cls cA ad base stc nws sts EX s) (hC : sn_CS dat bys nam rty Ts nws own idx cn) (hR : frm cn + 1 ≤ R.frames ∧ 8 + ((dat cn).1 + 11) + lco cn ≤ R.locals) (hRR : sn_R R c0 s0 out) (hm : ev_mk out k) (hk : sn_K shp rfT fty D cls cA ad base stc p l e R s m args below meth c Q md c0 s0 nL out k) (hd : decode cc pc = .ok (.invokestatic idx, 3)) {cf : List ev_V → ev_M → Option ev_O} (hcf : ∀ as x o, cf as x = some o → ev_le x o.1 ∧ ((∀ v ∈ as, sn_okv shp x.2.2.1 v) → sn_Met shp rfT fty D cls cA ad base stc dat bys nam rty frm lco Ts nws sts EX l md cn as x o)) (h : s_call (dat cn).2.1 cf pc k L st x = some out) : sn_W shp rfT fty D cls cA ad base stc p l e R s m args below meth c Q md c0 s0 nL pc L st x := by
  intro H locs cells slots ls S
  unfold s_call at h
  split at h
  · next as st' htk =>
    obtain ⟨h8, h7⟩ := bif_some h
    unfold ev_after at h7
    split at h7
    · next o ho =>
      obtain ⟨bs, t1, t2, t3⟩ := ev_take_some _ _ _ _ _ htk
      rw [List.append_nil] at t1
      subst t1
      have hs1 : ∀ v ∈ as, sn_okv shp x.2.2.1 v := fun v hv => S.2.2.2.1 v (by rw [t2]; exact List.mem_append_left _ (List.mem_reverse.mpr hv))
      have hs2 : ∀ v ∈ st', sn_okv shp x.2.2.1 v := fun v hv => S.2.2.2.1 v (by rw [t2]; exact List.mem_append_right _ hv)
      obtain ⟨hle, hMt⟩ := hcf _ _ _ ho
      have hM := hMt hs1
      have hle2 := hm _ _ _ _ h7
      obtain ⟨⟨hcode, hini, hdd⟩, hstt, hlk⟩ := hC
      have hrest : 2 * (F0 m pc ls (st.map (sn_v ad))).monitorRoom + ((st'.map (sn_v ad)).map fun v => v.category).sum ≤ 8 := lv_room (by rw [sn_cats]; exact Nat.le_of_ble_eq_true h8)
      have hstk : (F0 m pc ls (st.map (sn_v ad))).stack = (as.map (sn_v ad)).reverse ++ st'.map (sn_v ad) := by
        show st.map (sn_v ad) = _
        rw [t2, List.map_append, List.map_reverse]
      have hcs : cells + (o.1.2.2.2.2.1 - x.2.2.2.2.1) ≤ R.cells ∧ slots + (o.1.2.2.2.2.2 - x.2.2.2.2.2) ≤ R.slots := by
        have z1 := S.2.2.2.2.1
        have z2 := S.2.2.2.2.2
        have z3 := hle.2.1
        have z4 := hle.2.2
        have z5 := hle2.2.1
        have z6 := hle2.2.2
        have z7 := hRR.1
        have z8 := hRR.2
        omega
      rcases hlk with hlk | ⟨host, hlk⟩
      · exact sn_after (va_runS (As := as.map (sn_v ad)) (rest := st'.map (sn_v ad)) F hM ⟨callB_of (dat cn).2.1 F.2.2.2.2 (sn_good hg hcode) rfl rfl rfl (F.2.2.2.2 _ hini) (F.2.2.2.2 _ hlk) hdd hR, F.2.2.2.2 _ hstt⟩ ⟨sn_blind, sn_pre S.1 S.2.1 hWK⟩ rfl (by rw [List.length_map]; exact t3) S.2.2.1.1 hstk hrest hd hcs) S hle hs2 hk h7
      · exact sn_after (va_runSN (As := as.map (sn_v ad)) (rest := st'.map (sn_v ad)) F hM ⟨va_cnB (dat cn).2.1 F.2.2.2.2 (sn_good hg hcode) rfl rfl rfl (hWK.2.1 _ hlk) (F.2.2.2.2 _ hini) hdd hR, F.2.2.2.2 _ hstt, trivial⟩ ⟨sn_blind, sn_pre S.1 S.2.1 hWK⟩ rfl (by rw [List.length_map]; exact t3) S.2.2.1.1 hstk hrest hd hcs) S hle hs2 hk h7
    · cases h7
  · cases h
theorem sn_recv {ci g i : Nat} {w : Nat × Nat} {rr : vw_C} {H : Heap} (hX : sn_X shp ad base) (hst : ∀ g w, shp g = (0, w) → g < 1000) (hK : va_K D cls (sn_tys cA) s) (h : sn_HR shp rfT fty D cls cA ad base stc md x H) (hv : sn_okv shp x.2.2.1 (vR g i)) (hs : shp g = (0, (ci, w))) (hci : cls[ci]? = some rr) : ∃ cellB : Cell, H[ad (g + i)]? = some cellB ∧ cellB.vm.isStatics = false ∧ s.vm.findClass rr.1 = some cellB.cls := by
  obtain ⟨rfl, hg, rr', hci', cell, q1, q2, q3, q4⟩ := sn_obj hX h hv hs hst
  cases hci.symm.trans hci'
  exact ⟨cell, q1, by rw [q3]; rfl, by rw [q2]; exact (hK.1 _ _ hci).2.1⟩
theorem ev_chk_recv {ci ml : Nat} {as : List ev_V} (h : ev_chk shp (ci + 1) ml as = true) : ∃ (g i : Nat) (r : List ev_V) (w : Nat × Nat), as = vR g i :: r ∧ shp g = (0, (ci, w)) := by
  unfold ev_chk at h
  have h2 := (Bool.and_eq_true _ _).mp h |>.2
  dsimp only at h2
  split at h2
  · next g i r =>
    split at h2
    · next cj w hs =>
      have : cj = ci := Nat.eq_of_beq_eq_true h2
      subst this
      exact ⟨g, i, r, w, rfl, hs⟩
    · cases h2
  · cases h2
theorem w_call_V (hX : sn_X shp ad base) (hst : ∀ g w, shp g = (0, w) → g < 1000) (F : CallFix p m c cc nL s args Ts own) (hg : ∀ w ∈ Ts, goodWord w = true) (hWK : sn_WK shp D cls cA ad base stc nws sts EX s) (hC : sn_CV cls dat bys nam rty Ts own idx cn) (hR : frm cn + 1 ≤ R.frames ∧ 8 + ((dat cn).1 + 11) + lco cn ≤ R.locals) (hRR : sn_R R c0 s0 out) (hm : ev_mk out k) (hk : sn_K shp rfT fty D cls cA ad base stc p l e R s m args below meth c Q md c0 s0 nL out k) (hd : decode cc pc = .ok (.invokevirtual idx, 3)) {cf : List ev_V → ev_M → Option ev_O} (hcf : ∀ as x o, cf as x = some o → ev_chk shp (dat cn).2.2.2 (dat cn).1 as = true ∧ ev_le x o.1 ∧ ((∀ v ∈ as, sn_okv shp x.2.2.1 v) → sn_Met shp rfT fty D cls cA ad base stc dat bys nam rty frm lco Ts nws sts EX l md cn as x o)) (h : s_call (dat cn).2.1 cf pc k L st x = some out) : sn_W shp rfT fty D cls cA ad base stc p l e R s m args below meth c Q md c0 s0 nL pc L st x := by
  intro H locs cells slots ls S
  unfold s_call at h
  split at h
  · next as st' htk =>
    obtain ⟨h8, h7⟩ := bif_some h
    unfold ev_after at h7
    split at h7
    · next o ho =>
      obtain ⟨bs, t1, t2, t3⟩ := ev_take_some _ _ _ _ _ htk
      rw [List.append_nil] at t1
      subst t1
      have hs1 : ∀ v ∈ as, sn_okv shp x.2.2.1 v := fun v hv => S.2.2.2.1 v (by rw [t2]; exact List.mem_append_left _ (List.mem_reverse.mpr hv))
      have hs2 : ∀ v ∈ st', sn_okv shp x.2.2.1 v := fun v hv => S.2.2.2.1 v (by rw [t2]; exact List.mem_append_right _ hv)
      obtain ⟨hchk, hle, hMt⟩ := hcf _ _ _ ho
      have hM := hMt hs1
      have hle2 := hm _ _ _ _ h7
      obtain ⟨⟨hcode, hini, hdd⟩, h1, hlk, hins, hsel, ci, rr, hkd, hci, hrr⟩ := hC
      rw [hkd] at hchk
      obtain ⟨g, i, r, w, has, hsg⟩ := ev_chk_recv hchk
      subst has
      have hrv := sn_recv hX hst hWK.1 S.1 (sn_hd hs1) hsg hci
      rw [hrr] at hrv
      have hrest : 2 * (F0 m pc ls (st.map (sn_v ad))).monitorRoom + ((st'.map (sn_v ad)).map fun v => v.category).sum ≤ 8 := lv_room (by rw [sn_cats]; exact Nat.le_of_ble_eq_true h8)
      have hstk : (F0 m pc ls (st.map (sn_v ad))).stack = (r.map (sn_v ad)).reverse ++ .ref (ad (g + i)) :: st'.map (sn_v ad) := by
        show st.map (sn_v ad) = _
        rw [t2, List.map_append, List.reverse_cons, List.map_append, List.append_assoc, List.map_reverse]
        rfl
      have hcs : cells + (o.1.2.2.2.2.1 - x.2.2.2.2.1) ≤ R.cells ∧ slots + (o.1.2.2.2.2.2 - x.2.2.2.2.2) ≤ R.slots := by
        have z1 := S.2.2.2.2.1
        have z2 := S.2.2.2.2.2
        have z3 := hle.2.1
        have z4 := hle.2.2
        have z5 := hle2.2.1
        have z6 := hle2.2.2
        have z7 := hRR.1
        have z8 := hRR.2
        omega
      have hlen : (r.map (sn_v ad)).length = (dat cn).2.1 - 1 := by
        rw [List.length_map, ← t3]
        rfl
      exact sn_after (va_runV (As := r.map (sn_v ad)) (rest := st'.map (sn_v ad)) F hM ⟨callB_of ((dat cn).2.1 - 1) F.2.2.2.2 (sn_good hg hcode) rfl rfl rfl (F.2.2.2.2 _ hini) (F.2.2.2.2 _ hlk) hdd hR, F.2.2.2.2 _ hins, F.2.2.2.2 _ hsel⟩ ⟨sn_blind, hrv, sn_pre S.1 S.2.1 hWK⟩ rfl hlen S.2.2.1.1 hstk hrest hd hcs) S hle hs2 hk h7
    · cases h7
  · cases h
theorem w_call_I (hX : sn_X shp ad base) (F : CallFix p m c cc nL s args Ts own) (hg : ∀ w ∈ Ts, goodWord w = true) (hWK : sn_WK shp D cls cA ad base stc nws sts EX s) (hC : sn_CI cls dat bys nam rty Ts own idx cn) (hR : frm cn + 1 ≤ R.frames ∧ 8 + ((dat cn).1 + 11) + lco cn ≤ R.locals) (hRR : sn_R R c0 s0 out) (hm : ev_mk out k) (hk : sn_K shp rfT fty D cls cA ad base stc p l e R s m args below meth c Q md c0 s0 nL out k) (hd : decode cc pc = .ok (.invokespecial idx, 3)) {cf : List ev_V → ev_M → Option ev_O} (hcf : ∀ as x o, cf as x = some o → ev_chk shp (dat cn).2.2.2 (dat cn).1 as = true ∧ ev_le x o.1 ∧ ((∀ v ∈ as, sn_okv shp x.2.2.1 v) → sn_Met shp rfT fty D cls cA ad base stc dat bys nam rty frm lco Ts nws sts EX l md cn as x o)) (h : s_call (dat cn).2.1 cf pc k L st x = some out) : sn_W shp rfT fty D cls cA ad base stc p l e R s m args below meth c Q md c0 s0 nL pc L st x := by
  intro H locs cells slots ls S
  unfold s_call at h
  split at h
  · next as st' htk =>
    obtain ⟨h8, h7⟩ := bif_some h
    unfold ev_after at h7
    split at h7
    · next o ho =>
      obtain ⟨bs, t1, t2, t3⟩ := ev_take_some _ _ _ _ _ htk
      rw [List.append_nil] at t1
      subst t1
      have hs1 : ∀ v ∈ as, sn_okv shp x.2.2.1 v := fun v hv => S.2.2.2.1 v (by rw [t2]; exact List.mem_append_left _ (List.mem_reverse.mpr hv))
      have hs2 : ∀ v ∈ st', sn_okv shp x.2.2.1 v := fun v hv => S.2.2.2.1 v (by rw [t2]; exact List.mem_append_right _ hv)
      obtain ⟨hchk, hle, hMt⟩ := hcf _ _ _ ho
      have hM := hMt hs1
      have hle2 := hm _ _ _ _ h7
      obtain ⟨⟨hcode, hini, hdd⟩, h1, hlk, hins, hnm, hrt, ci, rr, hkd, hci⟩ := hC
      rw [hkd] at hchk
      obtain ⟨g, i, r, w, has, hsg⟩ := ev_chk_recv hchk
      subst has
      have hrest : 2 * (F0 m pc ls (st.map (sn_v ad))).monitorRoom + ((st'.map (sn_v ad)).map fun v => v.category).sum ≤ 8 := lv_room (by rw [sn_cats]; exact Nat.le_of_ble_eq_true h8)
      have hstk : (F0 m pc ls (st.map (sn_v ad))).stack = (r.map (sn_v ad)).reverse ++ .ref (ad (g + i)) :: st'.map (sn_v ad) := by
        show st.map (sn_v ad) = _
        rw [t2, List.map_append, List.reverse_cons, List.map_append, List.append_assoc, List.map_reverse]
        rfl
      have hcs : cells + (o.1.2.2.2.2.1 - x.2.2.2.2.1) ≤ R.cells ∧ slots + (o.1.2.2.2.2.2 - x.2.2.2.2.2) ≤ R.slots := by
        have z1 := S.2.2.2.2.1
        have z2 := S.2.2.2.2.2
        have z3 := hle.2.1
        have z4 := hle.2.2
        have z5 := hle2.2.1
        have z6 := hle2.2.2
        have z7 := hRR.1
        have z8 := hRR.2
        omega
      have hlen : (r.map (sn_v ad)).length = (dat cn).2.1 - 1 := by
        rw [List.length_map, ← t3]
        rfl
      have hww : sn_ws dat bys nam rty Ts cn = Cond.code (nam cn) (bys cn) (dat cn).1 none :: Ts := by
        unfold sn_ws
        rw [hrt]
      exact sn_after (va_runI (As := r.map (sn_v ad)) (rest := st'.map (sn_v ad)) F hM ⟨callB_of ((dat cn).2.1 - 1) F.2.2.2.2 (sn_good hg hcode) hww rfl rfl (F.2.2.2.2 _ hini) (F.2.2.2.2 _ hlk) hdd hR, hnm, F.2.2.2.2 _ hins⟩ ⟨sn_blind, sn_pre S.1 S.2.1 hWK⟩ rfl hlen S.2.2.1.1 hstk hrest hd hcs) S hle hs2 hk h7
    · cases h7
  · cases h
end CAL
