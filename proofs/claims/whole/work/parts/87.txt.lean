/-! ===== LEVEL 1: texts in the world; their prims; the table check of all prims' rows ===== -/
/-- what a world keeps of the two texts -/
def exT (ad : Nat → Nat) (base : Nat) (s : State) : Prop := (∃ va, sj_W (ad 1010) va 34 (fun j => cI ((txtB.getD j 0 : Nat) : Int)) (sn_A base) s s.heap) ∧ (∃ va, sj_W (ad 1011) va 12 (fun j => cI ((txtM.getD j 0 : Nat) : Int)) (sn_A base) s s.heap) ∧ vk_R (cnm 1) 73 "P#,@;S#,@,#,#,#;R#,@,#,#,#;H#,@,#;" (ad 1010) s ∧ vk_R (cnm 7) 108 "K#,#=#;V#=#;" (ad 1011) s
theorem exT_ES {ad : Nat → Nat} {base : Nat} : sn_ES base (exT ad base) := by
  intro s U hW hz ho h
  obtain ⟨⟨va, h1⟩, ⟨vb, h2⟩, h3, h4⟩ := h
  exact ⟨⟨va, (sj_W.moved hW.alike h1).kept ho⟩, ⟨vb, (sj_W.moved hW.alike h2).kept ho⟩, vk_R.warm hW h3, vk_R.warm hW h4⟩
theorem tx_atB : ∀ j, j < 34 → ((cI ((txtB.getD j 0 : Nat) : Int) &&& 255).toUInt32 % 65536).toInt32 = cI ((txtB.getD j 0 : Nat) : Int) := by decide +kernel
theorem tx_atM : ∀ j, j < 12 → ((cI ((txtM.getD j 0 : Nat) : Int) &&& 255).toUInt32 % 65536).toInt32 = cI ((txtM.getD j 0 : Nat) : Int) := by decide +kernel
theorem tx_ixB : ∀ n, n < 128 → sj_pos (fun j => cI ((txtB.getD j 0 : Nat) : Int)) (nI n).toInt8.toInt32 0 34 = cI (ev_pos txtB n 0) := by decide +kernel
theorem tx_ixM : ∀ n, n < 128 → sj_pos (fun j => cI ((txtM.getD j 0 : Nat) : Int)) (nI n).toInt8.toInt32 0 12 = cI (ev_pos txtM n 0) := by decide +kernel
theorem inb_nI {c : Int32} {n : Nat} (h : inb c n = true) : 0 ≤ c.toInt ∧ c.toInt < n ∧ ix c < n ∧ c = nI (ix c) := by
  have h2 : 0 ≤ c.toInt ∧ c.toInt < n := vp_in_iff.mp (inb_vp h)
  have h3 : (c.toInt.toNat : Int) = c.toInt := Int.toNat_of_nonneg h2.1
  have h4 := Int32.toInt_lt c
  have h5 : ix c = c.toInt.toNat := rfl
  refine ⟨h2.1, h2.2, by omega, Int32.toInt_inj.mp ?_⟩
  rw [nI_toInt (by omega), h5, h3]
section TXT
variable {D : va_G} {cA : Nat → ClassId} {ad : Nat → Nat} {base : Nat} {EX : State → Prop}
variable {p : Program} {l : Launch} {e : Env} {R : Room} {s : State} {m : MethodId} {args : Array Value} {below : List Frame} {meth : Method} {c : Code} {Q : State → Prop} {cc : ByteArray} {md : Bool} {c0 s0 nL : Nat} {out : ev_O}
variable {pc idx na : Nat} {k : ev_K} {L : ev_L} {st : List ev_V} {x : ev_M} {own : String} {stc : Nat → Nat → Int32}
theorem w_str {y : MethodName} {b : ByteArray} {n fr lo g N : Nat} {ret : Option FieldType} {av : List Value} {r : Int32} {f : Nat → Int32} {H : Heap} {locs : List Loc} {cells slots : Nat} {ls : Array Slot} {st' : List ev_V} (F : CallFix p m c cc nL s args TsT own) (hM : ∀ va, sj_M l y b n ret fr lo (ad g) va N f (sn_A base) H (.ref (ad g) :: av) r) (hE : ∃ va, sj_W (ad g) va N f (sn_A base) s s.heap) (hcode : Cond.code y b n ret ∈ TsT) (hlk : Cond.methodLink own idx y ∈ TsT) (hin : Cond.instanceMethod y ∈ TsT) (hsel : Cond.selects y.cls y y ∈ TsT) (hcl : y.cls = "java/lang/String") (hdd : y.cls ≠ "java/lang/invoke/MethodHandle" ∧ y.cls ≠ "java/lang/invoke/VarHandle" ∧ (parseMethodDescriptor y.desc).map (fun d => d.parameters.length) = some av.length) (hR : fr + 1 ≤ R.frames ∧ 8 + (n + 11) + lo ≤ R.locals) (S : sn_S shpT rfT ftyT D clsT cA ad base stc md s c0 s0 nL x H locs cells slots ls L st) (hs2 : ∀ v ∈ st', sn_okv shpT x.2.2.1 v) (h5 : ev_cats st' ≤ 8) (hRR : sn_R R c0 s0 out) (hm : ev_mk out k) (hk : sn_K shpT rfT ftyT D clsT cA ad base stc p l e R s m args below meth c Q md c0 s0 nL out k) (hd : decode cc pc = .ok (.invokevirtual idx, 3)) (h4 : k (pc + 3) L (vI r :: st') x = some out) : W p l e R s m args below meth c H locs cells slots Q (F0 m pc ls (av.reverse ++ .ref (ad g) :: st'.map (sn_v ad))) := by
  obtain ⟨va, hE⟩ := hE
  have hle := hm _ _ _ _ h4
  have z1 := S.2.2.2.2.1
  have z2 := S.2.2.2.2.2
  have z5 := hle.2.1
  have z6 := hle.2.2
  have z7 := hRR.1
  have z8 := hRR.2
  refine sj_callV (va := va) F (hM va) hcode (by rw [hcl]; exact w_ini_String) hlk hin hsel hcl hdd hR (fun U _ hw => (sj_W.moved hw.alike hE).kept S.2.1.2.1) (va_Orecv hE.1 S.2.1) S.2.1 S.2.2.1.1 (by rw [sn_cats]; exact h5) ⟨by omega, by omega⟩ hd fun locs1 hS1 => ?_
  exact hk _ _ _ _ h4 H locs1 cells slots ls ⟨S.1, hS1, S.2.2.1, sn_ok1 trivial hs2, S.2.2.2.2⟩
theorem txt_g {g i : Nat} (h : txt_ok g i = true) : (g = 1010 ∨ g = 1011) ∧ i = 0 := by
  unfold txt_ok at h
  obtain ⟨h1, h2⟩ := (Bool.and_eq_true _ _).mp h
  exact ⟨((Bool.or_eq_true _ _).mp h1).imp Nat.eq_of_beq_eq_true Nat.eq_of_beq_eq_true, Nat.eq_of_beq_eq_true h2⟩
theorem w_slen (hE : exT ad base s) (F : CallFix p m c cc nL s args TsT "PostHouse$Tape") (hR : 5 ≤ R.frames ∧ 200 ≤ R.locals) (hRR : sn_R R c0 s0 out) (hm : ev_mk out k) (hk : sn_K shpT rfT ftyT D clsT cA ad base stc p l e R s m args below meth c Q md c0 s0 nL out k) (hd : decode cc pc = .ok (.invokevirtual 38, 3)) (h : s_call na pSlen pc k L st x = some out) : sn_W shpT rfT ftyT D clsT cA ad base stc p l e R s m args below meth c Q md c0 s0 nL pc L st x := by
  intro H locs cells slots ls S
  obtain ⟨as, st', o, q1, q2, q3, q4, q5⟩ := prm_args h
  unfold pSlen at q1
  split at q1
  · next g i =>
    obtain ⟨g1, g2⟩ := bif_some q1
    have q3 : st = vR g i :: st' := q3
    subst q3
    have hs2 := sn_tl S.2.2.2.1
    obtain ⟨hg, rfl⟩ := txt_g g1
    rcases hg with rfl | rfl
    · cases g2
      exact w_str (g := 1010) (av := []) (st' := st') F (fun va => sj_length (by decide)) hE.1 w_code_J0_length_8abf5 w_lk_Tape_38_J0_length_8abf5 w_inst_J0_length_8abf5 w_sel_J0_length_8abf5 rfl ⟨by decide, by decide, dd_J0_length_8abf5⟩ ⟨by omega, by omega⟩ S hs2 q5 hRR hm hk hd q4
    · cases g2
      exact w_str (g := 1011) (av := []) (st' := st') F (fun va => sj_length (by decide)) hE.2.1 w_code_J0_length_8abf5 w_lk_Tape_38_J0_length_8abf5 w_inst_J0_length_8abf5 w_sel_J0_length_8abf5 rfl ⟨by decide, by decide, dd_J0_length_8abf5⟩ ⟨by omega, by omega⟩ S hs2 q5 hRR hm hk hd q4
  · cases q1
theorem w_sat (hE : exT ad base s) (F : CallFix p m c cc nL s args TsT "PostHouse$Tape") (hR : 5 ≤ R.frames ∧ 200 ≤ R.locals) (hRR : sn_R R c0 s0 out) (hm : ev_mk out k) (hk : sn_K shpT rfT ftyT D clsT cA ad base stc p l e R s m args below meth c Q md c0 s0 nL out k) (hd : decode cc pc = .ok (.invokevirtual 41, 3)) (h : s_call na pSat pc k L st x = some out) : sn_W shpT rfT ftyT D clsT cA ad base stc p l e R s m args below meth c Q md c0 s0 nL pc L st x := by
  intro H locs cells slots ls S
  obtain ⟨as, st', o, q1, q2, q3, q4, q5⟩ := prm_args h
  unfold pSat at q1
  split at q1
  · next g j i =>
    obtain ⟨g1, g2⟩ := bif_some q1
    have q3 : st = .inl i :: vR g j :: st' := q3
    subst q3
    have hs2 := sn_tl (sn_tl S.2.2.2.1)
    obtain ⟨hg, rfl⟩ := txt_g g1
    unfold fSat at g2
    split at g2
    · next hi =>
      cases g2
      rcases hg with rfl | rfl
      · have hi : inb i 34 = true := hi
        have e9 := tx_atB (ix i) (inb_nI hi).2.2.1
        have q4 : k (pc + 3) L (vI (cI ((txtB.getD (ix i) 0 : Nat) : Int)) :: st') x = some out := q4
        rw [← e9] at q4
        exact w_str (g := 1010) (av := [.int i]) (st' := st') F (fun va => sj_charAt (inb_vp hi) (by decide)) hE.1 w_code_J0_charAt_5068e w_lk_Tape_41_J0_charAt_5068e w_inst_J0_charAt_5068e w_sel_J0_charAt_5068e rfl ⟨by decide, by decide, dd_J0_charAt_5068e⟩ ⟨by omega, by omega⟩ S hs2 q5 hRR hm hk hd q4
      · have hi : inb i 12 = true := hi
        have e9 := tx_atM (ix i) (inb_nI hi).2.2.1
        have q4 : k (pc + 3) L (vI (cI ((txtM.getD (ix i) 0 : Nat) : Int)) :: st') x = some out := q4
        rw [← e9] at q4
        exact w_str (g := 1011) (av := [.int i]) (st' := st') F (fun va => sj_charAt (inb_vp hi) (by decide)) hE.2.1 w_code_J0_charAt_5068e w_lk_Tape_41_J0_charAt_5068e w_inst_J0_charAt_5068e w_sel_J0_charAt_5068e rfl ⟨by decide, by decide, dd_J0_charAt_5068e⟩ ⟨by omega, by omega⟩ S hs2 q5 hRR hm hk hd q4
    · cases g2
  · cases q1
theorem w_six (hE : exT ad base s) (F : CallFix p m c cc nL s args TsT "PostHouse$Tape") (hR : 5 ≤ R.frames ∧ 200 ≤ R.locals) (hRR : sn_R R c0 s0 out) (hm : ev_mk out k) (hk : sn_K shpT rfT ftyT D clsT cA ad base stc p l e R s m args below meth c Q md c0 s0 nL out k) (hd : decode cc pc = .ok (.invokevirtual 33, 3)) (h : s_call na pSix pc k L st x = some out) : sn_W shpT rfT ftyT D clsT cA ad base stc p l e R s m args below meth c Q md c0 s0 nL pc L st x := by
  intro H locs cells slots ls S
  obtain ⟨as, st', o, q1, q2, q3, q4, q5⟩ := prm_args h
  unfold pSix at q1
  split at q1
  · next g j i =>
    obtain ⟨g1, g2⟩ := bif_some q1
    have q3 : st = .inl i :: vR g j :: st' := q3
    subst q3
    have hs2 := sn_tl (sn_tl S.2.2.2.1)
    obtain ⟨hg, rfl⟩ := txt_g g1
    unfold fSix at g2
    split at g2
    · next hi =>
      cases g2
      obtain ⟨i1, i2, i3, i4⟩ := inb_nI hi
      have j1 : ¬ i < 0 := fun z => by
        have z := lt_i.mp z
        rw [i32_0] at z
        omega
      have j2 : i ≤ 255 := le_i.mpr (by
        rw [show (255 : Int32).toInt = 255 from rfl]
        omega)
      rcases hg with rfl | rfl
      · have e9 := tx_ixB (ix i) i3
        rw [← i4] at e9
        have q4 : k (pc + 3) L (vI (cI (ev_pos txtB (ix i) 0)) :: st') x = some out := q4
        rw [← e9] at q4
        exact w_str (g := 1010) (av := [.int i]) (st' := st') F (fun va => sj_indexOf (by decide) (by decide) j1 j2) hE.1 w_code_J0_indexOf_0f7a4 w_lk_Tape_33_J0_indexOf_0f7a4 w_inst_J0_indexOf_0f7a4 w_sel_J0_indexOf_0f7a4 rfl ⟨by decide, by decide, dd_J0_indexOf_0f7a4⟩ ⟨by omega, by omega⟩ S hs2 q5 hRR hm hk hd q4
      · have e9 := tx_ixM (ix i) i3
        rw [← i4] at e9
        have q4 : k (pc + 3) L (vI (cI (ev_pos txtM (ix i) 0)) :: st') x = some out := q4
        rw [← e9] at q4
        exact w_str (g := 1011) (av := [.int i]) (st' := st') F (fun va => sj_indexOf (by decide) (by decide) j1 j2) hE.2.1 w_code_J0_indexOf_0f7a4 w_lk_Tape_33_J0_indexOf_0f7a4 w_inst_J0_indexOf_0f7a4 w_sel_J0_indexOf_0f7a4 rfl ⟨by decide, by decide, dd_J0_indexOf_0f7a4⟩ ⟨by omega, by omega⟩ S hs2 q5 hRR hm hk hd q4
    · cases g2
  · cases q1
end TXT
