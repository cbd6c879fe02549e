/-! ===== SOUNDNESS: a run of the interpreter is a run of the machine ===== -/
section SOU
/-- as Met.ofW, for a method whose class may have rows of natives, if this method has none -/
theorem so_ofW {l : Launch} {y : MethodName} {ws ws' : List Cond} {rm : Room} {Pc : Array Value → State → Prop} {Qc : Array Value → State → Outcome → State → Prop} {mc ms : Nat} {free : Addr → Prop} {cc : ByteArray} {maxL : Nat} {ret : Option FieldType}
    (hy : plainFor y = true) (hw : ws = Cond.code y cc maxL ret :: ws')
    (body : ∀ p e s m args below meth c s₁, BodyLoose p l y (headSpec ws rm) cc maxL ret e s m args below meth c s₁ → c.maxLocals = maxL → Pc args s →
      W p l e (headSpec ws rm).room s m args below meth c s.heap [] 0 0 (MQ below Qc args s mc ms free) (entryFrame m args maxL)) : Met l y ws rm Pc Qc mc ms free := by
  refine MetFree.of_bodyRF (code := cc) (maxLocals := maxL) (ret := ret) hy ?_ ?_
  · intro args s m h hn
    obtain ⟨meth, c, h1, h2, h3, h4, h5, h6, -, -⟩ := Cond.code_spec hn (atoms_spec (ws := ws) h _ (by rw [hw]; exact List.mem_cons_self))
    exact ⟨meth, c, h1, h2, h3, h4, h5, h6⟩
  · intro p e s m args below meth c s₁ B hml hP _ hst
    have hh0 : s₁.heap = s.heap := by rw [B.state]; rfl
    obtain ⟨t, a1, o, b1, b2, b3⟩ := body p e s m args below meth c s₁ B hml hP s₁ hh0 (Stand.of_body B)
    exact ⟨t, o, hst.trans a1, b1, b2, ⟨b3.1, b3.2⟩⟩
variable (shp : Nat → Nat × (Nat × (Nat × Nat))) (rfT : Nat → Nat → Nat) (fty : Nat → Nat → Nat) (D : va_G) (cls : List vw_C) (cA : Nat → ClassId) (ad : Nat → Nat) (base : Nat) (stc : Nat → Nat → Int32)
variable (cod : Nat → List (List ev_E)) (dat : Nat → ev_D) (prm : Nat → Option (List ev_V → ev_M → Option ev_O)) (bys : Nat → ByteArray) (nam : Nat → MethodName) (rty : Nat → Option FieldType) (frm lco : Nat → Nat) (Ts : List Cond) (nws : List (String × (Nat × (MethodName × String)))) (sts : List (String × (String × (String × Nat)))) (EX : State → Prop)
def so_room (M c : Nat) : Prop := frm c + 1 ≤ frm M ∧ 8 + ((dat c).1 + 11) + lco c ≤ lco M
/-- what must hold of a row of a method's table -/
def so_E (M pc : Nat) (q : Instr × (Nat × (Int × List Nat))) : Prop := decode (bys M) pc = .ok (q.1, q.2.1) ∧ match q.1 with
  | .aload _ => q.2.1 = 2
  | .aload_n _ => q.2.1 = 1
  | .iload _ => q.2.1 = 2
  | .iload_n _ => q.2.1 = 1
  | .lload _ => q.2.1 = 2
  | .lload_n _ => q.2.1 = 1
  | .astore j => q.2.1 = 2 ∧ j < (dat M).1
  | .astore_n j => q.2.1 = 1 ∧ j.val < (dat M).1
  | .istore j => q.2.1 = 2 ∧ j < (dat M).1
  | .istore_n j => q.2.1 = 1 ∧ j.val < (dat M).1
  | .lstore j => q.2.1 = 2 ∧ j + 1 < (dat M).1
  | .lstore_n j => q.2.1 = 1 ∧ j.val + 1 < (dat M).1
  | .iinc j _ => q.2.1 = 3 ∧ j < (dat M).1
  | .iconst v => q.2.1 = 1 ∧ v = q.2.2.1
  | .bipush v => q.2.1 = 2 ∧ (Int8.ofInt v).toInt32 = cI q.2.2.1
  | .sipush v => q.2.1 = 3 ∧ (Int16.ofInt v).toInt32 = cI q.2.2.1
  | .ldc idx => q.2.1 = 2 ∧ (ev_str q.2.2.1 = false → Cond.constant (nam M).cls idx (cI q.2.2.1) ∈ Ts)
  | .ldc_w idx => q.2.1 = 3 ∧ ev_str q.2.2.1 = false ∧ Cond.constant (nam M).cls idx (cI q.2.2.1) ∈ Ts
  | .lconst d => q.2.1 = 1 ∧ Int64.ofNat d.val = cL q.2.2.1
  | .ldc2_w idx => q.2.1 = 3 ∧ Cond.constantLong (nam M).cls idx (cL q.2.2.1) ∈ Ts
  | .getfield idx => q.2.1 = 3 ∧ sn_F cls fty Ts (nam M).cls idx q.2.2.1.toNat
  | .putfield idx => q.2.1 = 3 ∧ sn_F cls fty Ts (nam M).cls idx q.2.2.1.toNat ∧ sn_P cls (nam M).cls (nam M).name q.2.2.1.toNat
  | .getstatic idx => q.2.1 = 3 ∧ (∃ C n d, (C, (n, (d, q.2.2.1.toNat))) ∈ sts ∧ Cond.fieldLink (nam M).cls idx C n d ∈ Ts) ∧ 1000 ≤ q.2.2.1.toNat ∧ 0 < sn_cnt (shp q.2.2.1.toNat)
  | .goto off => q.2.1 = 3 ∧ (pc : Int) + off = (q.2.2.1.toNat : Int)
  | .ifCond _ off => q.2.1 = 3 ∧ (pc : Int) + off = (q.2.2.1.toNat : Int)
  | .if_icmp _ off => q.2.1 = 3 ∧ (pc : Int) + off = (q.2.2.1.toNat : Int)
  | .tableswitch d lo hi os => -2147483648 ≤ lo ∧ hi < 2147483648 ∧ hi = lo + os.toList.length - 1 ∧ 0 ≤ (pc : Int) + d ∧ ∀ o ∈ os.toList, 0 ≤ (pc : Int) + o
  | .lookupswitch d ps => (∀ q ∈ ps.toList, -2147483648 ≤ q.1 ∧ q.1 < 2147483648) ∧ (ps.toList.zip (ps.toList.drop 1)).all (fun (a, next) => a.1 < next.1) = true ∧ 0 ≤ (pc : Int) + d ∧ ∀ q ∈ ps.toList, 0 ≤ (pc : Int) + q.2
  | .invokestatic idx => q.2.1 = 3 ∧ (prm q.2.2.1.toNat = none → sn_CS dat bys nam rty Ts nws (nam M).cls idx q.2.2.1.toNat ∧ so_room dat frm lco M q.2.2.1.toNat)
  | .invokevirtual idx => q.2.1 = 3 ∧ (prm q.2.2.1.toNat = none → sn_CV cls dat bys nam rty Ts (nam M).cls idx q.2.2.1.toNat ∧ so_room dat frm lco M q.2.2.1.toNat)
  | .invokespecial idx => q.2.1 = 3 ∧ (prm q.2.2.1.toNat = none → sn_CI cls dat bys nam rty Ts (nam M).cls idx q.2.2.1.toNat ∧ so_room dat frm lco M q.2.2.1.toNat)
  | .ireturn => q.2.1 = 1 ∧ (((dat M).2.2.1 = false ∧ rty M = some .int) ∨ ((dat M).2.2.1 = true ∧ rty M = some .boolean))
  | .lreturn => q.2.1 = 1 ∧ rty M = some .long
  | .return_ => q.2.1 = 1 ∧ rty M = none
  | .new idx => q.2.1 = 3 ∧ ∀ rr : vw_C, cls[q.2.2.1.toNat]? = some rr → Cond.classLink (nam M).cls idx rr.1 ∈ Ts ∧ Cond.instantiable rr.1 rr.2.2 ∈ Ts ∧ Cond.initialized rr.1 ∈ Ts
  | .newarray a => q.2.1 = 2 ∧ Cond.arrayClass (newarray.typeOf a) ∈ Ts ∧ sn_ta q.2.2.1.toNat (newarray.typeOf a)
  | .multianewarray idx d => q.2.1 = 4 ∧ d = 2 ∧ Cond.classLink (nam M).cls idx "[[I" ∈ Ts ∧ Cond.arrayClass .int ∈ Ts
  | _ => q.2.1 = 1
/-- the frame of a method of ours -/
def so_F (p : Program) (R : Room) (s : State) (m : MethodId) (args : Array Value) (meth : Method) (c : Code) (M : Nat) : Prop := CallFix p m c (bys M) (dat M).1 s args Ts (nam M).cls ∧ meth.name = (nam M).name ∧ sn_WK shp D cls cA ad base stc nws sts EX s ∧ R.frames = frm M ∧ R.locals = lco M
/-- what is owed of the calls that are not walked here, and of texts -/
def so_P (l : Launch) (md : Bool) : Prop := ∀ (M pc idx : Nat) (r : Int) (dl : List Nat) (ins : Instr), ev_fnd2 (cod M) pc = some (ins, (3, (r, dl))) → decode (bys M) pc = .ok (ins, 3) → (ins = .invokestatic idx ∨ ins = .invokevirtual idx ∨ ins = .invokespecial idx) → ∀ w, prm r.toNat = some w → ∀ (p : Program) (e : Env) (R : Room) (s : State) (m : MethodId) (args : Array Value) (below : List Frame) (meth : Method) (c : Code) (Q : State → Prop) (c0 s0 : Nat) (out : ev_O) (k : ev_K) (L : ev_L) (st : List ev_V) (x : ev_M), so_F shp D cls cA ad base stc dat bys nam frm lco Ts nws sts EX p R s m args meth c M → sn_R R c0 s0 out → ev_mk out k → sn_K shp rfT fty D cls cA ad base stc p l e R s m args below meth c Q md c0 s0 (dat M).1 out k → s_call (dat r.toNat).2.1 w pc k L st x = some out → sn_W shp rfT fty D cls cA ad base stc p l e R s m args below meth c Q md c0 s0 (dat M).1 pc L st x
def so_T (l : Launch) : Prop := ∀ (M pc idx : Nat) (r : Int) (dl : List Nat), ev_fnd2 (cod M) pc = some (.ldc idx, (2, (r, dl))) → ev_str r = true → decode (bys M) pc = .ok (.ldc idx, 2) → sn_okv shp 0 (vR r.toNat 0) ∧ ∀ (p : Program) (e : Env) (R : Room) (s : State) (m : MethodId) (args : Array Value) (below : List Frame) (meth : Method) (c : Code) (Q : State → Prop) (H : Heap) (locs : List Loc) (cells slots : Nat) (ls : Array Slot) (rest : List Value), so_F shp D cls cA ad base stc dat bys nam frm lco Ts nws sts EX p R s m args meth c M → W p l e R s m args below meth c H locs cells slots Q (F0 m (pc + 2) ls (.ref (ad r.toNat) :: rest)) → W p l e R s m args below meth c H locs cells slots Q (F0 m pc ls rest)
/-- the tables themselves -/
def so_X : Prop := sn_X shp ad base ∧ (∀ g w, shp g = (0, w) → g < 1000) ∧ (∀ g t n y, shp g = (t, (n, (y, 0))) → t < 5 → g < 1000) ∧ (∀ g t n y, shp g = (t, (n, y)) → 1 ≤ t → n ≤ 60000) ∧ (∀ g n f w, shp g = (5, (n, (f, w))) → g + 1 + n ≤ 1000) ∧ (∀ g ci w y, shp g = (0, (ci, (w, y))) → ∃ rr : vw_C, cls[ci]? = some rr ∧ rr.2.2 = w) ∧ sn_C cls Ts ∧ sn_Ty cls fty ∧ (∀ w ∈ Ts, goodWord w = true) ∧ (∀ M pc q, ev_fnd2 (cod M) pc = some q → so_E shp fty cls dat prm bys nam rty frm lco Ts nws sts M pc q) ∧ (∀ c w as x o, prm c = some w → w as x = some o → ev_le x o.1) ∧ ∀ c, prm c = none → plainFor (nam c) = true
/-- the end of a method -/
def so_N (p : Program) (l : Launch) (e : Env) (R : Room) (s : State) (m : MethodId) (args : Array Value) (below : List Frame) (meth : Method) (c : Code) (Q : State → Prop) (md : Bool) (c0 s0 : Nat) (out : ev_O) (M : Nat) : Prop := ∀ (pc : Nat) (H : Heap) (locs : List Loc) (cells slots : Nat) (ls : Array Slot), sn_HR shp rfT fty D cls cA ad base stc md out.1 H → va_S (sn_A base) s.heap H locs → cells + c0 = out.1.2.2.2.2.1 → slots + s0 = out.1.2.2.2.2.2 → ((decode (bys M) pc = .ok (.ireturn, 1) ∧ ∃ z, out.2 = [vI z] ∧ (rty M = some .int ∨ (rty M = some .boolean ∧ bz z = true))) ∨ (decode (bys M) pc = .ok (.lreturn, 1) ∧ rty M = some .long ∧ ∃ z, out.2 = [vL z]) ∨ (decode (bys M) pc = .ok (.return_, 1) ∧ rty M = none ∧ out.2 = [])) → W p l e R s m args below meth c H locs cells slots Q (F0 m pc ls (out.2.map (sn_v ad)))
def so_Sim (l : Launch) (md : Bool) (f : Nat) : Prop := ∀ (M pc : Nat) (L : ev_L) (st : List ev_V) (x : ev_M) (out : ev_O), ev shp rfT cod dat prm md f M pc L st x = some out → ∀ (p : Program) (e : Env) (R : Room) (s : State) (m : MethodId) (args : Array Value) (below : List Frame) (meth : Method) (c : Code) (Q : State → Prop) (c0 s0 : Nat), so_F shp D cls cA ad base stc dat bys nam frm lco Ts nws sts EX p R s m args meth c M → sn_R R c0 s0 out → so_N shp rfT fty D cls cA ad base stc bys rty p l e R s m args below meth c Q md c0 s0 out M → sn_W shp rfT fty D cls cA ad base stc p l e R s m args below meth c Q md c0 s0 (dat M).1 pc L st x
variable {shp rfT fty D cls cA ad base stc cod dat prm bys nam rty frm lco Ts nws sts EX}
theorem ev_ent_nth : ∀ (as : List ev_V) (n i0 i : Nat) (v : ev_V), ev_nth (ev_ent as n) i = some (some v) → v ∈ as ∧ (i0 + i, sn_v ad v) ∈ lv_args i0 (as.map (sn_v ad))
  | [], n, i0, i, v, h => by
    exfalso
    have h9 : ∀ (n i : Nat), ev_nth (List.replicate n (none : Option ev_V)) i ≠ some (some v) := by
      intro n
      induction n with
      | zero => intro i; cases i <;> simp [ev_nth]
      | succ n ih =>
        intro i
        cases i with
        | zero => simp [ev_nth, List.replicate]
        | succ i => exact ih i
    exact h9 n i h
  | .inr (.inl z) :: r, n, i0, i, v, h => by
    match i, h with
    | 0, h =>
      cases h
      exact ⟨List.mem_cons_self, List.mem_cons_self⟩
    | 1, h => cases h
    | i + 2, h =>
      obtain ⟨h1, h2⟩ := ev_ent_nth r (n - 2) (i0 + 2) i v h
      refine ⟨List.mem_cons_of_mem _ h1, List.mem_cons_of_mem _ ?_⟩
      rw [show i0 + (i + 2) = i0 + 2 + i by omega]
      exact h2
  | .inl z :: r, n, i0, i, v, h => by
    match i, h with
    | 0, h =>
      cases h
      exact ⟨List.mem_cons_self, List.mem_cons_self⟩
    | i + 1, h =>
      obtain ⟨h1, h2⟩ := ev_ent_nth r (n - 1) (i0 + 1) i v h
      refine ⟨List.mem_cons_of_mem _ h1, List.mem_cons_of_mem _ ?_⟩
      rw [show i0 + (i + 1) = i0 + 1 + i by omega]
      exact h2
  | .inr (.inr z) :: r, n, i0, i, v, h => by
    match i, h with
    | 0, h =>
      cases h
      exact ⟨List.mem_cons_self, List.mem_cons_self⟩
    | i + 1, h =>
      obtain ⟨h1, h2⟩ := ev_ent_nth r (n - 1) (i0 + 1) i v h
      refine ⟨List.mem_cons_of_mem _ h1, List.mem_cons_of_mem _ ?_⟩
      rw [show i0 + (i + 1) = i0 + 1 + i by omega]
      exact h2
theorem lg_sl_len : ∀ as : List ev_V, (lg_sl (as.map (sn_v ad))).length = ev_cats as
  | [] => rfl
  | v :: r => by
    show (lg_sl (sn_v ad v :: r.map (sn_v ad))).length = ev_cat v + ev_cats r
    rw [← lg_sl_len r]
    unfold lg_sl
    rw [List.flatMap_cons, List.length_append]
    congr 1
    match v with
    | .inl _ => rfl
    | .inr (.inl _) => rfl
    | .inr (.inr _) => rfl
variable {l : Launch} {md : Bool}
theorem so_met {f : Nat} (hX : so_X shp fty cls ad base cod dat prm bys nam rty frm lco Ts nws sts) (hS : so_Sim shp rfT fty D cls cA ad base stc cod dat prm bys nam rty frm lco Ts nws sts EX l md f) {M : Nat} {as : List ev_V} {x : ev_M} {o : ev_O} (hpn : prm M = none) (hc : ev_cats as ≤ (dat M).1) (hok : ∀ v ∈ as, sn_okv shp x.2.2.1 v) (h : ev shp rfT cod dat prm md f M 0 (ev_ent as (dat M).1) [] x = some o) : sn_Met shp rfT fty D cls cA ad base stc dat bys nam rty frm lco Ts nws sts EX l md M as x o := by
  have hle := ev_mono hX.2.2.2.2.2.2.2.2.2.2.1 f M 0 _ [] x o h
  refine so_ofW (cc := bys M) (maxL := (dat M).1) (ret := rty M) (hX.2.2.2.2.2.2.2.2.2.2.2 M hpn) rfl ?_
  intro p e s m args below meth c s₁ B hml hv
  obtain ⟨rfl, hHR, hWK⟩ := hv
  have hts0 := atoms_spec (ws := sn_ws dat bys nam rty Ts M) B.pre
  rw [lg_entry_eq]
  have hl := lv_entry (as.map (sn_v ad)) (n := (dat M).1) (by rw [lg_sl_len]; exact hc)
  generalize (lg_sl (as.map (sn_v ad)) ++ List.replicate ((dat M).1 - (lg_sl (as.map (sn_v ad))).length) Slot.unset).toArray = ls at hl ⊢
  refine hS M 0 (ev_ent as (dat M).1) [] x o h p e (sn_rm frm lco M x o) s m _ below meth c _ x.2.2.2.2.1 x.2.2.2.2.2 ⟨⟨B.exec, B.bytes, hml, findClass_of_methodNamed B.named, fun w hw => hts0 w (List.mem_cons_of_mem _ hw)⟩, (name_of_methodNamed B.named B.method).1, hWK, rfl, rfl⟩ ?_ ?_ s.heap [] 0 0 ls ?_
  · have h1 := hle.2.1
    have h2 := hle.2.2
    refine ⟨?_, ?_⟩
    · show _ ≤ o.1.2.2.2.2.1 - x.2.2.2.2.1 + x.2.2.2.2.1
      omega
    · show _ ≤ o.1.2.2.2.2.2 - x.2.2.2.2.2 + x.2.2.2.2.2
      omega
  · intro pc H locs cells slots ls hH hSS e1 e2 hret
    have e3 : cells = o.1.2.2.2.2.1 - x.2.2.2.2.1 := by omega
    have e4 : slots = o.1.2.2.2.2.2 - x.2.2.2.2.2 := by omega
    subst e3
    subst e4
    rcases hret with ⟨hd, z, ho, hr⟩ | ⟨hd, hr, z, ho⟩ | ⟨hd, hr, ho⟩
    · have hn : sn_nor o := fun v hv q => by rw [ho] at hv; rw [List.mem_singleton.mp hv]; exact fun z => by cases z
      rw [ho]
      rcases hr with hr | ⟨hr, hz⟩
      · exact W.iret (v := z) B.exec B.bytes (B.returns.trans hr) (fun t ht hW => ⟨⟨⟨some (.int z), rfl, by rw [ho]; rfl⟩, by rw [ht]; exact hH, hn⟩, hSS.F ht⟩) hSS.2.2 hd B.notSynchronized
      · exact W.zret (v := z) B.exec B.bytes (B.returns.trans hr) (sn_nz z hz).1 (fun t ht hW => ⟨⟨⟨some (.int z), rfl, by rw [ho]; rfl⟩, by rw [ht]; exact hH, hn⟩, hSS.F ht⟩) hSS.2.2 hd B.notSynchronized
    · have hn : sn_nor o := fun v hv q => by rw [ho] at hv; rw [List.mem_singleton.mp hv]; exact fun z => by cases z
      rw [ho]
      exact W.lret (v := z) B.exec B.bytes (B.returns.trans hr) (fun t ht hW => ⟨⟨⟨some (.long z), rfl, by rw [ho]; rfl⟩, by rw [ht]; exact hH, hn⟩, hSS.F ht⟩) hSS.2.2 hd B.notSynchronized
    · have hn : sn_nor o := fun v hv q => by rw [ho] at hv; cases hv
      rw [ho]
      exact W.vret B.exec B.bytes (B.returns.trans hr) (fun t ht hW => ⟨⟨⟨none, rfl, by rw [ho]; rfl⟩, by rw [ht]; exact hH, hn⟩, hSS.F ht⟩) hSS.2.2 hd B.notSynchronized
  · refine ⟨hHR, va_S.rf, ⟨hl.1, hl.2.1, fun i v hv => ?_⟩, fun v hv => (by cases hv), Nat.zero_add _, Nat.zero_add _⟩
    obtain ⟨h1, h2⟩ := ev_ent_nth (ad := ad) as (dat M).1 0 i v hv
    have h3 := hl.2.2 _ h2
    refine ⟨hok v h1, ?_⟩
    rw [Nat.zero_add] at h3
    exact h3
end SOU
