/-! ===== a run of the interpreter is a run of the machine, for a method with a table of exceptions ===== -/
section SOW
theorem so_ofWW {l : Launch} {y : MethodName} {ws ws' : List Cond} {rm : Room} {Pc : Array Value → State → Prop} {Qc : Array Value → State → Outcome → State → Prop} {mc ms : Nat} {free : Addr → Prop} {cc : ByteArray} {maxL : Nat} {ret : Option FieldType} {hh : List (Nat × Nat × Nat × Nat)}
    (hy : plainFor y = true) (hw : ws = Cond.codeWith y cc maxL ret hh :: ws')
    (body : ∀ p e s m args below meth c s₁, BodyLoose p l y (headSpec ws rm) cc maxL ret e s m args below meth c s₁ → c.maxLocals = maxL → Pc args s →
      W p l e (headSpec ws rm).room s m args below meth c s.heap [] 0 0 (MQ below Qc args s mc ms free) (entryFrame m args maxL)) : Met l y ws rm Pc Qc mc ms free := by
  refine MetFree.of_bodyRF (code := cc) (maxLocals := maxL) (ret := ret) hy ?_ ?_
  · intro args s m h hn
    obtain ⟨m9, meth, c, hn9, h1, h2, h3, h4, -, h5, h6, -⟩ := Cond.codeWith_spec (atoms_spec (ws := ws) h _ (by rw [hw]; exact List.mem_cons_self))
    cases hn.symm.trans hn9
    exact ⟨meth, c, h1, h2, h3, h4, h5, h6⟩
  · intro p e s m args below meth c s₁ B hml hP _ hst
    have hh0 : s₁.heap = s.heap := by rw [B.state]; rfl
    obtain ⟨t, a1, o, b1, b2, b3⟩ := body p e s m args below meth c s₁ B hml hP s₁ hh0 (Stand.of_body B)
    exact ⟨t, o, hst.trans a1, b1, b2, ⟨b3.1, b3.2⟩⟩
variable {shp : Nat → Nat × (Nat × (Nat × Nat))} {rfT : Nat → Nat → Nat} {fty : Nat → Nat → Nat} {D : va_G} {cls : List vw_C} {cA : Nat → ClassId} {ad : Nat → Nat} {base : Nat} {stc : Nat → Nat → Int32}
variable {cod : Nat → List (List ev_E)} {dat : Nat → ev_D} {prm : Nat → Option (List ev_V → ev_M → Option ev_O)} {bys : Nat → ByteArray} {nam : Nat → MethodName} {rty : Nat → Option FieldType} {frm lco : Nat → Nat} {Ts : List Cond} {nws : List (String × (Nat × (MethodName × String)))} {sts : List (String × (String × (String × Nat)))} {EX : State → Prop}
variable {l : Launch} {md : Bool}
theorem so_metW {hh : List (Nat × Nat × Nat × Nat)} {f : Nat} (hX : so_X shp fty cls ad base cod dat prm bys nam rty frm lco Ts nws sts) (hS : so_Sim shp rfT fty D cls cA ad base stc cod dat prm bys nam rty frm lco Ts nws sts EX l md f) {M : Nat} {as : List ev_V} {x : ev_M} {o : ev_O} (hpn : prm M = none) (hc : ev_cats as ≤ (dat M).1) (hok : ∀ v ∈ as, sn_okv shp x.2.2.1 v) (h : ev shp rfT cod dat prm md f M 0 (ev_ent as (dat M).1) [] x = some o) : Met l (nam M) (Cond.codeWith (nam M) (bys M) (dat M).1 (rty M) hh :: Ts) (sn_rm frm lco M x o) (sn_PC shp rfT fty D cls cA ad base stc nws sts EX md as x) (sn_QC shp rfT fty D cls cA ad base stc md o) (o.1.2.2.2.2.1 - x.2.2.2.2.1) (o.1.2.2.2.2.2 - x.2.2.2.2.2) (sn_A base) := by
  have hle := ev_mono hX.2.2.2.2.2.2.2.2.2.2.1 f M 0 _ [] x o h
  refine so_ofWW (cc := bys M) (maxL := (dat M).1) (ret := rty M) (hX.2.2.2.2.2.2.2.2.2.2.2 M hpn) rfl ?_
  intro p e s m args below meth c s₁ B hml hv
  obtain ⟨rfl, hHR, hWK⟩ := hv
  have hts0 := atoms_spec (ws := Cond.codeWith (nam M) (bys M) (dat M).1 (rty M) hh :: Ts) B.pre
  rw [lg_entry_eq]
  have hl := lv_entry (as.map (sn_v ad)) (n := (dat M).1) (by rw [lg_sl_len]; exact hc)
  generalize (lg_sl (as.map (sn_v ad)) ++ List.replicate ((dat M).1 - (lg_sl (as.map (sn_v ad))).length) Slot.unset).toArray = ls at hl ⊢
  refine hS M 0 (ev_ent as (dat M).1) [] x o h p e (sn_rm frm lco M x o) s m _ below meth c _ x.2.2.2.2.1 x.2.2.2.2.2 ⟨⟨B.exec, B.bytes, hml, findClass_of_methodNamed B.named, fun w hw => hts0 w (List.mem_cons_of_mem _ hw)⟩, (name_of_methodNamed B.named B.method).1, hWK, rfl, rfl⟩ ?_ ?_ s.heap [] 0 0 ls ?_
  · have h1 := hle.2.1
    have h2 := hle.2.2
    refine ⟨?_, ?_⟩
    · show _ ≤ o.1.2.2.2.2.1 - x.2.2.2.2.1 + x.2.2.2.2.1
      omega
    · show _ ≤ o.1.2.2.2.2.2 - x.2.2.2.2.2 + x.2.2.2.2.2
      omega
  · intro pc H locs cells slots ls hH hSS e1 e2 hret
    have e3 : cells = o.1.2.2.2.2.1 - x.2.2.2.2.1 := by omega
    have e4 : slots = o.1.2.2.2.2.2 - x.2.2.2.2.2 := by omega
    subst e3
    subst e4
    rcases hret with ⟨hd, z, ho, hr⟩ | ⟨hd, hr, z, ho⟩ | ⟨hd, hr, ho⟩
    · have hn : sn_nor o := fun v hv q => by rw [ho] at hv; rw [List.mem_singleton.mp hv]; exact fun z => by cases z
      rw [ho]
      rcases hr with hr | ⟨hr, hz⟩
      · exact W.iret (v := z) B.exec B.bytes (B.returns.trans hr) (fun t ht hW => ⟨⟨⟨some (.int z), rfl, by rw [ho]; rfl⟩, by rw [ht]; exact hH, hn⟩, hSS.F ht⟩) hSS.2.2 hd B.notSynchronized
      · exact W.zret (v := z) B.exec B.bytes (B.returns.trans hr) (sn_nz z hz).1 (fun t ht hW => ⟨⟨⟨some (.int z), rfl, by rw [ho]; rfl⟩, by rw [ht]; exact hH, hn⟩, hSS.F ht⟩) hSS.2.2 hd B.notSynchronized
    · have hn : sn_nor o := fun v hv q => by rw [ho] at hv; rw [List.mem_singleton.mp hv]; exact fun z => by cases z
      rw [ho]
      exact W.lret (v := z) B.exec B.bytes (B.returns.trans hr) (fun t ht hW => ⟨⟨⟨some (.long z), rfl, by rw [ho]; rfl⟩, by rw [ht]; exact hH, hn⟩, hSS.F ht⟩) hSS.2.2 hd B.notSynchronized
    · have hn : sn_nor o := fun v hv q => by rw [ho] at hv; cases hv
      rw [ho]
      exact W.vret B.exec B.bytes (B.returns.trans hr) (fun t ht hW => ⟨⟨⟨none, rfl, by rw [ho]; rfl⟩, by rw [ht]; exact hH, hn⟩, hSS.F ht⟩) hSS.2.2 hd B.notSynchronized
  · refine ⟨hHR, va_S.rf, ⟨hl.1, hl.2.1, fun i v hv => ?_⟩, fun v hv => (by cases hv), Nat.zero_add _, Nat.zero_add _⟩
    obtain ⟨h1, h2⟩ := ev_ent_nth (ad := ad) as (dat M).1 0 i v hv
    have h3 := hl.2.2 _ h2
    refine ⟨hok v h1, ?_⟩
    rw [Nat.zero_add] at h3
    exact h3
end SOW
