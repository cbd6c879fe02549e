/-! ===== LEVEL 1: what is owed where something is thrown ===== -/
section L4
variable {D : va_G} {cA : Nat → ClassId} {ad : Nat → Nat} {base : Nat} {EX : State → Prop} {stc : Nat → Nat → Int32}
variable {p : Program} {l : Launch} {e : Env} {R : Room} {s : State} {m : MethodId} {args : Array Value} {below : List Frame} {meth : Method} {c : Code} {Q : State → Prop} {c0 s0 : Nat} {out : ev_O}
variable {pc idx na : Nat} {k : ev_K} {L : ev_L} {x : ev_M}
theorem w_M9 {M9 : Nat} {hh : List (Nat × Nat × Nat × Nat)} {as st' : List ev_V} {o : ev_O} (h1 : 544 ≤ M9) (h2 : M9 < 548) 
    (hF : so_F shpT D clsT cA ad base stc datT bysT namT frmT lcoT TsT nwsT stsT EX p R s m args meth c 539) (hcode : Cond.codeWith (nam9 M9) (bys9 M9) (dat9 M9).1 (rty9 M9) hh ∈ TsT) (hlk : Cond.methodLink (cnm 13) idx (nam9 M9) ∈ TsT) (hst : Cond.static (nam9 M9) ∈ TsT) (hdd : (parseMethodDescriptor (nam9 M9).desc).map (fun d => d.parameters.length) = some na) (hRR : sn_R R c0 s0 out) (hm : ev_mk out k) (hk : sn_K shpT rfT ftyT D clsT cA ad base stc p l e R s m args below meth c Q false c0 s0 (datT 539).1 out k) (hd : decode (bysT 539) pc = .ok (.invokestatic idx, 3))
    (hlen : as.length = na) (hc : ev_cats as ≤ (dat9 M9).1) (h5 : ev_cats st' ≤ 8) (hM0 : (∀ v ∈ as, sn_okv shpT x.2.2.1 v) → Met l (nam9 M9) (Cond.codeWith (nam9 M9) (bys9 M9) (dat9 M9).1 (rty9 M9) hh :: TsT) (sn_rm frm9 lco9 M9 x o) (sn_PC shpT rfT ftyT D clsT cA ad base stc nwsT stsT EX false as x) (sn_QC shpT rfT ftyT D clsT cA ad base stc false o) (o.1.2.2.2.2.1 - x.2.2.2.2.1) (o.1.2.2.2.2.2 - x.2.2.2.2.2) (sn_A base)) (hle : ev_le x o.1) (h7 : k (pc + 3) L (o.2 ++ st') o.1 = some out) : sn_W shpT rfT ftyT D clsT cA ad base stc p l e R s m args below meth c Q false c0 s0 (datT 539).1 pc L (as.reverse ++ st') x := by
  intro H locs cells slots ls S
  obtain ⟨l1, l2, l3, l4, l5, l6, l7⟩ := lw9_ok M9 h1 h2
  have hs1 : ∀ v ∈ as, sn_okv shpT x.2.2.1 v := fun v hv => S.2.2.2.1 v (List.mem_append_left _ (List.mem_reverse.mpr hv))
  have hs2 : ∀ v ∈ st', sn_okv shpT x.2.2.1 v := fun v hv => S.2.2.2.1 v (List.mem_append_right _ hv)
  have hM := hM0 hs1
  have hle2 := hm _ _ _ _ h7
  obtain ⟨Fx, hnm, hWK, hRf, hRl⟩ := id hF
  have hown : (namT 539).cls = cnm 13 := rfl
  rw [hown] at Fx
  have hrest : 2 * (F0 m pc ls ((as.reverse ++ st').map (sn_v ad))).monitorRoom + ((st'.map (sn_v ad)).map fun v => v.category).sum ≤ 8 := lv_room (by rw [sn_cats]; exact h5)
  have hstk : (F0 m pc ls ((as.reverse ++ st').map (sn_v ad))).stack = (as.map (sn_v ad)).reverse ++ st'.map (sn_v ad) := by
    show (as.reverse ++ st').map (sn_v ad) = _
    rw [List.map_append, List.map_reverse]
  have hcs : cells + (o.1.2.2.2.2.1 - x.2.2.2.2.1) ≤ R.cells ∧ slots + (o.1.2.2.2.2.2 - x.2.2.2.2.2) ≤ R.slots := by
    have z1 := S.2.2.2.2.1
    have z2 := S.2.2.2.2.2
    have z3 := hle.2.1
    have z4 := hle.2.2
    have z5 := hle2.2.1
    have z6 := hle2.2.2
    have z7 := hRR.1
    have z8 := hRR.2
    omega
  have hG : GoodIn TsT (va_wsS (cnm 13) idx (nam9 M9) (Cond.codeWith (nam9 M9) (bys9 M9) (dat9 M9).1 (rty9 M9) hh :: TsT)) := fun w hw => by
    have h3 : w ∈ TsT := by
      rcases List.mem_append.mp hw with h | h
      · rcases List.mem_cons.mp h with rfl | h
        · exact hlk
        · rcases List.mem_cons.mp h with rfl | h
          · exact hst
          · rw [List.mem_singleton.mp h, l1]
            exact w9_iniL
      · rcases List.mem_cons.mp h with rfl | h
        · exact hcode
        · exact h
    exact ⟨h3, good_of_word (TsT_good w h3)⟩
  exact sn_after (vx_runSW (As := as.map (sn_v ad)) (rest := st'.map (sn_v ad)) Fx hM (vx_cwSW na Fx.2.2.2.2 hG rfl rfl rfl ⟨l6, l7, hdd⟩ ⟨by show frm9 M9 + 1 ≤ _; rw [hRf, l2]; decide, by show _ + lco9 M9 ≤ _; rw [hRl, l3]; have : lcoT 539 = 319 := rfl; omega⟩) ⟨sn_blind, sn_pre S.1 S.2.1 hWK⟩ rfl (by rw [List.length_map]; exact hlen) S.2.2.1.1 hstk hrest hd hcs) S hle hs2 hk h7
end L4
section UR
variable {F f : Nat} {x : ev_M} {a b c d e v : Int32}
theorem ux_540 (fin : ev_K) : ev_unt shpT rfT cod9 dat9 (prm9 F) false f 540 fin 7 0 (ev_ent [vR 0 0, vI a, vI b, vI c, vI d, vI e] (dat9 540).1) [] x = if x.1 1 1 + cI 20 ≤ cI 4096 then fin 26 [oR 0 0, oI a, oI b, oI c, oI d, oI e] [] x else fin 16 [oR 0 0, oI a, oI b, oI c, oI d, oI e] [] x := rfl
theorem ux_541 (fin : ev_K) (h : evT F 308 0 [oI a, oI (cI 0), oI (x.1 1 1)] [] x = some (cvP x v)) : ev_unt shpT rfT cod9 dat9 (prm9 F) false f 541 fin 7 0 (ev_ent [vR 0 0, vI a] (dat9 541).1) [] x = if v = 0 then fin 25 [oR 0 0, oI a] [] x else fin 15 [oR 0 0, oI a] [] x := by
  show ev_after (evT F 308 0 [oI a, oI (cI 0), oI (x.1 1 1)] [] x) (fun q => ev_unt shpT rfT cod9 dat9 (prm9 F) false f 541 fin 1 12 [oR 0 0, oI a] (q.2 ++ []) q.1) = _
  rw [h]
  rfl
theorem ux_542 (fin : ev_K) (h : evT F 133 0 [oI a, oI b] [] x = some (cvP x v)) : ev_unt shpT rfT cod9 dat9 (prm9 F) false f 542 fin 4 0 (ev_ent [vR 0 0, vI a, vI b] (dat9 542).1) [] x = if v = 0 then fin 8 [oR 0 0, oI a, oI b] [] x else fin 18 [oR 0 0, oI a, oI b] [] x := by
  show ev_after (evT F 133 0 [oI a, oI b] [] x) (fun q => ev_unt shpT rfT cod9 dat9 (prm9 F) false f 542 fin 1 5 [oR 0 0, oI a, oI b] (q.2 ++ []) q.1) = _
  rw [h]
  rfl
theorem ux_543 (fin : ev_K) (h : evT F 133 0 [oI a, oI b] [] x = some (cvP x v)) : ev_unt shpT rfT cod9 dat9 (prm9 F) false f 543 fin 4 0 (ev_ent [vR 0 0, vI a, vI b, vI c] (dat9 543).1) [] x = if v = 0 then fin 8 [oR 0 0, oI a, oI b, oI c] [] x else fin 18 [oR 0 0, oI a, oI b, oI c] [] x := by
  show ev_after (evT F 133 0 [oI a, oI b] [] x) (fun q => ev_unt shpT rfT cod9 dat9 (prm9 F) false f 543 fin 1 5 [oR 0 0, oI a, oI b, oI c] (q.2 ++ []) q.1) = _
  rw [h]
  rfl
theorem ul_544 (fin : ev_K) : ev_unt shpT rfT cod9 dat9 (prm9 F) false f 544 fin 8 0 (ev_ent [vR 0 0, vI a, vI b, vI c, vI d, vI e, vR 681 0] (dat9 544).1) [] x = fin 11 [oR 0 0, oI a, oI b, oI c, oI d, oI e, oR 681 0, nn] ([vI a, vI b, vI c, vI d, vI e].reverse ++ vR 0 0 :: [vI (cI 0), vR 681 0]) x := rfl
theorem ul_545 (fin : ev_K) : ev_unt shpT rfT cod9 dat9 (prm9 F) false f 545 fin 2 0 (ev_ent [vR 0 0, vI a] (dat9 545).1) [] x = fin 2 [oR 0 0, oI a, nn] ([vI a].reverse ++ vR 0 0 :: []) x := rfl
theorem ul_546 (fin : ev_K) : ev_unt shpT rfT cod9 dat9 (prm9 F) false f 546 fin 5 0 (ev_ent [vR 0 0, vI a, vI b, vR 681 0] (dat9 546).1) [] x = fin 5 [oR 0 0, oI a, oI b, oR 681 0, nn] ([vI a, vI b].reverse ++ vR 0 0 :: [vI (cI 0), vR 681 0]) x := rfl
theorem ul_547 (fin : ev_K) : ev_unt shpT rfT cod9 dat9 (prm9 F) false f 547 fin 6 0 (ev_ent [vR 0 0, vI a, vI b, vI c, vR 681 0] (dat9 547).1) [] x = fin 7 [oR 0 0, oI a, oI b, oI c, oR 681 0, nn] ([vI a, vI b, vI c].reverse ++ vR 0 0 :: [vI (cI 0), vR 681 0]) x := rfl
end UR
theorem out_thr {x : ev_M} {a b : Int32} (h : a < 0 ∨ b < a) : fPH_outside x a (cI 0) b = some (cI 1) := by
  unfold fPH_outside fPH_outside_b10
  by_cases h1 : a < cI 0
  · rw [if_pos h1]
  · rw [if_neg h1, if_neg (fun z => (h.elim (fun q => h1 q) (fun q => absurd z (Int32.not_le.mpr q))))]
section HST
variable {p : Program} {l : Launch} {e : Env} {R : Room} {s : State} {m : MethodId} {args : Array Value} {below : List Frame} {meth : Method} {c : Code} {H : Heap} {locs : List Loc} {cells slots : Nat} {Q : State → Prop} {ls : Array Slot} {L : List (Nat × Value)} {q : Addr}
theorem hst_544 (hx : p.tables.exec = Jvm.exec) (hb : c.code = bys9 544) (h : lv_has ls (dat9 544).1 L) (k : ∀ ls' : Array Slot, W p l e R s m args below meth c H locs cells slots Q (F0 m (19 + 2) ls' [])) : W p l e R s m args below meth c H locs cells slots Q (F0 m 19 ls [.ref q]) := lv_astore hx hb (i := 7) (by decide +kernel) h (by decide) rfl (fun ls' _ => k ls')
theorem hst_546 (hx : p.tables.exec = Jvm.exec) (hb : c.code = bys9 546) (h : lv_has ls (dat9 546).1 L) (k : ∀ ls' : Array Slot, W p l e R s m args below meth c H locs cells slots Q (F0 m (13 + 2) ls' [])) : W p l e R s m args below meth c H locs cells slots Q (F0 m 13 ls [.ref q]) := lv_astore hx hb (i := 4) (by decide +kernel) h (by decide) rfl (fun ls' _ => k ls')
theorem hst_547 (hx : p.tables.exec = Jvm.exec) (hb : c.code = bys9 547) (h : lv_has ls (dat9 547).1 L) (k : ∀ ls' : Array Slot, W p l e R s m args below meth c H locs cells slots Q (F0 m (15 + 2) ls' [])) : W p l e R s m args below meth c H locs cells slots Q (F0 m 15 ls [.ref q]) := lv_astore hx hb (i := 5) (by decide +kernel) h (by decide) rfl (fun ls' _ => k ls')
theorem hst_545 (hx : p.tables.exec = Jvm.exec) (hb : c.code = bys9 545) (h : lv_has ls (dat9 545).1 L) (k : ∀ ls' : Array Slot, W p l e R s m args below meth c H locs cells slots Q (F0 m (8 + 1) ls' [])) : W p l e R s m args below meth c H locs cells slots Q (F0 m 8 ls [.ref q]) := lv_astore_n hx hb (k := 2) (by decide +kernel) rfl h (by decide) rfl (fun ls' _ => k ls')
end HST
section ST
variable {D : va_G} {cA : Nat → ClassId} {ad : Nat → Nat} {base : Nat} {stc : Nat → Nat → Int32} {l : Launch} {EX : State → Prop}
theorem so_thr (had : ∀ g, g < 1000 → ad g = base + g) (hX : so_X shpT ftyT clsT ad base codT datT prmT bysT namT rtyT frmT lcoT TsT nwsT stsT) (hXc : so_X shpT ftyT clsT ad base codT datT prmC bysT namT rtyT frmT lcoT TsT nwsT stsT) (hS : ∀ F, so_Sim shpT rfT ftyT D clsT cA ad base stc codT datT prmC bysT namT rtyT frmT lcoT TsT nwsT stsT EX l false F) (hl : l.stackTraces = false) (hE : ∀ s, EX s → exB ad base s) : so_Thr D cA ad base stc EX l := by
  intro pc idx as st' x hcase hd p e9 R s m args below meth c9 Q c0 s0 out k L hF hRR hm hk h5 h7
  have hX9 : ∀ F, so_X shpT ftyT clsT ad base cod9 dat9 (prm9 F) bys9 nam9 rty9 frm9 lco9 TsT nwsT stsT := fun F => soX9 had F (fun c as x o h => ev_mono hX.2.2.2.2.2.2.2.2.2.2.1 F c 0 _ [] x o h)
  have hP9 := soP9y (D := D) (cA := cA) (stc := stc) (EX := EX) (l := l) hXc hS
  have hS9 := soS9y (D := D) (cA := cA) (stc := stc) (EX := EX) (l := l) had hX hXc hS
  have hT9 : so_T shpT D clsT cA ad base stc cod9 dat9 bys9 nam9 frm9 lco9 TsT nwsT stsT EX l := soT9
  rcases hcase with ⟨rfl, a, b, c, d, e, rfl, hn⟩ | ⟨rfl, a, rfl, hn⟩ | ⟨rfl, a, b, rfl, hn⟩ | ⟨rfl, a, b, c, rfl, hn⟩
  · obtain ⟨F, hF0⟩ : ∃ F : Nat, F = 0 := ⟨_, rfl⟩
    refine w_M9 (M9 := 544) (as := [vR 0 0, vI a, vI b, vI c, vI d, vI e, vR 681 0]) (o := (mkX x, [vI (cI 1)])) (by decide) (by decide) hF w9_code_544 w9_lk_544 w9_st_544 (na := 7) (by decide +kernel) hRR hm hk hd rfl (Nat.le_of_ble_eq_true rfl) h5 (fun hok => ?_) ⟨Nat.le_refl _, Nat.le_add_right _ _, Nat.le_add_right _ _⟩ h7
    refine l_catch (F := F) (f := 0) (P := 11) (n := 8) (hp := 19) (fr := 16) (ct := 13) (X := "java/lang/IllegalStateException") (idx := 7) (r := [vI a, vI b, vI c, vI d, vI e]) (st' := [vI (cI 0), vR 681 0]) (L0 := [oR 0 0, oI a, oI b, oI c, oI d, oI e, oR 681 0, nn]) (wd := 2) (hX9 F) (hP9 F) hT9 (hS9 F 0) hE (by decide) (by decide) (Nat.le_of_ble_eq_true rfl) hok ((ul_544 _).trans ev_fin_at) rfl rfl (by decide) (fun hok2 => ?_) clL_ISE (List.mem_of_getElem? (i := 0) rfl) (by decide) (by decide) hst_544 (by decide +kernel) (by decide +kernel) rfl
    exact x_throw (M9 := 540) (P := 16) (n := 7) (ik := 109) (is := 111) (ic := 113) (F := F) (f := 0) (tx := "the tape has no room for twenty bytes") (L0 := [oR 0 0, oI a, oI b, oI c, oI d, oI e]) hl hE (hX9 F) (hP9 F) hT9 (hS9 F 0) (by decide) (by decide) (Nat.le_of_ble_eq_true rfl) hok2 ((ux_540 _).trans ((if_neg (Int32.not_le.mpr hn)).trans ev_fin_at)) (by decide +kernel) clk_ISE ini_ISE (fun args s h1 h2 => at_ISE h1 h2) (fun s z => (hE _ z).1.2.2.2.1) (by decide +kernel) (by decide +kernel) (by decide +kernel) (by decide +kernel) (by decide +kernel)
  · obtain ⟨F, h0⟩ := T_fPH_outside (s := x) (out_thr hn)
    have hF0 : evT F 308 0 [oI a, oI (cI 0), oI (x.1 1 1)] [] x = some (cvP x (cI 1)) := h0 F (Nat.le_refl _)
    refine w_M9 (M9 := 545) (as := [vR 0 0, vI a]) (o := (mkX x, [vI (cI 1)])) (by decide) (by decide) hF w9_code_545 w9_lk_545 w9_st_545 (na := 2) (by decide +kernel) hRR hm hk hd rfl (Nat.le_of_ble_eq_true rfl) h5 (fun hok => ?_) ⟨Nat.le_refl _, Nat.le_add_right _ _, Nat.le_add_right _ _⟩ h7
    refine l_catch (F := F) (f := 0) (P := 2) (n := 2) (hp := 8) (fr := 5) (ct := 19) (X := "java/lang/IllegalArgumentException") (idx := 15) (r := [vI a]) (st' := []) (L0 := [oR 0 0, oI a, nn]) (wd := 1) (hX9 F) (hP9 F) hT9 (hS9 F 0) hE (by decide) (by decide) (Nat.le_of_ble_eq_true rfl) hok ((ul_545 _).trans ev_fin_at) rfl rfl (by decide) (fun hok2 => ?_) clL_IAE (List.mem_of_getElem? (i := 1) rfl) (by decide) (by decide) hst_545 (by decide +kernel) (by decide +kernel) rfl
    exact x_throw (M9 := 541) (P := 15) (n := 7) (ik := 124) (is := 126) (ic := 128) (F := F) (f := 0) (tx := "the tape has no such place") (L0 := [oR 0 0, oI a]) hl hE (hX9 F) (hP9 F) hT9 (hS9 F 0) (by decide) (by decide) (Nat.le_of_ble_eq_true rfl) hok2 ((ux_541 _ hF0).trans ((if_neg (by decide)).trans ev_fin_at)) (by decide +kernel) clk_IAE ini_IAE (fun args s h1 h2 => at_IAE h1 h2) (fun s z => (hE _ z).1.2.2.2.2.1) (by decide +kernel) (by decide +kernel) (by decide +kernel) (by decide +kernel) (by decide +kernel)
  · obtain ⟨F, h0⟩ := T_fLog_hasByte (s := x) hn
    have hF0 : evT F 133 0 [oI a, oI b] [] x = some (cvP x 0) := h0 F (Nat.le_refl _)
    refine w_M9 (M9 := 546) (as := [vR 0 0, vI a, vI b, vR 681 0]) (o := (mkX x, [vI (cI 1)])) (by decide) (by decide) hF w9_code_546 w9_lk_546 w9_st_546 (na := 4) (by decide +kernel) hRR hm hk hd rfl (Nat.le_of_ble_eq_true rfl) h5 (fun hok => ?_) ⟨Nat.le_refl _, Nat.le_add_right _ _, Nat.le_add_right _ _⟩ h7
    refine l_catch (F := F) (f := 0) (P := 5) (n := 5) (hp := 13) (fr := 10) (ct := 25) (X := "java/lang/IndexOutOfBoundsException") (idx := 21) (r := [vI a, vI b]) (st' := [vI (cI 0), vR 681 0]) (L0 := [oR 0 0, oI a, oI b, oR 681 0, nn]) (wd := 2) (hX9 F) (hP9 F) hT9 (hS9 F 0) hE (by decide) (by decide) (Nat.le_of_ble_eq_true rfl) hok ((ul_546 _).trans ev_fin_at) rfl rfl (by decide) (fun hok2 => ?_) clL_IOE (List.mem_of_getElem? (i := 2) rfl) (by decide) (by decide) hst_546 (by decide +kernel) (by decide +kernel) rfl
    exact x_throw (M9 := 542) (P := 8) (n := 4) (ik := 179) (is := 181) (ic := 183) (F := F) (f := 0) (tx := "no such block or byte") (L0 := [oR 0 0, oI a, oI b]) hl hE (hX9 F) (hP9 F) hT9 (hS9 F 0) (by decide) (by decide) (Nat.le_of_ble_eq_true rfl) hok2 ((ux_542 _ hF0).trans ((if_pos rfl).trans ev_fin_at)) (by decide +kernel) clk_IOE ini_IOE (fun args s h1 h2 => at_IOE h1 h2) (fun s z => (hE _ z).1.2.2.2.2.2) (by decide +kernel) (by decide +kernel) (by decide +kernel) (by decide +kernel) (by decide +kernel)
  · obtain ⟨F, h0⟩ := T_fLog_hasByte (s := x) hn
    have hF0 : evT F 133 0 [oI a, oI b] [] x = some (cvP x 0) := h0 F (Nat.le_refl _)
    refine w_M9 (M9 := 547) (as := [vR 0 0, vI a, vI b, vI c, vR 681 0]) (o := (mkX x, [vI (cI 1)])) (by decide) (by decide) hF w9_code_547 w9_lk_547 w9_st_547 (na := 5) (by decide +kernel) hRR hm hk hd rfl (Nat.le_of_ble_eq_true rfl) h5 (fun hok => ?_) ⟨Nat.le_refl _, Nat.le_add_right _ _, Nat.le_add_right _ _⟩ h7
    refine l_catch (F := F) (f := 0) (P := 7) (n := 6) (hp := 15) (fr := 12) (ct := 25) (X := "java/lang/IndexOutOfBoundsException") (idx := 27) (r := [vI a, vI b, vI c]) (st' := [vI (cI 0), vR 681 0]) (L0 := [oR 0 0, oI a, oI b, oI c, oR 681 0, nn]) (wd := 2) (hX9 F) (hP9 F) hT9 (hS9 F 0) hE (by decide) (by decide) (Nat.le_of_ble_eq_true rfl) hok ((ul_547 _).trans ev_fin_at) rfl rfl (by decide) (fun hok2 => ?_) clL_IOE (List.mem_of_getElem? (i := 2) rfl) (by decide) (by decide) hst_547 (by decide +kernel) (by decide +kernel) rfl
    exact x_throw (M9 := 543) (P := 8) (n := 4) (ik := 179) (is := 181) (ic := 183) (F := F) (f := 0) (tx := "no such block or byte") (L0 := [oR 0 0, oI a, oI b, oI c]) hl hE (hX9 F) (hP9 F) hT9 (hS9 F 0) (by decide) (by decide) (Nat.le_of_ble_eq_true rfl) hok2 ((ux_543 _ hF0).trans ((if_pos rfl).trans ev_fin_at)) (by decide +kernel) clk_IOE ini_IOE (fun args s h1 h2 => at_IOE h1 h2) (fun s z => (hE _ z).1.2.2.2.2.2) (by decide +kernel) (by decide +kernel) (by decide +kernel) (by decide +kernel) (by decide +kernel)
end ST
