/-! ===== LEVEL 1: the law's own four, where something is thrown ===== -/
section THR
variable {D : va_G} {cA : Nat → ClassId} {ad : Nat → Nat} {base : Nat} {stc : Nat → Nat → Int32} {l : Launch} {EX : State → Prop}
def rmX (M9 : Nat) : Room := { frames := frm9 M9, cells := 1, slots := 6, locals := lco9 M9 }
theorem fit_names : ∀ n ∈ ["java/lang/RuntimeException", "java/lang/Exception"], Bundle.fit n = true := by decide +kernel
theorem x_throw {M9 P n ik is ic : Nat} {F f : Nat} {X tx : String} {as : List ev_V} {L0 : ev_L} {x : ev_M} (hl : l.stackTraces = false) (hE : ∀ s, EX s → exB ad base s)
    (hX9 : so_X shpT ftyT clsT ad base cod9 dat9 (prm9 F) bys9 nam9 rty9 frm9 lco9 TsT nwsT stsT) (hP9 : so_P shpT rfT ftyT D clsT cA ad base stc cod9 dat9 (prm9 F) bys9 nam9 frm9 lco9 TsT nwsT stsT EX l false) (hT9 : so_T shpT D clsT cA ad base stc cod9 dat9 bys9 nam9 frm9 lco9 TsT nwsT stsT EX l) (hS9 : so_Sim shpT rfT ftyT D clsT cA ad base stc cod9 dat9 (prm9 F) bys9 nam9 rty9 frm9 lco9 TsT nwsT stsT EX l false f)
    (h1 : 540 ≤ M9) (h2 : M9 ≤ 543) (hc : ev_cats as ≤ (dat9 M9).1) (hok : ∀ v ∈ as, sn_okv shpT x.2.2.1 v)
    (hrun : ev_unt shpT rfT cod9 dat9 (prm9 F) false f M9 (ev_fin P L0 [] x (x, [])) n 0 (ev_ent as (dat9 M9).1) [] x = some (x, []))
    (hfit : Bundle.fit X = true) (hlk : Cond.classLink "PostHouse" ik X ∈ TsT) (hini : Cond.initialized X ∈ TsT)
    (hat : ∀ (args : Array Value) (s : State), (∀ w ∈ TsT, w.before args s = true) → (∀ w ∈ xN, va_Nw w s) → ∀ w ∈ vx_atS "PostHouse" ic X ["java/lang/RuntimeException", "java/lang/Exception"], w.before args s = true ∧ vx_ot w = true)
    (hstr : ∀ s, EX s → ∃ a, vk_R "PostHouse" is tx a s)
    (d0 : decode (bys9 M9) P = .ok (.new ik, 3)) (d3 : decode (bys9 M9) (P + 3) = .ok (.dup, 1)) (d4 : decode (bys9 M9) (P + 4) = .ok (.ldc is, 2)) (d6 : decode (bys9 M9) (P + 6) = .ok (.invokespecial ic, 3)) (d9 : decode (bys9 M9) (P + 9) = .ok (.athrow, 1)) :
    vx_Met l (nam9 M9) (Cond.code (nam9 M9) (bys9 M9) (dat9 M9).1 (rty9 M9) :: TsT) (rmX M9) (sn_PC shpT rfT ftyT D clsT cA ad base stc nwsT stsT EX false as x) (fun _ _ _ _ => False) (xcT D cA ad base stc X x) 1 6 (sn_A base) := by
  have hno : (nam9 M9).cls = "PostHouse" := nam9_own h1 h2
  refine vx_ofW (cc := bys9 M9) (maxL := (dat9 M9).1) (ret := rty9 M9) (by rw [hno]; decide +kernel) rfl ?_
  intro p e s m args below meth c s₁ B hml ht hv
  obtain ⟨rfl, hHR, hWK⟩ := hv
  have hts0 := atoms_spec (ws := Cond.code (nam9 M9) (bys9 M9) (dat9 M9).1 (rty9 M9) :: TsT) B.pre
  have hts : ∀ w ∈ TsT, w.before (as.map (sn_v ad)).toArray s = true := fun w hw => hts0 w (List.mem_cons_of_mem _ hw)
  have hown : s.vm.findClass "PostHouse" = some m.cls := by rw [← hno]; exact findClass_of_methodNamed B.named
  rw [lg_entry_eq]
  have hl0 := lv_entry (as.map (sn_v ad)) (n := (dat9 M9).1) (by rw [lg_sl_len]; exact hc)
  generalize (lg_sl (as.map (sn_v ad)) ++ List.replicate ((dat9 M9).1 - (lg_sl (as.map (sn_v ad))).length) Slot.unset).toArray = ls at hl0 ⊢
  have hF : so_F shpT D clsT cA ad base stc dat9 bys9 nam9 frm9 lco9 TsT nwsT stsT EX p (rmX M9) s m (as.map (sn_v ad)).toArray meth c M9 := ⟨⟨B.exec, B.bytes, hml, findClass_of_methodNamed B.named, hts⟩, (name_of_methodNamed B.named B.method).1, hWK, rfl, rfl⟩
  have hRR : sn_R (rmX M9) x.2.2.2.2.1 x.2.2.2.2.2 (x, []) := ⟨by show x.2.2.2.2.1 ≤ 1 + x.2.2.2.2.1; omega, by show x.2.2.2.2.2 ≤ 6 + x.2.2.2.2.2; omega⟩
  obtain ⟨hEA, hEN⟩ := hE s hWK.2.2.2.2.2.2.2
  obtain ⟨sa, hsa⟩ := hstr s hWK.2.2.2.2.2.2.2
  obtain ⟨-, hU, hN, -⟩ := hEA
  refine (so_until hX9 hP9 hT9 hS9 hF hRR (ev_fin_K ?_) (ev_fin_mk (ev_le.rf _)) n).1 0 _ _ _ hrun s.heap [] 0 0 ls ⟨hHR, va_S.rf, ⟨hl0.1, hl0.2.1, fun i v hv => ?_⟩, fun v hv => (by cases hv), Nat.zero_add _, Nat.zero_add _⟩
  · intro H locs cells slots ls S
    obtain ⟨q1, q2, q3, q4, q5, q6⟩ := id S
    have q5 : cells + x.2.2.2.2.1 = x.2.2.2.2.1 := q5
    have q6 : slots + x.2.2.2.2.2 = x.2.2.2.2.2 := q6
    have z1 : cells = 0 := by omega
    have z2 : slots = 0 := by omega
    subst z1
    subst z2
    refine vx_throwS (A := sn_A base) (rest := []) (names := ["java/lang/RuntimeException", "java/lang/Exception"]) (own := "PostHouse") (cls := X) (text := tx) (ik := ik) (is := is) (ic := ic) (sa := sa) B.exec B.bytes hl hown hfit fit_names (hts _ hlk) (hts _ hini) hsa (fun w hw => (hat _ s hts hEN w hw).1) ?_ hU hN q2 (q3.1.trans hml.symm) d0 d3 d4 d6 d9 (fun z hz => (ht z hz).elim) ?_ ?_ ?_ ?_ B.notSynchronized ?_ q2.2.2 (Nat.le_refl _) (Nat.le_refl _)
    · intro w hw
      rcases List.mem_cons.mp hw with rfl | hw
      · exact (ok_g hts hlk).2
      · rcases List.mem_cons.mp hw with rfl | hw
        · exact (ok_g hts hini).2
        · exact (hat _ s hts hEN w hw).2
    · show 5 < frm9 M9
      rw [(frm9_own h1 h2).1]; decide
    · show 0 + 82 ≤ lco9 M9
      rw [(frm9_own h1 h2).2]; decide
    · exact Nat.le_refl _
    · exact Nat.le_refl _
    · intro t _ hz ho
      exact ⟨rfl, q1.grow ho, Nat.le_trans q2.1 hz, fun q h1 h2 => (ho q (Nat.lt_of_lt_of_le h1 q2.1)).trans (q2.2.1 q h1 h2)⟩
  · obtain ⟨h1, h2⟩ := ev_ent_nth (ad := ad) as (dat9 M9).1 0 i v hv
    have h3 := hl0.2.2 _ h2
    refine ⟨hok v h1, ?_⟩
    rw [Nat.zero_add] at h3
    exact h3

theorem sn_HR.mkX {x : ev_M} {H : Heap} (h : sn_HR shpT rfT ftyT D clsT cA ad base stc false x H) : sn_HR shpT rfT ftyT D clsT cA ad base stc false (mkX x) H := h
/-- the law's own, which catches what the class throws -/
theorem l_catch {M9 P n hp fr ct wd : Nat} {F f : Nat} {X : String} {idx : Nat} {as r : List ev_V} {st' : List ev_V} {L0 : ev_L} {x : ev_M} {dl : List Nat}
    (hX9 : so_X shpT ftyT clsT ad base cod9 dat9 (prm9 F) bys9 nam9 rty9 frm9 lco9 TsT nwsT stsT) (hP9 : so_P shpT rfT ftyT D clsT cA ad base stc cod9 dat9 (prm9 F) bys9 nam9 frm9 lco9 TsT nwsT stsT EX l false) (hT9 : so_T shpT D clsT cA ad base stc cod9 dat9 bys9 nam9 frm9 lco9 TsT nwsT stsT EX l) (hS9 : so_Sim shpT rfT ftyT D clsT cA ad base stc cod9 dat9 (prm9 F) bys9 nam9 rty9 frm9 lco9 TsT nwsT stsT EX l false f)
    (hE : ∀ s, EX s → exB ad base s) (h1 : 544 ≤ M9) (h2 : M9 < 548) (hc : ev_cats as ≤ (dat9 M9).1) (hok : ∀ v ∈ as, sn_okv shpT x.2.2.1 v)
    (hrun : ev_unt shpT rfT cod9 dat9 (prm9 F) false f M9 (ev_fin P L0 (r.reverse ++ vR 0 0 :: st') x (x, [])) n 0 (ev_ent as (dat9 M9).1) [] x = some (x, []))
    (hq : ev_fnd2 (cod9 M9) P = some (.invokevirtual idx, (3, (((M9 - 4 : Nat) : Int), dl)))) (hlen : r.length + 1 = (dat9 (M9 - 4)).2.1) (h8 : ev_cats st' ≤ 8)
    (hMX : (∀ v ∈ vR 0 0 :: r, sn_okv shpT x.2.2.1 v) → vx_Met l (nam9 (M9 - 4)) (Cond.code (nam9 (M9 - 4)) (bys9 (M9 - 4)) (dat9 (M9 - 4)).1 (rty9 (M9 - 4)) :: TsT) (rmX (M9 - 4)) (sn_PC shpT rfT ftyT D clsT cA ad base stc nwsT stsT EX false (vR 0 0 :: r) x) (fun _ _ _ _ => False) (xcT D cA ad base stc X x) 1 6 (sn_A base))
    (hcl : Cond.classLink (cnm 13) ct X ∈ TsT) (hcast : Cond.castable X X ∈ xN) (h0 : ct ≠ 0) (hfr : P < fr)
    (hst : ∀ {p : Program} {e : Env} {R : Room} {s : State} {m : MethodId} {args : Array Value} {below : List Frame} {meth : Method} {c : Code} {H : Heap} {locs : List Loc} {cells slots : Nat} {Q : State → Prop} {ls : Array Slot} {L : List (Nat × Value)} {q : Addr}, p.tables.exec = Jvm.exec → c.code = bys9 M9 → lv_has ls (dat9 M9).1 L → (∀ ls' : Array Slot, W p l e R s m args below meth c H locs cells slots Q (F0 m (hp + wd) ls' [])) → W p l e R s m args below meth c H locs cells slots Q (F0 m hp ls [.ref q]))
    (dC : decode (bys9 M9) (hp + wd) = .ok (.iconst 1, 1)) (dR : decode (bys9 M9) (hp + wd + 1) = .ok (.ireturn, 1)) (hret : rty9 M9 = some .int) :
    Met l (nam9 M9) (Cond.codeWith (nam9 M9) (bys9 M9) (dat9 M9).1 (rty9 M9) [(0, fr, hp, ct)] :: TsT) (sn_rm frm9 lco9 M9 x (mkX x, [vI (cI 1)])) (sn_PC shpT rfT ftyT D clsT cA ad base stc nwsT stsT EX false as x) (sn_QC shpT rfT ftyT D clsT cA ad base stc false (mkX x, [vI (cI 1)])) ((mkX x).2.2.2.2.1 - x.2.2.2.2.1) ((mkX x).2.2.2.2.2 - x.2.2.2.2.2) (sn_A base) := by
  obtain ⟨l1, l2, l3, l4, l5, l6, l7⟩ := lw9_ok M9 h1 h2
  have b1 : (mkX x).2.2.2.2.1 - x.2.2.2.2.1 = 4 := by show x.2.2.2.2.1 + 4 - _ = 4; omega
  have b2 : (mkX x).2.2.2.2.2 - x.2.2.2.2.2 = 64 := by show x.2.2.2.2.2 + 64 - _ = 64; omega
  refine so_ofWW (cc := bys9 M9) (maxL := (dat9 M9).1) (ret := rty9 M9) l5 rfl ?_
  intro p e s m args below meth c s₁ B hml hv
  obtain ⟨rfl, hHR, hWK⟩ := hv
  have hts0 := atoms_spec (ws := Cond.codeWith (nam9 M9) (bys9 M9) (dat9 M9).1 (rty9 M9) [(0, fr, hp, ct)] :: TsT) B.pre
  have hts : ∀ w ∈ TsT, w.before (as.map (sn_v ad)).toArray s = true := fun w hw => hts0 w (List.mem_cons_of_mem _ hw)
  have htab := vx_table (x := nam9 M9) B (hts0 _ List.mem_cons_self)
  have hown : s.vm.findClass (cnm 13) = some m.cls := by rw [← l1]; exact findClass_of_methodNamed B.named
  rw [lg_entry_eq]
  have hl0 := lv_entry (as.map (sn_v ad)) (n := (dat9 M9).1) (by rw [lg_sl_len]; exact hc)
  generalize (lg_sl (as.map (sn_v ad)) ++ List.replicate ((dat9 M9).1 - (lg_sl (as.map (sn_v ad))).length) Slot.unset).toArray = ls at hl0 ⊢
  have hF : so_F shpT D clsT cA ad base stc dat9 bys9 nam9 frm9 lco9 TsT nwsT stsT EX p (sn_rm frm9 lco9 M9 x (mkX x, [vI (cI 1)])) s m (as.map (sn_v ad)).toArray meth c M9 := ⟨⟨B.exec, B.bytes, hml, findClass_of_methodNamed B.named, hts⟩, (name_of_methodNamed B.named B.method).1, hWK, rfl, rfl⟩
  have hRR : sn_R (sn_rm frm9 lco9 M9 x (mkX x, [vI (cI 1)])) x.2.2.2.2.1 x.2.2.2.2.2 (x, []) := ⟨Nat.le_add_left _ _, Nat.le_add_left _ _⟩
  obtain ⟨hEA, hEN⟩ := hE s hWK.2.2.2.2.2.2.2
  refine (so_until hX9 hP9 hT9 hS9 hF hRR (ev_fin_K ?_) (ev_fin_mk (ev_le.rf _)) n).1 0 _ _ _ hrun s.heap [] 0 0 ls ⟨hHR, va_S.rf, ⟨hl0.1, hl0.2.1, fun i v hv => ?_⟩, fun v hv => (by cases hv), Nat.zero_add _, Nat.zero_add _⟩
  · intro H locs cells slots ls S
    have z1 : cells = 0 := by have h9 : cells + x.2.2.2.2.1 = x.2.2.2.2.1 := S.2.2.2.2.1; omega
    have z2 : slots = 0 := by have h9 : slots + x.2.2.2.2.2 = x.2.2.2.2.2 := S.2.2.2.2.2; omega
    subst z1
    subst z2
    obtain ⟨hX1, hst0, hstw, hsz, hst5, hw0, hC, hTy, hgood, hEE, hpm, hpl⟩ := id hX9
    obtain ⟨hd, -, hxx⟩ := hEE M9 P _ hq
    have hM4 : ((M9 - 4 : Nat) : Int).toNat = M9 - 4 := Int.toNat_natCast _
    have hpn : prm9 F (M9 - 4) = none := by
      unfold prm9
      cases hb : Nat.ble (M9 - 4) 539 with
      | false => rfl
      | true =>
        have := Nat.le_of_ble_eq_true hb
        omega
    obtain ⟨⟨⟨hcode, hini, hdd⟩, hd1, hlk, hins, hsel, ci, rr, hkd, hci, hrr⟩, hroom⟩ := hxx (by dsimp only; rw [hM4]; exact hpn)
    dsimp only at hcode hini hdd hd1 hlk hins hsel hkd hroom hrr
    rw [hM4] at hcode hini hdd hd1 hlk hins hsel hkd hroom hrr
    have hs1 : ∀ v ∈ vR 0 0 :: r, sn_okv shpT x.2.2.1 v := fun v hv => S.2.2.2.1 v (by
      rcases List.mem_cons.mp hv with rfl | hv
      · exact List.mem_append_right _ List.mem_cons_self
      · exact List.mem_append_left _ (List.mem_reverse.mpr hv))
    have hs2 : ∀ v ∈ st', sn_okv shpT x.2.2.1 v := fun v hv => S.2.2.2.1 v (List.mem_append_right _ (List.mem_cons_of_mem _ hv))
    have hM := hMX hs1
    have hkd9 : (dat9 (M9 - 4)).2.2.2 = 12 := by
      have h9 : M9 = 544 ∨ M9 = 545 ∨ M9 = 546 ∨ M9 = 547 := by omega
      rcases h9 with rfl | rfl | rfl | rfl <;> rfl
    obtain rfl : ci = 11 := by omega
    obtain ⟨w0, hsg⟩ : ∃ w, shpT 0 = (0, (11, w)) := ⟨_, rfl⟩
    have hrv := sn_recv hX1 hst0 hWK.1 S.1 (sn_hd hs1) hsg hci
    rw [hrr] at hrv
    have hrest : 2 * (F0 m P ls ((r.reverse ++ vR 0 0 :: st').map (sn_v ad))).monitorRoom + ((st'.map (sn_v ad)).map fun v => v.category).sum ≤ 8 := lv_room (by rw [sn_cats]; exact h8)
    have hstk : (F0 m P ls ((r.reverse ++ vR 0 0 :: st').map (sn_v ad))).stack = (r.map (sn_v ad)).reverse ++ .ref (ad (0 + 0)) :: st'.map (sn_v ad) := by
      show (r.reverse ++ vR 0 0 :: st').map (sn_v ad) = _
      rw [List.map_append, List.map_reverse]
      rfl
    have hrun2 := vx_runV (R := sn_rm frm9 lco9 M9 x (mkX x, [vI (cI 1)])) (As := r.map (sn_v ad)) (rest := st'.map (sn_v ad)) (l := l) (e := e) (below := below) (meth := meth) (locs := locs) (cells := 0) (slots := 0) hF.1 hM ⟨callB_of ((dat9 (M9 - 4)).2.1 - 1) hts (sn_good hgood hcode) rfl rfl rfl (hts _ hini) (hts _ hlk) hdd hroom, hts _ hins, hts _ hsel⟩ ⟨sn_blind, hrv, sn_pre S.1 S.2.1 hWK⟩ rfl (by rw [List.length_map]; omega) S.2.2.1.1 hstk hrest hd ⟨by show 0 + 1 ≤ (mkX x).2.2.2.2.1 - x.2.2.2.2.1; omega, by show 0 + 6 ≤ (mkX x).2.2.2.2.2 - x.2.2.2.2.2; omega⟩
    intro T hT XS
    rcases hrun2 T hT XS with ⟨-, -, -, -, -, -, -, -, -, -, hfalse, -⟩ | ⟨q, st₀, t, T', L9, E, ce, g0, X', hL, e1, e2, ⟨rfl, hHR9, hz, hk2⟩, hce, hcv, hcl9, stp⟩
    · exact hfalse.elim
    rw [g0] at hz hk2
    have hSS : va_S (sn_A base) s.heap T'.heap (locs ++ L9) := by
      refine ⟨Nat.le_trans S.2.1.1 (by rw [e1]; exact hz), fun q h1 h2 => ?_, fun q hq => ?_⟩
      · rw [e1, hk2 q (Nat.lt_of_lt_of_le h1 S.2.1.1) h2]
        exact S.2.1.2.1 q h1 h2
      · rcases List.mem_append.mp hq with h9 | h9
        · exact S.2.1.2.2 q h9
        · exact hL q h9
    have kk : W p l e (sn_rm frm9 lco9 M9 x (mkX x, [vI (cI 1)])) s m (as.map (sn_v ad)).toArray below meth c T'.heap (locs ++ L9) (0 + 1) (0 + 6) (MQ below (sn_QC shpT rfT ftyT D clsT cA ad base stc false (mkX x, [vI (cI 1)])) (as.map (sn_v ad)).toArray s ((mkX x).2.2.2.2.1 - x.2.2.2.2.1) ((mkX x).2.2.2.2.2 - x.2.2.2.2.2) (sn_A base)) (F0 m hp ls [.ref q]) := by
      refine hst B.exec B.bytes (S.2.2.1.has shpT ad) (fun ls' => ?_)
      refine lv_iconst B.exec B.bytes dC (v := cI 1) rfl ?_
      refine W.widen (k := (mkX x).2.2.2.2.1 - x.2.2.2.2.1) (n := (mkX x).2.2.2.2.2 - x.2.2.2.2.2) (by omega) (by omega) ?_
      refine W.iret (v := cI 1) B.exec B.bytes (B.returns.trans hret) (fun t9 ht hW => ⟨⟨⟨some (.int (cI 1)), rfl, rfl⟩, ?_, fun v hv q => ?_⟩, hSS.F ht⟩) hSS.2.2 dR B.notSynchronized
      · show sn_HR shpT rfT ftyT D clsT cA ad base stc false (mkX x) t9.heap
        rw [ht, e1]
        exact hHR9.mkX
      · rw [List.mem_singleton.mp hv]
        exact fun z => by cases z
    have hcatch := vx_catch (p := p) (l := l) (e := e) (below := below) (meth := meth) (rest := st'.map (sn_v ad)) (pc := P) (q := q) (E := E) (name := E) (ce := ce) hown [] ⟨0, fr, hp, ct⟩ [] htab (fun z hz => nomatch hz) (by unfold covers; simp [hfr]) h0 (hts _ hcl) (va_tabs (xN_ot _ hcast) rfl (hEN _ hcast)) (by rw [e1]; exact hce) hcv hcl9 kk
    obtain ⟨t9, st9, q9⟩ := hcatch T' rfl X'
    exact ⟨t9, stp.trans st9, q9⟩
  · obtain ⟨h1, h2⟩ := ev_ent_nth (ad := ad) as (dat9 M9).1 0 i v hv
    have h3 := hl0.2.2 _ h2
    refine ⟨hok v h1, ?_⟩
    rw [Nat.zero_add] at h3
    exact h3
end THR

