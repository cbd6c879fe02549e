/-! ===== the eight methods around exceptions: their tables are what soundness asks ===== -/
theorem getD_all {α : Type} {P : α → Prop} {l : List α} {d : α} (h : ∀ x ∈ l, P x) (hd : P d) (i : Nat) : P ((ev_nth l i).getD d) := by
  cases e : ev_nth l i with
  | none => exact hd
  | some x => exact h x (nth_mem e)
theorem c9_540 : cod9 540 = k9_X11_feed := rfl
theorem c9_541 : cod9 541 = k9_X11_end := rfl
theorem c9_542 : cod9 542 = k9_X11_octet := rfl
theorem c9_543 : cod9 543 = k9_X11_poke := rfl
theorem c9_544 : cod9 544 = k9_L_feed := rfl
theorem c9_545 : cod9 545 = k9_L_end := rfl
theorem c9_546 : cod9 546 = k9_L_octet := rfl
theorem c9_547 : cod9 547 = k9_L_poke := rfl
theorem cod9_ok (F : Nat) {M pc : Nat} {q : Instr × (Nat × (Int × List Nat))} (h : ev_fnd2 (cod9 M) pc = some q) : (540 ≤ M ∧ M < 548) ∧ so_E shpT ftyT clsT dat9 (prm9 F) bys9 nam9 rty9 frm9 lco9 TsT nwsT stsT M pc q := by
  obtain ⟨row, h1, h2⟩ := fnd2_mem h
  by_cases hM : 540 ≤ M ∧ M < 548
  · refine ⟨hM, ?_⟩
    have h9 : M = 540 ∨ M = 541 ∨ M = 542 ∨ M = 543 ∨ M = 544 ∨ M = 545 ∨ M = 546 ∨ M = 547 := by omega
    rcases h9 with rfl | rfl | rfl | rfl | rfl | rfl | rfl | rfl
    · rw [c9_540] at h1
      have h3 := r9_540 F row h1 (pc, q) h2
      exact h3
    · rw [c9_541] at h1
      have h3 := r9_541 F row h1 (pc, q) h2
      exact h3
    · rw [c9_542] at h1
      have h3 := r9_542 F row h1 (pc, q) h2
      exact h3
    · rw [c9_543] at h1
      have h3 := r9_543 F row h1 (pc, q) h2
      exact h3
    · rw [c9_544] at h1
      have h3 := r9_544 F row h1 (pc, q) h2
      exact h3
    · rw [c9_545] at h1
      have h3 := r9_545 F row h1 (pc, q) h2
      exact h3
    · rw [c9_546] at h1
      have h3 := r9_546 F row h1 (pc, q) h2
      exact h3
    · rw [c9_547] at h1
      have h3 := r9_547 F row h1 (pc, q) h2
      exact h3
  · exfalso
    have e : cod9 M = [] := by
      unfold cod9
      cases hb : Nat.ble M 539 with
      | true => rfl
      | false =>
        have h3 : ¬ M ≤ 539 := fun z => by rw [Nat.ble_eq.mpr z] at hb; cases hb
        simp only [cond_false]
        have h4 : cod9_tab.length = 8 := rfl
        rw [nth_none cod9_tab (M - 540) (by rw [h4]; omega)]
        rfl
    rw [e] at h1
    cases h1
theorem pl9 : ∀ x ∈ nam9_tab, plainFor x = true := by decide +kernel
theorem soX9 {ad : Nat → Nat} {base : Nat} (had : ∀ g, g < 1000 → ad g = base + g) (F : Nat) (hle : ∀ c as x o, evT F c 0 (ev_ent as (datT c).1) [] x = some o → ev_le x o.1) : so_X shpT ftyT clsT ad base cod9 dat9 (prm9 F) bys9 nam9 rty9 frm9 lco9 TsT nwsT stsT := by
  refine ⟨snX had, shp_0, shp_w, fun g t n y h => shp_n g t n y h, fun _ _ _ _ h => (shp_five h).2, shp_obj, clsT_C, clsT_Ty, TsT_good, fun M pc q h => (cod9_ok F h).2, fun c w as x o h1 h2 => ?_, fun c h => ?_⟩
  · unfold prm9 at h1
    cases hb : Nat.ble c 539 with
    | false => rw [hb] at h1; cases h1
    | true =>
      rw [hb] at h1
      cases h1
      exact hle c as x o (bif_some h2).2
  · unfold prm9 at h
    cases hb : Nat.ble c 539 with
    | true => rw [hb] at h; cases h
    | false =>
      unfold nam9
      rw [hb]
      simp only [cond_false]
      exact getD_all (P := fun x => plainFor x = true) (d := ⟨cnm 11, "", ""⟩) pl9 (by decide +kernel) _
/-- the rows of the eight that call what lies below 540 -/
def pk9 (M : Nat) (ins : Instr) (r : Int) : Bool := bif Nat.ble r.toNat 539 then (match ins with
  | .invokestatic idx => Nat.ble M 543 && ((Nat.beq idx 120 && Nat.beq r.toNat 308) || (Nat.beq idx 175 && Nat.beq r.toNat 133))
  | .invokevirtual idx => Nat.ble M 543 && ((Nat.beq idx 116 && Nat.beq r.toNat 222) || ((Nat.beq idx 184 && Nat.beq r.toNat 134) || (Nat.beq idx 187 && Nat.beq r.toNat 135)))
  | .invokespecial _ => false
  | _ => true) else true
theorem pk9_all : ((List.range 8).all fun i => (cod9 (540 + i)).all fun row => row.all fun e => pk9 (540 + i) e.2.1 e.2.2.2.1) = true := by decide +kernel
section SO9
variable {D : va_G} {cA : Nat → ClassId} {ad : Nat → Nat} {base : Nat} {EX : State → Prop} {stc : Nat → Nat → Int32} {l : Launch}
theorem nam9_own {M : Nat} (h1 : 540 ≤ M) (h2 : M ≤ 543) : (nam9 M).cls = cnm 11 := by
  have h9 : M = 540 ∨ M = 541 ∨ M = 542 ∨ M = 543 := by omega
  rcases h9 with rfl | rfl | rfl | rfl
  · exact rfl
  · exact rfl
  · exact rfl
  · exact rfl
theorem frm9_own {M : Nat} (h1 : 540 ≤ M) (h2 : M ≤ 543) : frm9 M = 11 ∧ lco9 M = 260 := by
  have h9 : M = 540 ∨ M = 541 ∨ M = 542 ∨ M = 543 := by omega
  rcases h9 with rfl | rfl | rfl | rfl
  · exact ⟨rfl, rfl⟩
  · exact ⟨rfl, rfl⟩
  · exact ⟨rfl, rfl⟩
  · exact ⟨rfl, rfl⟩
theorem dat9_lo {c : Nat} (h : Nat.ble c 539 = true) : dat9 c = datT c := by
  unfold dat9
  rw [h]
  rfl
theorem soP9x (hX : so_X shpT ftyT clsT ad base codT datT prmT bysT namT rtyT frmT lcoT TsT nwsT stsT) (hS : ∀ F, so_Sim shpT rfT ftyT D clsT cA ad base stc codT datT prmT bysT namT rtyT frmT lcoT TsT nwsT stsT EX l false F) (F : Nat) : so_P shpT rfT ftyT D clsT cA ad base stc cod9 dat9 (prm9 F) bys9 nam9 frm9 lco9 TsT nwsT stsT EX l false := by
  intro M pc idx r dl ins hq hd hins w hw p e R s m args below meth c Q c0 s0 out k L st x hF hR hm hk h
  obtain ⟨Fx, hnm, hWK, hRf, hRl⟩ := id hF
  obtain ⟨hM, -⟩ := cod9_ok F hq
  have hrow : pk9 M ins r = true := by
    obtain ⟨row, h1, h2⟩ := fnd2_mem hq
    obtain ⟨i, rfl⟩ : ∃ i, M = 540 + i := ⟨M - 540, by omega⟩
    exact List.all_eq_true.mp (List.all_eq_true.mp (List.all_eq_true.mp pk9_all i (List.mem_range.mpr (by omega))) row h1) _ h2
  unfold prm9 at hw
  cases hb : Nat.ble r.toNat 539 with
  | false => rw [hb] at hw; cases hw
  | true =>
    rw [hb] at hw
    cases hw
    have hlt : r.toNat < 540 := by
      have := Nat.le_of_ble_eq_true hb
      omega
    have hpn : prmT r.toNat = none := by
      unfold prmT
      rw [Nat.ble_eq.mpr (show r.toNat ≤ 899 by omega)]
      rfl
    rw [dat9_lo hb] at h
    unfold pk9 at hrow
    rw [hb] at hrow
    have hcf : ∀ as x o, (bif ev_chk shpT (datT r.toNat).2.2.2 (datT r.toNat).1 as then evT F r.toNat 0 (ev_ent as (datT r.toNat).1) [] x else none) = some o → ev_chk shpT (datT r.toNat).2.2.2 (datT r.toNat).1 as = true ∧ ev_le x o.1 ∧ ((∀ v ∈ as, sn_okv shpT x.2.2.1 v) → sn_Met shpT rfT ftyT D clsT cA ad base stc datT bysT namT rtyT frmT lcoT TsT nwsT stsT EX l false r.toNat as x o) := fun as x o ho => by
      obtain ⟨hck, ho⟩ := bif_some ho
      refine ⟨hck, ev_mono hX.2.2.2.2.2.2.2.2.2.2.1 F r.toNat 0 _ [] x o ho, fun hok => so_met hX (hS F) hpn ?_ hok ho⟩
      unfold ev_chk at hck
      exact Nat.le_of_ble_eq_true ((Bool.and_eq_true _ _).mp hck).1
    simp only [cond_true] at hrow
    rcases hins with rfl | rfl | rfl
    · obtain ⟨a1, a2⟩ := (Bool.and_eq_true _ _).mp (show (Nat.ble M 543 && ((Nat.beq idx 120 && Nat.beq r.toNat 308) || (Nat.beq idx 175 && Nat.beq r.toNat 133))) = true from hrow)
      have hM2 := Nat.le_of_ble_eq_true a1
      obtain ⟨f1, f2⟩ := frm9_own hM.1 hM2
      rw [nam9_own hM.1 hM2] at Fx
      have a2 : ((Nat.beq idx 120 && Nat.beq r.toNat 308) || (Nat.beq idx 175 && Nat.beq r.toNat 133)) = true := a2
      generalize r.toNat = c9 at *
      rcases (Bool.or_eq_true _ _).mp a2 with a2 | a2
      · obtain ⟨b1, b2⟩ := (Bool.and_eq_true _ _).mp a2
        have b1 := Nat.eq_of_beq_eq_true b1
        have b2 := Nat.eq_of_beq_eq_true b2
        subst b1
        subst b2
        exact w_call_S Fx TsT_good hWK cs9_308 ⟨by rw [hRf, f1]; decide, by rw [hRl, f2]; decide⟩ hR hm hk hd (fun as x o ho => (hcf as x o ho).2) h
      · obtain ⟨b1, b2⟩ := (Bool.and_eq_true _ _).mp a2
        have b1 := Nat.eq_of_beq_eq_true b1
        have b2 := Nat.eq_of_beq_eq_true b2
        subst b1
        subst b2
        exact w_call_S Fx TsT_good hWK cs9_133 ⟨by rw [hRf, f1]; decide, by rw [hRl, f2]; decide⟩ hR hm hk hd (fun as x o ho => (hcf as x o ho).2) h
    · obtain ⟨a1, a2⟩ := (Bool.and_eq_true _ _).mp (show (Nat.ble M 543 && ((Nat.beq idx 116 && Nat.beq r.toNat 222) || ((Nat.beq idx 184 && Nat.beq r.toNat 134) || (Nat.beq idx 187 && Nat.beq r.toNat 135)))) = true from hrow)
      have hM2 := Nat.le_of_ble_eq_true a1
      obtain ⟨f1, f2⟩ := frm9_own hM.1 hM2
      rw [nam9_own hM.1 hM2] at Fx
      have a2 : ((Nat.beq idx 116 && Nat.beq r.toNat 222) || ((Nat.beq idx 184 && Nat.beq r.toNat 134) || (Nat.beq idx 187 && Nat.beq r.toNat 135))) = true := a2
      generalize r.toNat = c9 at *
      rcases (Bool.or_eq_true _ _).mp a2 with a2 | a2
      · obtain ⟨b1, b2⟩ := (Bool.and_eq_true _ _).mp a2
        have b1 := Nat.eq_of_beq_eq_true b1
        have b2 := Nat.eq_of_beq_eq_true b2
        subst b1
        subst b2
        exact w_call_V hX.1 hX.2.1 Fx TsT_good hWK cv9_222 ⟨by rw [hRf, f1]; decide, by rw [hRl, f2]; decide⟩ hR hm hk hd hcf h
      · rcases (Bool.or_eq_true _ _).mp a2 with a2 | a2
        · obtain ⟨b1, b2⟩ := (Bool.and_eq_true _ _).mp a2
          have b1 := Nat.eq_of_beq_eq_true b1
          have b2 := Nat.eq_of_beq_eq_true b2
          subst b1
          subst b2
          exact w_call_V hX.1 hX.2.1 Fx TsT_good hWK cv9_134 ⟨by rw [hRf, f1]; decide, by rw [hRl, f2]; decide⟩ hR hm hk hd hcf h
        · obtain ⟨b1, b2⟩ := (Bool.and_eq_true _ _).mp a2
          have b1 := Nat.eq_of_beq_eq_true b1
          have b2 := Nat.eq_of_beq_eq_true b2
          subst b1
          subst b2
          exact w_call_V hX.1 hX.2.1 Fx TsT_good hWK cv9_135 ⟨by rw [hRf, f1]; decide, by rw [hRl, f2]; decide⟩ hR hm hk hd hcf h
    · cases hrow
theorem soT9 : so_T shpT D clsT cA ad base stc cod9 dat9 bys9 nam9 frm9 lco9 TsT nwsT stsT EX l := by
  intro M pc idx r dl hq hs hd
  exfalso
  obtain ⟨row, h1, h2⟩ := fnd2_mem hq
  obtain ⟨hM, -⟩ := cod9_ok 0 hq
  obtain ⟨i, rfl⟩ : ∃ i, M = 540 + i := ⟨M - 540, by omega⟩
  have h3 := List.all_eq_true.mp (List.all_eq_true.mp (List.all_eq_true.mp (show ((List.range 8).all fun i => (cod9 (540 + i)).all fun row => row.all fun e => (match e.2.1 with
    | .ldc _ => false
    | _ => true)) = true by decide +kernel) i (List.mem_range.mpr (by omega))) row h1) _ h2
  cases h3
theorem soS9 (had : ∀ g, g < 1000 → ad g = base + g) (hX : so_X shpT ftyT clsT ad base codT datT prmT bysT namT rtyT frmT lcoT TsT nwsT stsT) (hS : ∀ F, so_Sim shpT rfT ftyT D clsT cA ad base stc codT datT prmT bysT namT rtyT frmT lcoT TsT nwsT stsT EX l false F) (F : Nat) : ∀ f, so_Sim shpT rfT ftyT D clsT cA ad base stc cod9 dat9 (prm9 F) bys9 nam9 rty9 frm9 lco9 TsT nwsT stsT EX l false f := so_sim (soX9 had F fun c as x o h => ev_mono hX.2.2.2.2.2.2.2.2.2.2.1 F c 0 _ [] x o h) (soP9x hX hS F) soT9
end SO9
