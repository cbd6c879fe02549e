/-! ===== LEVEL 1: the prims' rows; so_P and so_T but for the law's own four ===== -/
def pck9 (r idx : Nat) : Bool := (Nat.beq r 910 && Nat.beq idx 35) || ((Nat.beq r 911 && Nat.beq idx 45) || ((Nat.beq r 912 && Nat.beq idx 65) || (Nat.beq r 913 && Nat.beq idx 69)))
def pckV (r idx : Nat) : Bool := (Nat.beq r 902 && Nat.beq idx 38) || ((Nat.beq r 903 && Nat.beq idx 41) || (Nat.beq r 904 && Nat.beq idx 33))
def pckI (M : Nat) (ins : Instr) (r : Int) : Bool := match ins with
  | .invokespecial idx => bif Nat.ble r.toNat 899 then true else Nat.beq r.toNat 900 && (hasP wl_oi (oclT M) idx && (Nat.ble 1 (frmT M) && Nat.ble 20 (lcoT M)))
  | .invokestatic idx => bif Nat.ble r.toNat 899 then true else bif Nat.beq r.toNat 901 then hasP wl_ac (oclT M) idx && (Nat.ble 1 (frmT M) && Nat.ble 40 (lcoT M)) else Nat.beq M 539 && pck9 r.toNat idx
  | .invokevirtual idx => bif Nat.ble r.toNat 899 then true else Nat.beq M 226 && pckV r.toNat idx
  | .ldc idx => bif ev_str r then (Nat.beq M 13 && (Nat.beq idx 73 && Nat.beq r.toNat 1010)) || (Nat.beq M 155 && (Nat.beq idx 108 && Nat.beq r.toNat 1011)) else true
  | _ => true
def pck (M : Nat) (e : ev_E) : Bool := pckI M e.2.1 e.2.2.2.1
theorem pck_all : ((List.range 540).all fun M => (codT M).all fun row => row.all (pck M)) = true := by decide +kernel
theorem nth_none {α : Type} : ∀ (l : List α) (i : Nat), l.length ≤ i → ev_nth l i = none
  | [], i, _ => by cases i <;> rfl
  | a :: l, 0, h => absurd h (by simp)
  | a :: l, i + 1, h => nth_none l i (by simpa using h)
theorem cod_hi {M : Nat} (h : 540 ≤ M) : codT M = [] := by
  unfold codT
  rcases Nat.lt_or_ge (M / 24) 23 with h1 | h1
  · have e : M / 24 = 22 := by omega
    rw [e]
    show (ev_nth _ (M % 24)).getD [] = []
    rw [nth_none _ _ (by
      show 12 ≤ M % 24
      omega)]
    rfl
  · rw [nth_none cod_tab (M / 24) h1]
theorem pck_ok {M pc : Nat} {q : Instr × (Nat × (Int × List Nat))} (h : ev_fnd2 (codT M) pc = some q) : pckI M q.1 q.2.2.1 = true := by
  obtain ⟨row, h1, h2⟩ := fnd2_mem h
  by_cases hM : M < 540
  · exact List.all_eq_true.mp (List.all_eq_true.mp (List.all_eq_true.mp pck_all M (List.mem_range.mpr hM)) row h1) _ h2
  · rw [cod_hi (Nat.not_lt.mp hM)] at h1
    cases h1
/-- what is owed of the law's own four -/
def so_P9 (D : va_G) (cA : Nat → ClassId) (ad : Nat → Nat) (base : Nat) (stc : Nat → Nat → Int32) (prm : Nat → Option (List ev_V → ev_M → Option ev_O)) (EX : State → Prop) (l : Launch) (md : Bool) : Prop := ∀ (pc idx : Nat) (r : Int), decode (bysT 539) pc = .ok (.invokestatic idx, 3) → pck9 r.toNat idx = true → ∀ w, prm r.toNat = some w → ∀ (p : Program) (e : Env) (R : Room) (s : State) (m : MethodId) (args : Array Value) (below : List Frame) (meth : Method) (c : Code) (Q : State → Prop) (c0 s0 : Nat) (out : ev_O) (k : ev_K) (L : ev_L) (st : List ev_V) (x : ev_M), so_F shpT D clsT cA ad base stc datT bysT namT frmT lcoT TsT nwsT stsT EX p R s m args meth c 539 → sn_R R c0 s0 out → ev_mk out k → sn_K shpT rfT ftyT D clsT cA ad base stc p l e R s m args below meth c Q md c0 s0 (datT 539).1 out k → s_call (datT r.toNat).2.1 w pc k L st x = some out → sn_W shpT rfT ftyT D clsT cA ad base stc p l e R s m args below meth c Q md c0 s0 (datT 539).1 pc L st x
section SOP
variable {D : va_G} {cA : Nat → ClassId} {ad : Nat → Nat} {base : Nat} {EX : State → Prop} {stc : Nat → Nat → Int32} {prm : Nat → Option (List ev_V → ev_M → Option ev_O)} {l : Launch} {md : Bool}
theorem soP (had : ∀ g, g < 1000 → ad g = base + g) (hE : ∀ s, EX s → exT ad base s) (hlow : ∀ c, c < 900 → prm c = none) (hprm : ∀ c w, prm c = some w → c < 910 → prmT c = some w) (h9 : so_P9 D cA ad base stc prm EX l md) : so_P shpT rfT ftyT D clsT cA ad base stc codT datT prm bysT namT frmT lcoT TsT nwsT stsT EX l md := by
  intro M pc idx r dl ins hq hd hins w hw p e R s m args below meth c Q c0 s0 out k L st x hF hR hm hk h
  have hX : sn_X shpT ad base := snX had
  obtain ⟨F, hnm, hWK, hRf, hRl⟩ := id hF
  have hEs := hE s hWK.2.2.2.2.2.2.2
  have hc := pck_ok hq
  have h90 : Nat.ble r.toNat 899 = false := by
    cases hb : Nat.ble r.toNat 899 with
    | false => rfl
    | true =>
      have := hlow r.toNat (by have := Nat.le_of_ble_eq_true hb; omega)
      rw [hw] at this
      cases this
  have hw1 : ∀ (c : Nat) (w1 : List ev_V → ev_M → Option ev_O), r.toNat = c → c < 910 → prmT c = some w1 → w = w1 := fun c w1 e h1 h2 => by
    have h3 := hprm _ _ (e ▸ hw) h1
    exact Option.some.inj (h3.symm.trans h2)
  rcases hins with rfl | rfl | rfl
  · have hc : (bif Nat.ble r.toNat 899 then true else bif Nat.beq r.toNat 901 then hasP wl_ac (oclT M) idx && (Nat.ble 1 (frmT M) && Nat.ble 40 (lcoT M)) else Nat.beq M 539 && pck9 r.toNat idx) = true := hc
    rw [h90] at hc
    simp only [cond_false] at hc
    cases h91 : Nat.beq r.toNat 901 with
    | true =>
      rw [h91] at hc
      simp only [cond_true] at hc
      obtain ⟨a1, a2⟩ := (Bool.and_eq_true _ _).mp hc
      obtain ⟨a2, a3⟩ := (Bool.and_eq_true _ _).mp a2
      have hw2 := hw1 901 pACP (Nat.eq_of_beq_eq_true h91) (by decide) rfl
      subst hw2
      exact w_acp hX hWK.1 F (TsT_ac (oclT M, idx) (hasP_mem a1)) ⟨by rw [hRf]; exact Nat.le_of_ble_eq_true a2, by rw [hRl]; exact Nat.le_of_ble_eq_true a3⟩ hk hd h
    | false =>
      rw [h91] at hc
      simp only [cond_false] at hc
      obtain ⟨a1, a2⟩ := (Bool.and_eq_true _ _).mp hc
      have eM := Nat.eq_of_beq_eq_true a1
      subst eM
      exact h9 pc idx r hd a2 w hw p e R s m args below meth c Q c0 s0 out k L st x hF hR hm hk h
  · have hc : (bif Nat.ble r.toNat 899 then true else Nat.beq M 226 && pckV r.toNat idx) = true := hc
    rw [h90] at hc
    simp only [cond_false] at hc
    obtain ⟨a1, a2⟩ := (Bool.and_eq_true _ _).mp hc
    have eM := Nat.eq_of_beq_eq_true a1
    subst eM
    have hRR : 5 ≤ R.frames ∧ 200 ≤ R.locals := by
      rw [hRf, hRl]
      decide
    have F' : CallFix p m c (bysT 226) (datT 226).1 s args TsT "PostHouse$Tape" := F
    unfold pckV at a2
    simp only [Bool.or_eq_true, Bool.and_eq_true] at a2
    have a2 := a2.imp (fun z => And.intro (Nat.eq_of_beq_eq_true z.1) (Nat.eq_of_beq_eq_true z.2)) (fun z => z.imp (fun z => And.intro (Nat.eq_of_beq_eq_true z.1) (Nat.eq_of_beq_eq_true z.2)) (fun z => And.intro (Nat.eq_of_beq_eq_true z.1) (Nat.eq_of_beq_eq_true z.2)))
    rcases a2 with ⟨b1, rfl⟩ | ⟨b1, rfl⟩ | ⟨b1, rfl⟩
    · have hw2 := hw1 902 pSlen b1 (by decide) rfl
      subst hw2
      exact w_slen hEs F' hRR hR hm hk hd h
    · have hw2 := hw1 903 pSat b1 (by decide) rfl
      subst hw2
      exact w_sat hEs F' hRR hR hm hk hd h
    · have hw2 := hw1 904 pSix b1 (by decide) rfl
      subst hw2
      exact w_six hEs F' hRR hR hm hk hd h
  · have hc : (bif Nat.ble r.toNat 899 then true else Nat.beq r.toNat 900 && (hasP wl_oi (oclT M) idx && (Nat.ble 1 (frmT M) && Nat.ble 20 (lcoT M)))) = true := hc
    rw [h90] at hc
    simp only [cond_false] at hc
    obtain ⟨a0, a1⟩ := (Bool.and_eq_true _ _).mp hc
    obtain ⟨a1, a2⟩ := (Bool.and_eq_true _ _).mp a1
    obtain ⟨a2, a3⟩ := (Bool.and_eq_true _ _).mp a2
    have hw2 := hw1 900 pObj (Nat.eq_of_beq_eq_true a0) (by decide) rfl
    subst hw2
    exact w_objp F (TsT_oi (oclT M, idx) (hasP_mem a1)) oi_words.1 oi_words.2 ⟨by rw [hRf]; exact Nat.le_of_ble_eq_true a2, by rw [hRl]; exact Nat.le_of_ble_eq_true a3⟩ hk hd h
theorem soT (hE : ∀ s, EX s → exT ad base s) : so_T shpT D clsT cA ad base stc codT datT bysT namT frmT lcoT TsT nwsT stsT EX l := by
  intro M pc idx r dl hq hs hd
  have hc : (bif ev_str r then (Nat.beq M 13 && (Nat.beq idx 73 && Nat.beq r.toNat 1010)) || (Nat.beq M 155 && (Nat.beq idx 108 && Nat.beq r.toNat 1011)) else true) = true := pck_ok hq
  rw [hs] at hc
  simp only [cond_true, Bool.or_eq_true, Bool.and_eq_true] at hc
  have hc := hc.imp (fun z => And.intro (Nat.eq_of_beq_eq_true z.1) (And.intro (Nat.eq_of_beq_eq_true z.2.1) (Nat.eq_of_beq_eq_true z.2.2))) (fun z => And.intro (Nat.eq_of_beq_eq_true z.1) (And.intro (Nat.eq_of_beq_eq_true z.2.1) (Nat.eq_of_beq_eq_true z.2.2)))
  rcases hc with ⟨rfl, rfl, hr⟩ | ⟨rfl, rfl, hr⟩
  · rw [hr]
    refine ⟨⟨Or.inr ⟨by decide, rfl⟩, by decide⟩, fun p e R s m args below meth c Q H locs cells slots ls rest hF kk => ?_⟩
    obtain ⟨F, hnm, hWK, hRf, hRl⟩ := hF
    exact va_ldcS F.1 F.2.1 F.2.2.2.1 (hE s hWK.2.2.2.2.2.2.2).2.2.1 hd kk
  · rw [hr]
    refine ⟨⟨Or.inr ⟨by decide, rfl⟩, by decide⟩, fun p e R s m args below meth c Q H locs cells slots ls rest hF kk => ?_⟩
    obtain ⟨F, hnm, hWK, hRf, hRl⟩ := hF
    exact va_ldcS F.1 F.2.1 F.2.2.2.1 (hE s hWK.2.2.2.2.2.2.2).2.2.2 hd kk
end SOP
