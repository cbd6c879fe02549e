/-! ===== the law's own four; what is thrown is owed apart ===== -/
def so_Thr (D : va_G) (cA : Nat → ClassId) (ad : Nat → Nat) (base : Nat) (stc : Nat → Nat → Int32) (EX : State → Prop) (l : Launch) : Prop := ∀ (pc idx : Nat) (as st' : List ev_V) (x : ev_M), ((idx = 35 ∧ ∃ a b c d e, as = [vR 0 0, vI a, vI b, vI c, vI d, vI e, vR 681 0] ∧ cI 4096 < x.1 1 1 + cI 20) ∨ (idx = 45 ∧ ∃ n, as = [vR 0 0, vI n] ∧ (n < 0 ∨ x.1 1 1 < n)) ∨ (idx = 65 ∧ ∃ b i, as = [vR 0 0, vI b, vI i, vR 681 0] ∧ fLog_hasByte x b i = some 0) ∨ (idx = 69 ∧ ∃ b i m, as = [vR 0 0, vI b, vI i, vI m, vR 681 0] ∧ fLog_hasByte x b i = some 0)) → decode (bysT 539) pc = .ok (.invokestatic idx, 3) → ∀ (p : Program) (e : Env) (R : Room) (s : State) (m : MethodId) (args : Array Value) (below : List Frame) (meth : Method) (c : Code) (Q : State → Prop) (c0 s0 : Nat) (out : ev_O) (k : ev_K) (L : ev_L), so_F shpT D clsT cA ad base stc datT bysT namT frmT lcoT TsT nwsT stsT EX p R s m args meth c 539 → sn_R R c0 s0 out → ev_mk out k → sn_K shpT rfT ftyT D clsT cA ad base stc p l e R s m args below meth c Q false c0 s0 (datT 539).1 out k → ev_cats st' ≤ 8 → k (pc + 3) L (vI (cI 1) :: st') (mkX x) = some out → sn_W shpT rfT ftyT D clsT cA ad base stc p l e R s m args below meth c Q false c0 s0 (datT 539).1 pc L (as.reverse ++ st') x
theorem ok_0 {nx i : Nat} (h : sn_okv shpT nx (vR 0 i)) : i = 0 := by
  have h1 : i < sn_cnt (shpT 0) := h.2
  have e : sn_cnt (shpT 0) = 1 := by decide
  omega
theorem ok_681 {nx i : Nat} (h : sn_okv shpT nx (vR 681 i)) : i = 0 := by
  have h1 : i < sn_cnt (shpT 681) := h.2
  have e : sn_cnt (shpT 681) = 1 := by decide
  omega
theorem be2 {a b n m : Nat} (h : (Nat.beq a n && Nat.beq b m) = true) : a = n ∧ b = m := by
  obtain ⟨h1, h2⟩ := (Bool.and_eq_true _ _).mp h
  exact ⟨Nat.eq_of_beq_eq_true h1, Nat.eq_of_beq_eq_true h2⟩
theorem soP9 {D : va_G} {cA : Nat → ClassId} {ad : Nat → Nat} {base : Nat} {EX : State → Prop} {stc : Nat → Nat → Int32} {l : Launch} (hX9 : ∀ F, so_X shpT ftyT clsT ad base cod9 dat9 (prm9 F) bys9 nam9 rty9 frm9 lco9 TsT nwsT stsT) (hS9 : ∀ F f, so_Sim shpT rfT ftyT D clsT cA ad base stc cod9 dat9 (prm9 F) bys9 nam9 rty9 frm9 lco9 TsT nwsT stsT EX l false f) (hT : so_Thr D cA ad base stc EX l) : so_P9 D cA ad base stc prmT EX l false := by
  intro pc idx r hd hp w hw p e R s m args below meth c Q c0 s0 out k L st x hF hR hm hk h
  unfold pck9 at hp
  generalize r.toNat = c9 at *
  intro H locs cells slots ls S
  obtain ⟨as, st', o, q1, q2, q3, q4, q5⟩ := prm_args h
  subst q3
  rcases (Bool.or_eq_true _ _).mp hp with hp | hp
  · obtain ⟨rfl, rfl⟩ := be2 hp
    obtain rfl : pFeed = w := Option.some.inj hw
    unfold pFeed at q1
    split at q1
    · next g ig a b c1 d e1 o1 io =>
      obtain ⟨g1, g2⟩ := bif_some q1
      obtain ⟨rfl, rfl⟩ := be2 g1
      have okA : ∀ v ∈ [vR 0 ig, vI a, vI b, vI c1, vI d, vI e1, vR 681 io], sn_okv shpT x.2.2.1 v := fun v hv => S.2.2.2.1 v (List.mem_append_left _ (List.mem_reverse.mpr hv))
      have z1 := ok_0 (okA (vR 0 ig) (by simp))
      have z2 := ok_681 (okA (vR 681 io) (by simp))
      subst z1
      subst z2
      by_cases hn : cI 4096 < x.1 1 1 + cI 20
      · have e9 : fFeed x a b c1 d e1 = some (mkX x, cI 1) := if_pos hn
        rw [e9] at g2
        cases g2
        exact hT pc 35 _ st' x (Or.inl ⟨rfl, a, b, c1, d, e1, rfl, hn⟩) hd p e R s m args below meth c Q c0 s0 out k L hF hR hm hk q5 q4 H locs cells slots ls S
      · obtain ⟨q, hq, rfl⟩ := Option.map_eq_some_iff.mp g2
        exact w_L9 (M9 := 544) (as := [vR 0 0, vI a, vI b, vI c1, vI d, vI e1, vR 681 0]) (by decide) (by decide) hX9 hS9 hF w9_code_544 w9_lk_544 w9_st_544 (na := 7) (by decide +kernel) hR hm hk hd rfl (Nat.le_of_ble_eq_true rfl) q5 (T9_Lfeed (f9_feed hn hq)) q4 H locs cells slots ls S
    · cases q1
  · rcases (Bool.or_eq_true _ _).mp hp with hp | hp
    · obtain ⟨rfl, rfl⟩ := be2 hp
      obtain rfl : pEnd = w := Option.some.inj hw
      unfold pEnd at q1
      split at q1
      · next g ig a =>
        obtain ⟨g1, g2⟩ := bif_some q1
        have g1 := Nat.eq_of_beq_eq_true g1
        subst g1
        have okA : ∀ v ∈ [vR 0 ig, vI a], sn_okv shpT x.2.2.1 v := fun v hv => S.2.2.2.1 v (List.mem_append_left _ (List.mem_reverse.mpr hv))
        have z1 := ok_0 (okA (vR 0 ig) (by simp))
        subst z1
        by_cases hn : a < 0 ∨ x.1 1 1 < a
        · have e9 : fEnd x a = some (mkX x, cI 1) := if_pos hn
          rw [e9] at g2
          cases g2
          exact hT pc 45 _ st' x (Or.inr (Or.inl ⟨rfl, a, rfl, hn⟩)) hd p e R s m args below meth c Q c0 s0 out k L hF hR hm hk q5 q4 H locs cells slots ls S
        · obtain ⟨q, hq, rfl⟩ := Option.map_eq_some_iff.mp g2
          exact w_L9 (M9 := 545) (as := [vR 0 0, vI a]) (by decide) (by decide) hX9 hS9 hF w9_code_545 w9_lk_545 w9_st_545 (na := 2) (by decide +kernel) hR hm hk hd rfl (Nat.le_of_ble_eq_true rfl) q5 (T9_Lend (f9_end hn hq)) q4 H locs cells slots ls S
      · cases q1
    · rcases (Bool.or_eq_true _ _).mp hp with hp | hp
      · obtain ⟨rfl, rfl⟩ := be2 hp
        obtain rfl : pOctet = w := Option.some.inj hw
        unfold pOctet at q1
        split at q1
        · next g ig a b o1 io =>
          obtain ⟨g1, g2⟩ := bif_some q1
          obtain ⟨rfl, rfl⟩ := be2 g1
          have okA : ∀ v ∈ [vR 0 ig, vI a, vI b, vR 681 io], sn_okv shpT x.2.2.1 v := fun v hv => S.2.2.2.1 v (List.mem_append_left _ (List.mem_reverse.mpr hv))
          have z1 := ok_0 (okA (vR 0 ig) (by simp))
          have z2 := ok_681 (okA (vR 681 io) (by simp))
          subst z1
          subst z2
          obtain ⟨q, hq, rfl⟩ := Option.map_eq_some_iff.mp g2
          obtain ⟨t, h1, h2⟩ := b1x (show bd1 (fLog_hasByte x a b) _ = some q from hq)
          by_cases hn : t = 0
          · subst hn
            rw [if_pos rfl] at h2
            cases h2
            exact hT pc 65 _ st' x (Or.inr (Or.inr (Or.inl ⟨rfl, a, b, rfl, h1⟩))) hd p e R s m args below meth c Q c0 s0 out k L hF hR hm hk q5 q4 H locs cells slots ls S
          · exact w_L9 (M9 := 546) (as := [vR 0 0, vI a, vI b, vR 681 0]) (by decide) (by decide) hX9 hS9 hF w9_code_546 w9_lk_546 w9_st_546 (na := 4) (by decide +kernel) hR hm hk hd rfl (Nat.le_of_ble_eq_true rfl) q5 (T9_Loctet (f9_octet h1 hn hq)) q4 H locs cells slots ls S
        · cases q1
      · obtain ⟨rfl, rfl⟩ := be2 hp
        obtain rfl : pPoke = w := Option.some.inj hw
        unfold pPoke at q1
        split at q1
        · next g ig a b b2 o1 io =>
          obtain ⟨g1, g2⟩ := bif_some q1
          obtain ⟨rfl, rfl⟩ := be2 g1
          have okA : ∀ v ∈ [vR 0 ig, vI a, vI b, vI b2, vR 681 io], sn_okv shpT x.2.2.1 v := fun v hv => S.2.2.2.1 v (List.mem_append_left _ (List.mem_reverse.mpr hv))
          have z1 := ok_0 (okA (vR 0 ig) (by simp))
          have z2 := ok_681 (okA (vR 681 io) (by simp))
          subst z1
          subst z2
          obtain ⟨q, hq, rfl⟩ := Option.map_eq_some_iff.mp g2
          obtain ⟨t, h1, h2⟩ := b1x (show bd1 (fLog_hasByte x a b) _ = some q from hq)
          by_cases hn : t = 0
          · subst hn
            rw [if_pos rfl] at h2
            cases h2
            exact hT pc 69 _ st' x (Or.inr (Or.inr (Or.inr ⟨rfl, a, b, b2, rfl, h1⟩))) hd p e R s m args below meth c Q c0 s0 out k L hF hR hm hk q5 q4 H locs cells slots ls S
          · exact w_L9 (M9 := 547) (as := [vR 0 0, vI a, vI b, vI b2, vR 681 0]) (by decide) (by decide) hX9 hS9 hF w9_code_547 w9_lk_547 w9_st_547 (na := 5) (by decide +kernel) hR hm hk hd rfl (Nat.le_of_ble_eq_true rfl) q5 (T9_Lpoke (f9_poke h1 hn hq)) q4 H locs cells slots ls S
        · cases q1
