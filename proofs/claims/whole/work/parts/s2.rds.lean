/-! ===== LEVEL 3: the calls of acts that read the tape ===== -/
def FRD : List (Nat × (Nat × Nat)) := STD ++ F78
/-- the call of an act that reads the tape -/
theorem ii_rd {L i : Nat} {m : ev_M} (H : II L i m) (hi : i ≤ 64) {num a b c d e f : Int32} {W : ev_M → ev_M} (g1 : 1 ≤ num.toInt) (g2 : num.toInt ≤ 40) (hr : rdT num) (hW : ∀ z, fr STM z (W z)) (hWa : ∀ z, ArgE num ((stg m num a b c d e f).1 14) ((W z).1 553)) (hz : ∀ q s t F A, q < 832100 → AdmC s F A → FulM t F → t.1 549 15 = 0 → RH q s t → RTx1 s t → s.1 9 14 = num → t.1 549 16 = num → ArgE num (s.1 14) (t.1 553) → Ok (fPH_act_1 s) fun x => Ok (fM_act t) fun y => AP (RH (q + 1)) (RH (q + 1)) F A s x y) : Ok (clR m num a b c d e f) fun x => scr m x.1 ∧ Ok (fM_call (W x.1) num) fun y => x.2 = y.2 ∧ II L (i + 1) y.1 := by
  obtain ⟨q, q1, h1, h2, h3, h4, h5⟩ := H.1
  obtain ⟨t1', t2', t3', t4'⟩ := id h4
  have nx := ix_toNat (m.1 1 1)
  have hb : ∀ k, k < ix (m.1 1 1) → i2b (m.1 2 k) = m.1 2 k := fun k hk => h5 k (by omega)
  have hk := call_rd (R0 := RH (q + 1)) (R1 := RH (q + 1)) g1 g2 hr h3 h4 hb hW hWa (fun x y z hz hR => hR.keep rf_fr hz (by decide +kernel) (by decide +kernel)) (fun u t1 F A hu ht h16 ha h15 h13 h554 hA hM => hz q _ _ F A (by omega) hA hM h15 (h1.keep stg_fr ((hu.mono (F := CLR ++ STD) (contains_of fun q hq => List.mem_append_left _ hq)).tr (ht.mono (contains_of fun q hq => List.mem_append_right _ hq))) (by decide +kernel) (by decide +kernel)) (by
    refine ⟨?_, ?_, ?_, fun k hk => ?_⟩
    · rw [stg_ne (by decide) (by decide)]; exact h13
    · rw [stg_ne (by decide) (by decide)]; exact t2'
    · rw [stg_ne (by decide) (by decide)]; exact t3'
    · rw [stg_ne (by decide) (by decide)] at hk
      rw [stg_ne (by decide) (by decide)]; exact h554 k hk) stg_14 h16 ha)
  obtain ⟨x, ex, y, ey, e1, e2, e3⟩ := hk
  -- what the class has changed
  have fx : fr CLR m x.1 := by
    rw [clR_eq] at ex
    by_cases z : m.1 9 9 = 0
    · rw [if_pos z] at ex
      obtain ⟨u, v, u1, u2⟩ := bd2_of ex
      cases u2
      exact (clr_0 ((clf_2 stg_fr).tr (clf_1 (fr_fPH_act_1 u1)))).wI (by decide +kernel)
    · rw [if_neg z] at ex
      cases ex
      exact clr_0 (clf_2 stg_fr)
  have w2 : (W x.1).1 549 2 = m.1 1 1 := by rw [((hW x.1).1 549 2 rfl).1, (nof_c fx clr_n (c := 549) rfl).1, t1']
  have w5 : (W x.1).1 550 = m.1 550 := by rw [show (W x.1).1 550 = x.1.1 550 from funext fun k => ((hW x.1).1 550 k rfl).1, (nof_c fx clr_n (c := 550) rfl).1]
  have w9 : (W x.1).1 549 5 = m.1 9 9 := by rw [((hW x.1).1 549 5 rfl).1, (nof_c fx clr_n (c := 549) rfl).1, h3.2.1.1]
  have ec := e_callR (t := W x.1) hr (by rw [w2]; exact t2') (by rw [w2]; exact t3') (fun k hk => by
    rw [w2] at hk
    rw [w5, t4' k hk]; exact hb k hk)
  rw [ec, w9] at ey
  have two : fr FRD x.1 y.1 ∧ ((x.1.1 1 1 = m.1 1 1 ∧ y.1.1 549 2 = m.1 549 2) ∨ (x.1.1 1 1 = 0 ∧ y.1.1 549 2 = 0)) := by
    by_cases z : m.1 9 9 = 0
    · rw [if_pos z] at ey
      have f1 : fr FRD x.1 (mrd (W x.1) num) := (mrd_fr (hW x.1)).mono (contains_of fun q hq => List.mem_append_left _ hq)
      have f2 := b78_fr ey
      refine ⟨f1.tr (f2.mono (contains_of fun q hq => List.mem_append_right _ hq)), Or.inr ⟨?_, ?_⟩⟩
      · rw [clR_eq, if_pos z] at ex
        obtain ⟨u, v, u1, u2⟩ := bd2_of ex
        cases u2
        rw [wI_c, up1_eq]; rfl
      · rw [(f2.1 549 2 (by decide +kernel)).1, mrd_2]; rfl
    · rw [if_neg z] at ey
      cases ey
      refine ⟨?_, Or.inl ⟨?_, ?_⟩⟩
      · have f1 : fr STM x.1 (wI (W x.1) 549 0 (cI 0)) := (hW x.1).wI rfl
        exact f1.mono (by decide +kernel)
      · rw [clR_eq, if_neg z] at ex
        cases ex
        rw [stg_ne (by decide) (by decide)]
      · rw [wI_c, up1_ne (by decide), w2, t1']
  obtain ⟨fy, e4⟩ := two
  obtain ⟨p1, p2⟩ := p1_fr fx fy (by decide +kernel) (by decide +kernel)
  have fxy : fr (CLR ++ FRD) m y.1 := (fx.mono (contains_of fun q hq => List.mem_append_left _ hq)).tr (fy.mono (contains_of fun q hq => List.mem_append_right _ hq))
  have hR : RH (q + 1) x.1 y.1 := by
    rcases e3 with ⟨a1, a2⟩ | ⟨x', ex', u | u⟩
    · exact (h1.mono (Nat.le_succ q)).keep a1 ((a1.mono (F := STG ++ STM) (contains_of fun q hq => List.mem_append_left _ hq)).tr (a2.mono (contains_of fun q hq => List.mem_append_right _ hq))) (by decide +kernel) (by decide +kernel)
    · rw [ex']; exact u.keep (fr.rf.wI rfl : fr [(1, 1, 2)] x' (wI x' 1 1 (cI 0))) rf_fr (by decide +kernel) (by decide +kernel)
    · rw [ex']; exact u.keep (fr.rf.wI rfl : fr [(1, 1, 2)] x' (wI x' 1 1 (cI 0))) rf_fr (by decide +kernel) (by decide +kernel)
  have c1 : y.1.1 1 1 = x.1.1 1 1 := (nof_s fy (L := [(1, 2), (2, 0)]) (by decide +kernel) (c := 1) (k := 1) rfl).1
  have c2 : y.1.1 2 = m.1 2 := (nof_c fxy (L := [(2, 0), (550, 0)]) (by decide +kernel) (c := 2) rfl).1
  have m5 : y.1.1 550 = m.1 550 := (nof_c fxy (L := [(2, 0), (550, 0)]) (by decide +kernel) (c := 550) rfl).1
  refine ⟨x, ex, p1, y, by rw [ec, w9]; exact ey, e1, H.of p2 ⟨q + 1, by omega, hR.keep fy rf_fr (by decide +kernel) (by decide +kernel), h2.keep fxy fxy (by decide +kernel) (by decide +kernel), ?_, ?_, fun k hk => by rw [c2]; exact h5 k hk⟩⟩
  · have d : nof FRD [(9, 0), (10, 0), (11, 0), (13, 0), (1003, 0)] = true := by decide +kernel
    refine RLog_of e2 (fun c a b g k _ => ?_) (nof_c fy d (c := 1003) rfl).1 (fun k _ => rfl) rfl rfl rfl
    obtain rfl | rfl | rfl | rfl : c = 9 ∨ c = 10 ∨ c = 11 ∨ c = 13 := by omega
    · rw [(nof_c fy d (c := 9) rfl).1]
    · rw [(nof_c fy d (c := 10) rfl).1]
    · rw [(nof_c fy d (c := 11) rfl).1]
    · rw [(nof_c fy d (c := 13) rfl).1]
  · unfold RTap
    rw [c1, c2, m5]
    rcases e4 with ⟨u1, u2⟩ | ⟨u1, u2⟩
    · rw [u1, u2]; exact h4
    · rw [u1, u2]
      exact ⟨rfl, by decide, by decide, fun k hk => absurd hk (Nat.not_lt_zero _)⟩
section
variable {L i : Nat} {m : ev_M}
theorem lc_9 (H : II L i m) (hi : i ≤ 64) : LC_9 (II L (i + 1)) m := by
  unfold LC_9
  have e1 : fPH_book m = clR m (cI 1) (cI 0) (cI 0) (cI 0) (cI 0) (cI 0) (cI 0) := rfl
  have e2 : ∀ z, fM_book z = fM_call z (cI 1) := fun z => by
    unfold fM_book
    rw [bd2_eta]
  rw [e1]
  simp only [e2]
  exact ii_rd (W := fun z => z) H hi (by decide) (by decide) (by decide) (fun z => fr.rf) (fun z k hk => absurd hk (Nat.not_lt_zero k)) (fun q s t F A hq hA hM h0 hR hx h1 h2 ha => by
    rw [dc_1 h1, dm_1 h2]
    exact ac_1_1 hq hA hM h0 hx hR)
theorem lc_58 (H : II L i m) (hi : i ≤ 64) : LC_58 (II L (i + 1)) m := by
  unfold LC_58
  have e1 : fPH_tariff m = clR m (cI 31) (cI 0) (cI 0) (cI 0) (cI 0) (cI 0) (cI 0) := rfl
  have e2 : ∀ z, fM_tariff z = fM_call z (cI 31) := fun z => by
    unfold fM_tariff
    rw [bd2_eta]
  rw [e1]
  simp only [e2]
  exact ii_rd (W := fun z => z) H hi (by decide) (by decide) (by decide) (fun z => fr.rf) (fun z k hk => absurd hk (Nat.not_lt_zero k)) (fun q s t F A hq hA hM h0 hR hx h1 h2 ha => by
    rw [dc_31 h1, dm_31 h2]
    exact ac_31_1 hq hA hM h0 hx hR)
theorem lc_16 (H : II L i m) (hi : i ≤ 64) : LC_16 (II L (i + 1)) m := by
  unfold LC_16
  intro a
  have e1 : fPH_sheet m a = clR m (cI 4) a (cI 0) (cI 0) (cI 0) (cI 0) (cI 0) := rfl
  have e2 : ∀ z, fM_sheet z a = fM_call (wI z 553 0 a) (cI 4) := fun z => by
    unfold fM_sheet
    simp only [bd2_eta, m_call1]
  rw [e1]
  simp only [e2]
  exact ii_rd (W := fun z => wI z 553 0 a) H hi (by decide) (by decide) (by decide) (fun z => fr.rf.wI rfl) (fun z k hk => by
    have : nAr.getD (ix (cI 4)) 0 = 1 := rfl
    obtain rfl : k = 0 := by omega
    unfold stg
    simp (disch := decide) only [wI_c, wI_ne, up1_eq, up1_ne]) (fun q s t F A hq hA hM h0 hR hx h1 h2 ha => by
    rw [dc_4 h1, dm_4 h2, ha 0 (by decide)]
    exact ac_4_1 hq hA hM h0 hx hR)
theorem lc_70 (H : II L i m) (hi : i ≤ 64) : LC_70 (II L (i + 1)) m := by
  unfold LC_70
  intro a b c _
  have g : ∀ v, Ok (fPH_wish_b17 m (cI 39) a b v) fun x => scr m x.1 ∧ Ok (fM_wish_b14 x.1 (cI 39) a b v) fun y => x.2 = y.2 ∧ II L (i + 1) y.1 := fun v => by
    simp only [ec_39, em_39]
    refine ii_act H hi (by decide) (by decide) (by decide) (fun z => ef_39) (fun z => eg_39) (fun q s t F A hq hA hM h0 hR h1 h2 ha => ?_)
    rw [dc_39 h1, dm_39 h2, ha 0 (by decide), ha 1 (by decide), ha 2 (by decide)]
    by_cases z : s.1 14 2 = cI 1
    · simp only [if_pos z]
      exact ac_39 (Or.inr rfl) hA hM h0 hR
    · simp only [if_neg z]
      exact ac_39 (Or.inl rfl) hA hM h0 hR
  unfold fPH_wish fM_wish
  by_cases q : c = 0
  · simp only [if_pos q]; exact g _
  · simp only [if_neg q]; exact g _
end
