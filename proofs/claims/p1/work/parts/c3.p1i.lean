/-! ===== LEVEL 3: one call on a fresh object ===== -/
section
variable {xs : Nat → Int32} {L : Nat} {m : ev_M}
theorem k_sheet {s t : ev_M} {F : Bool} {A : Nat → Nat → Int32} {a : Int32} (h : s.1 1 1 = 0) (h2 : t.1 549 13 = 0) : Ok (fSheet_show_1 s a) fun x => Ok (fM_doSheet t a) fun y => AP R9 R9 F A s x y := by
  by_cases i : InR a (cI 8) (cI 128)
  · refine sim_no (t := t) (c := cI (-102)) ?_ ?_ trivial
    · unfold fSheet_show_1
      simp only [outside_eq, eq_true i, h, ltM_eq, ltI_eq, ltL_eq, bd1_some, bd2_some, ite_bI, if_true, if_false, ite_true, ite_false, eq_self, not_true_eq_false, not_false_eq_true, i10]
    · unfold fM_doSheet fM_doSheet_b28
      simp only [in_eq, eq_true i, h2, no_eq, ltM_eq, ltI_eq, ltL_eq, bd1_some, bd2_some, ite_bI, if_true, if_false, ite_true, ite_false, eq_self, not_true_eq_false, not_false_eq_true, i10]
  · refine sim_no (t := t) (c := cI (-102)) ?_ ?_ trivial
    · unfold fSheet_show_1
      simp only [outside_eq, eq_false i, ltM_eq, ltI_eq, ltL_eq, bd1_some, bd2_some, ite_bI, if_true, if_false, ite_true, ite_false, eq_self, not_true_eq_false, not_false_eq_true, i10]
    · unfold fM_doSheet fM_doSheet_b28
      simp only [in_eq, eq_false i, no_eq, ltM_eq, ltI_eq, ltL_eq, bd1_some, bd2_some, ite_bI, if_true, if_false, ite_true, ite_false, eq_self, not_true_eq_false, not_false_eq_true, i10]
theorem I0_nob (h : I0 xs L m) : ∀ k, k < ix (m.1 1 1) → i2b (m.1 2 k) = m.1 2 k := fun k hk => by
  rw [(I0_t h).1] at hk
  exact absurd hk (Nat.not_lt_zero k)
theorem I0_g1 (h : I0 xs L m) {num a b c d e f : Int32} : (stg m num a b c d e f).1 1 1 = 0 := by rw [stg_ne (by decide) (by decide), (I0_t h).1]
theorem p1_9 (h : I0 xs L m) : LC_9 (P1 m) m := by
  unfold LC_9
  refine p1_call (fun q h => fr_fPH_book h) (fun z q h => fr_fM_book h) (by decide +kernel) (by decide +kernel) ?_
  have e1 : fPH_book m = clR m (cI 1) (cI 0) (cI 0) (cI 0) (cI 0) (cI 0) (cI 0) := rfl
  have e2 : ∀ z, fM_book z = fM_call z (cI 1) := fun z => by
    unfold fM_book
    rw [bd2_eta]
  rw [e1]
  simp only [e2]
  have g := call_rd (a := cI 0) (b := cI 0) (c := cI 0) (d := cI 0) (e := cI 0) (f := cI 0) (R0 := R9) (R1 := R9) (num := cI 1) (W := fun z => z) (by decide) (by decide) (by decide) (I0_log h) (I0_r h) (I0_nob h) (fun z => fr.rf) (fun z k hk => absurd hk (Nat.not_lt_zero k)) (fun _ _ _ _ _ => trivial) (fun u t1 F A hu ht h16 ha h15 h13 h554 hA hM => by
    rw [dc_1 stg_14, dm_1 h16]
    obtain ⟨x, ex, hx⟩ := book_0 (I0_g1 h (num := cI 1) (a := cI 0) (b := cI 0) (c := cI 0) (d := cI 0) (e := cI 0) (f := cI 0))
    obtain ⟨y, ey, hy⟩ := bookM_0 (s := t1) (by rw [h13, (I0_t h).1])
    rw [ex, ey, ok_some, ok_some]
    exact ⟨rfl, Or.inl ⟨hy, lgS.fr hx (by decide +kernel) (by decide), trivial⟩⟩)
  exact g.mono fun x hx => hx.mono fun z hz => hz.1
theorem p1_58 (h : I0 xs L m) : LC_58 (P1 m) m := by
  unfold LC_58
  refine p1_call (fun q h => fr_fPH_tariff h) (fun z q h => fr_fM_tariff h) (by decide +kernel) (by decide +kernel) ?_
  have e1 : fPH_tariff m = clR m (cI 31) (cI 0) (cI 0) (cI 0) (cI 0) (cI 0) (cI 0) := rfl
  have e2 : ∀ z, fM_tariff z = fM_call z (cI 31) := fun z => by
    unfold fM_tariff
    rw [bd2_eta]
  rw [e1]
  simp only [e2]
  have g := call_rd (a := cI 0) (b := cI 0) (c := cI 0) (d := cI 0) (e := cI 0) (f := cI 0) (R0 := R9) (R1 := R9) (num := cI 31) (W := fun z => z) (by decide) (by decide) (by decide) (I0_log h) (I0_r h) (I0_nob h) (fun z => fr.rf) (fun z k hk => absurd hk (Nat.not_lt_zero k)) (fun _ _ _ _ _ => trivial) (fun u t1 F A hu ht h16 ha h15 h13 h554 hA hM => by
    rw [dc_31 stg_14, dm_31 h16]
    obtain ⟨x, ex, hx⟩ := tariff_0 (I0_g1 h (num := cI 31) (a := cI 0) (b := cI 0) (c := cI 0) (d := cI 0) (e := cI 0) (f := cI 0))
    obtain ⟨y, ey, hy⟩ := tariffM_0 (s := t1) (by rw [h13, (I0_t h).1]) (by rw [(ht.1 549 125 rfl).1, (nof_c hu clr_n (c := 549) rfl).1]; exact I0_m h rfl)
    rw [ex, ey, ok_some, ok_some]
    exact ⟨rfl, Or.inl ⟨hy, lgS.fr hx (by decide +kernel) (by decide), trivial⟩⟩)
  exact g.mono fun x hx => hx.mono fun z hz => hz.1
theorem p1_16 (h : I0 xs L m) : LC_16 (P1 m) m := by
  unfold LC_16
  intro a
  refine p1_call (fun q h => fr_fPH_sheet h) (fun z q h => fr_fM_sheet h) (by decide +kernel) (by decide +kernel) ?_
  have e1 : fPH_sheet m a = clR m (cI 4) a (cI 0) (cI 0) (cI 0) (cI 0) (cI 0) := rfl
  have e2 : ∀ z, fM_sheet z a = fM_call (wI z 553 0 a) (cI 4) := fun z => by
    unfold fM_sheet
    simp only [bd2_eta, m_call1]
  rw [e1]
  simp only [e2]
  have g := call_rd (a := a) (b := cI 0) (c := cI 0) (d := cI 0) (e := cI 0) (f := cI 0) (R0 := R9) (R1 := R9) (num := cI 4) (W := fun z => wI z 553 0 a) (by decide) (by decide) (by decide) (I0_log h) (I0_r h) (I0_nob h) (fun z => fr.rf.wI rfl) (fun z k hk => by
    have : nAr.getD (ix (cI 4)) 0 = 1 := rfl
    obtain rfl : k = 0 := by omega
    unfold stg
    simp (disch := decide) only [wI_c, wI_ne, up1_eq, up1_ne]) (fun _ _ _ _ _ => trivial) (fun u t1 F A hu ht h16 ha h15 h13 h554 hA hM => by
    rw [dc_4 stg_14, dm_4 h16, ar_q ha (k := 0) (by decide)]
    exact k_sheet (I0_g1 h) (by rw [h13, (I0_t h).1]))
  exact g.mono fun x hx => hx.mono fun z hz => hz.1
theorem ef_39 {z : ev_M} {a b v : Int32} : fr STM z (wI (wI (wI z 553 2 v) 553 1 b) 553 0 a) := (((fr.rf.wI rfl).wI rfl).wI rfl)
theorem eg_39 {s z : ev_M} {a b v : Int32} : ArgE (cI 39) ((stg s (cI 39) a b v (cI 0) (cI 0) (cI 0)).1 14) ((wI (wI (wI z 553 2 v) 553 1 b) 553 0 a).1 553) := fun k hk => by
  have h4 : k = 0 ∨ k = 1 ∨ k = 2 := by
    have : nAr.getD (ix (cI 39)) 0 = 3 := rfl
    omega
  rcases h4 with rfl | rfl | rfl <;> (unfold stg; simp (disch := decide) only [wI_c, wI_ne, up1_eq, up1_ne])
theorem ec_39 {s : ev_M} {a b v : Int32} : fPH_wish_b17 s (cI 39) a b v = clC s (cI 39) a b v (cI 0) (cI 0) (cI 0) := rfl
theorem em_39 {z : ev_M} {a b v : Int32} : fM_wish_b14 z (cI 39) a b v = fM_call (wI (wI (wI z 553 2 v) 553 1 b) 553 0 a) (cI 39) := by
  unfold fM_wish_b14
  simp only [ltM_eq, bd2_eta, ix_0, ix_1, ix_2, ix_3, ix_4, ix_5, m_call1, m_call2, m_call3, m_call4]
theorem p1_70 (h : I0 xs L m) : LC_70 (P1 m) m := by
  unfold LC_70
  intro a b c _
  refine p1_call (fun q h => fr_fPH_wish h) (fun z q h => fr_fM_wish h) (by decide +kernel) (by decide +kernel) ?_
  have g : ∀ v, Ok (fPH_wish_b17 m (cI 39) a b v) fun x => Ok (fM_wish_b14 x.1 (cI 39) a b v) fun y => x.2 = y.2 := fun v => by
    simp only [ec_39, em_39]
    exact p1_act h (by decide) (by decide) (by decide) (fun z => ef_39) (fun z => eg_39) (fun s t F A _ _ _ hc hm h1 h2 _ => z9_39 hc hm h1 h2)
  unfold fPH_wish fM_wish
  by_cases q : c = 0
  · simp only [if_pos q]; exact g _
  · simp only [if_neg q]; exact g _
theorem p1_all (h : I0 xs L m) : LCs (P1 m) m := ⟨p1_0 h, p1_1 h, p1_2 h, p1_3 h, p1_4 h, p1_5 h, p1_6 h, p1_7 h, p1_8 h, p1_9 h, p1_10 h, p1_11 h, p1_12 h, p1_13 h, p1_14 h, p1_15 h, p1_16 h, p1_17 h, p1_18 h, p1_19 h, p1_20 h, p1_21 h, p1_22 h, p1_23 h, p1_24 h, p1_25 h, p1_26 h, p1_27 h, p1_28 h, p1_29 h, p1_30 h, p1_31 h, p1_32 h, p1_33 h, p1_34 h, p1_35 h, p1_36 h, p1_37 h, p1_38 h, p1_39 h, p1_40 h, p1_41 h, p1_42 h, p1_43 h, p1_44 h, p1_45 h, p1_46 h, p1_47 h, p1_48 h, p1_49 h, p1_50 h, p1_51 h, p1_52 h, p1_53 h, p1_54 h, p1_55 h, p1_56 h, p1_57 h, p1_58 h, p1_59 h, p1_60 h, p1_61 h, p1_62 h, p1_63 h, p1_64 h, p1_65 h, p1_66 h, p1_67 h, p1_68 h, p1_69 h, p1_70 h, p1_71 h, p1_72 h, p1_73 h, p1_74 h⟩
end
def I1 (y : ev_M) : Nat → ev_M → Prop
  | 0 => fun m => m = y
  | _ + 1 => P1 y
theorem stc_L {xs : Nat → Int32} {L : Nat} : stcT xs L 1021 0 = cI (L : Int) := rfl
theorem p1_main {xs : Nat → Int32} {L : Nat} (hL : L ≤ 7) : ∀ y, x_init xs L y → ∃ n q, fLaw_h23 n y (cI 0) = some (q, cI 1) ∧ q.2.2.2.2.1 ≤ 2004 ∧ q.2.2.2.2.2 ≤ 4000064 := fun y hy => by
  have h := x_I0 hy
  have h21 : y.1 1021 0 = cI (L : Int) := by rw [h.2.2.2.1 1021 (by decide)]; exact stc_L
  have P0 : P1 y y := ⟨⟨rfl, rfl⟩, by omega, by omega⟩
  obtain ⟨q, eq, e1, j, -, -, hj⟩ := law_loop (I := I1 y) (L := L) (by omega) (fun i m hm => by
    cases i with
    | zero => rw [show m = y from hm]; exact h21
    | succ i => rw [(show P1 y m from hm).1.2]; exact h21) (fun i m hi hm => by
    obtain rfl : i = 0 := by omega
    rw [show m = y from hm]
    exact ⟨p1_all h, P0⟩) 70 0 y (cI 0) rfl rfl rfl
  obtain ⟨q1, q2⟩ := q
  subst e1
  refine ⟨_, q1, eq, ?_⟩
  have b := h.2.1
  cases j with
  | zero =>
    rw [show q1 = y from hj]
    omega
  | succ j =>
    have := (show P1 y q1 from hj).2
    omega
