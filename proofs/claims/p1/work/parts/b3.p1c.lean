/-! ===== LEVEL 3: the calls of acts: as calls of a number (printed) ===== -/
theorem ec_2 {s : ev_M} {a b c d : Int32} : fPH_forward s a b c d = clC s (cI 2) a b c d (cI 0) (cI 0) := rfl
theorem em_2 {z : ev_M} {a b c d : Int32} : fM_forward z a b c d = fM_call (wI (wI (wI (wI z 553 3 d) 553 2 c) 553 1 b) 553 0 a) (cI 2) := by
  unfold fM_forward
  simp only [ltM_eq, bd2_eta, ix_0, ix_1, ix_2, ix_3, ix_4, ix_5, m_call1, m_call2, m_call3, m_call4]
theorem ef_2 {z : ev_M} {a b c d : Int32} : fr STM z (wI (wI (wI (wI z 553 3 d) 553 2 c) 553 1 b) 553 0 a) := ((((fr.rf.wI rfl).wI rfl).wI rfl).wI rfl)
theorem eg_2 {s z : ev_M} {a b c d : Int32} : ArgE (cI 2) ((stg s (cI 2) a b c d (cI 0) (cI 0)).1 14) ((wI (wI (wI (wI z 553 3 d) 553 2 c) 553 1 b) 553 0 a).1 553) := fun k hk => by
  have h4 : k = 0 ∨ k = 1 ∨ k = 2 ∨ k = 3 := by
    have : nAr.getD (ix (cI 2)) 0 = 4 := rfl
    omega
  rcases h4 with rfl | rfl | rfl | rfl <;> (unfold stg; simp (disch := decide) only [wI_c, wI_ne, up1_eq, up1_ne])
theorem ec_3 {s : ev_M} {a b c : Int32} : fPH_hold s a b c = clC s (cI 3) a b c (cI 0) (cI 0) (cI 0) := rfl
theorem em_3 {z : ev_M} {a b c : Int32} : fM_hold z a b c = fM_call (wI (wI (wI z 553 2 c) 553 1 b) 553 0 a) (cI 3) := by
  unfold fM_hold
  simp only [ltM_eq, bd2_eta, ix_0, ix_1, ix_2, ix_3, ix_4, ix_5, m_call1, m_call2, m_call3, m_call4]
theorem ef_3 {z : ev_M} {a b c : Int32} : fr STM z (wI (wI (wI z 553 2 c) 553 1 b) 553 0 a) := (((fr.rf.wI rfl).wI rfl).wI rfl)
theorem eg_3 {s z : ev_M} {a b c : Int32} : ArgE (cI 3) ((stg s (cI 3) a b c (cI 0) (cI 0) (cI 0)).1 14) ((wI (wI (wI z 553 2 c) 553 1 b) 553 0 a).1 553) := fun k hk => by
  have h4 : k = 0 ∨ k = 1 ∨ k = 2 := by
    have : nAr.getD (ix (cI 3)) 0 = 3 := rfl
    omega
  rcases h4 with rfl | rfl | rfl <;> (unfold stg; simp (disch := decide) only [wI_c, wI_ne, up1_eq, up1_ne])
theorem ec_5 {s : ev_M} {a b c d e f : Int32} : fPH_item s a b c d e f = clC s (cI 5) a b c d e f := rfl
theorem em_5 {z : ev_M} {a b c d e f : Int32} : fM_item z a b c d e f = fM_call (wI (wI (wI (wI (wI (wI z 553 4 e) 553 5 f) 553 3 d) 553 2 c) 553 1 b) 553 0 a) (cI 5) := by
  unfold fM_item
  simp only [ltM_eq, bd2_eta, ix_0, ix_1, ix_2, ix_3, ix_4, ix_5, m_call1, m_call2, m_call3, m_call4]
theorem ef_5 {z : ev_M} {a b c d e f : Int32} : fr STM z (wI (wI (wI (wI (wI (wI z 553 4 e) 553 5 f) 553 3 d) 553 2 c) 553 1 b) 553 0 a) := ((((((fr.rf.wI rfl).wI rfl).wI rfl).wI rfl).wI rfl).wI rfl)
theorem eg_5 {s z : ev_M} {a b c d e f : Int32} : ArgE (cI 5) ((stg s (cI 5) a b c d e f).1 14) ((wI (wI (wI (wI (wI (wI z 553 4 e) 553 5 f) 553 3 d) 553 2 c) 553 1 b) 553 0 a).1 553) := fun k hk => by
  have h4 : k = 0 ∨ k = 1 ∨ k = 2 ∨ k = 3 ∨ k = 4 ∨ k = 5 := by
    have : nAr.getD (ix (cI 5)) 0 = 6 := rfl
    omega
  rcases h4 with rfl | rfl | rfl | rfl | rfl | rfl <;> (unfold stg; simp (disch := decide) only [wI_c, wI_ne, up1_eq, up1_ne])
theorem ec_6 {s : ev_M} {a b : Int32} : fPH_address s a b = clC s (cI 6) a b (cI 0) (cI 0) (cI 0) (cI 0) := rfl
theorem em_6 {z : ev_M} {a b : Int32} : fM_address z a b = fM_call (wI (wI z 553 1 b) 553 0 a) (cI 6) := by
  unfold fM_address
  simp only [ltM_eq, bd2_eta, ix_0, ix_1, ix_2, ix_3, ix_4, ix_5, m_call1, m_call2, m_call3, m_call4]
theorem ef_6 {z : ev_M} {a b : Int32} : fr STM z (wI (wI z 553 1 b) 553 0 a) := ((fr.rf.wI rfl).wI rfl)
theorem eg_6 {s z : ev_M} {a b : Int32} : ArgE (cI 6) ((stg s (cI 6) a b (cI 0) (cI 0) (cI 0) (cI 0)).1 14) ((wI (wI z 553 1 b) 553 0 a).1 553) := fun k hk => by
  have h4 : k = 0 ∨ k = 1 := by
    have : nAr.getD (ix (cI 6)) 0 = 2 := rfl
    omega
  rcases h4 with rfl | rfl <;> (unfold stg; simp (disch := decide) only [wI_c, wI_ne, up1_eq, up1_ne])
theorem ec_7 {s : ev_M} {a : Int32} : fPH_take s a = clC s (cI 7) a (cI 0) (cI 0) (cI 0) (cI 0) (cI 0) := rfl
theorem em_7 {z : ev_M} {a : Int32} : fM_take z a = fM_call (wI z 553 0 a) (cI 7) := by
  unfold fM_take
  simp only [ltM_eq, bd2_eta, ix_0, ix_1, ix_2, ix_3, ix_4, ix_5, m_call1, m_call2, m_call3, m_call4]
theorem ef_7 {z : ev_M} {a : Int32} : fr STM z (wI z 553 0 a) := (fr.rf.wI rfl)
theorem eg_7 {s z : ev_M} {a : Int32} : ArgE (cI 7) ((stg s (cI 7) a (cI 0) (cI 0) (cI 0) (cI 0) (cI 0)).1 14) ((wI z 553 0 a).1 553) := fun k hk => by
  have h4 : k = 0 := by
    have : nAr.getD (ix (cI 7)) 0 = 1 := rfl
    omega
  subst h4
  unfold stg
  simp (disch := decide) only [wI_c, wI_ne, up1_eq, up1_ne]
theorem ec_8 {s : ev_M} {a b c : Int32} : fPH_clerk s a b c = clC s (cI 8) a b c (cI 0) (cI 0) (cI 0) := rfl
theorem em_8 {z : ev_M} {a b c : Int32} : fM_clerk z a b c = fM_call (wI (wI (wI z 553 2 c) 553 1 b) 553 0 a) (cI 8) := by
  unfold fM_clerk
  simp only [ltM_eq, bd2_eta, ix_0, ix_1, ix_2, ix_3, ix_4, ix_5, m_call1, m_call2, m_call3, m_call4]
theorem ef_8 {z : ev_M} {a b c : Int32} : fr STM z (wI (wI (wI z 553 2 c) 553 1 b) 553 0 a) := (((fr.rf.wI rfl).wI rfl).wI rfl)
theorem eg_8 {s z : ev_M} {a b c : Int32} : ArgE (cI 8) ((stg s (cI 8) a b c (cI 0) (cI 0) (cI 0)).1 14) ((wI (wI (wI z 553 2 c) 553 1 b) 553 0 a).1 553) := fun k hk => by
  have h4 : k = 0 ∨ k = 1 ∨ k = 2 := by
    have : nAr.getD (ix (cI 8)) 0 = 3 := rfl
    omega
  rcases h4 with rfl | rfl | rfl <;> (unfold stg; simp (disch := decide) only [wI_c, wI_ne, up1_eq, up1_ne])
theorem ec_9 {s : ev_M} {a b : Int32} : fPH_post s a b = clC s (cI 9) a b (cI 0) (cI 0) (cI 0) (cI 0) := rfl
theorem em_9 {z : ev_M} {a b : Int32} : fM_post z a b = fM_call (wI (wI z 553 1 b) 553 0 a) (cI 9) := by
  unfold fM_post
  simp only [ltM_eq, bd2_eta, ix_0, ix_1, ix_2, ix_3, ix_4, ix_5, m_call1, m_call2, m_call3, m_call4]
theorem ef_9 {z : ev_M} {a b : Int32} : fr STM z (wI (wI z 553 1 b) 553 0 a) := ((fr.rf.wI rfl).wI rfl)
theorem eg_9 {s z : ev_M} {a b : Int32} : ArgE (cI 9) ((stg s (cI 9) a b (cI 0) (cI 0) (cI 0) (cI 0)).1 14) ((wI (wI z 553 1 b) 553 0 a).1 553) := fun k hk => by
  have h4 : k = 0 ∨ k = 1 := by
    have : nAr.getD (ix (cI 9)) 0 = 2 := rfl
    omega
  rcases h4 with rfl | rfl <;> (unfold stg; simp (disch := decide) only [wI_c, wI_ne, up1_eq, up1_ne])
theorem ec_10 {s : ev_M} {a b c d : Int32} : fPH_machine s a b c d = clC s (cI 10) a b c d (cI 0) (cI 0) := rfl
theorem em_10 {z : ev_M} {a b c d : Int32} : fM_machine z a b c d = fM_call (wI (wI (wI (wI z 553 3 d) 553 2 c) 553 1 b) 553 0 a) (cI 10) := by
  unfold fM_machine
  simp only [ltM_eq, bd2_eta, ix_0, ix_1, ix_2, ix_3, ix_4, ix_5, m_call1, m_call2, m_call3, m_call4]
theorem ef_10 {z : ev_M} {a b c d : Int32} : fr STM z (wI (wI (wI (wI z 553 3 d) 553 2 c) 553 1 b) 553 0 a) := ((((fr.rf.wI rfl).wI rfl).wI rfl).wI rfl)
theorem eg_10 {s z : ev_M} {a b c d : Int32} : ArgE (cI 10) ((stg s (cI 10) a b c d (cI 0) (cI 0)).1 14) ((wI (wI (wI (wI z 553 3 d) 553 2 c) 553 1 b) 553 0 a).1 553) := fun k hk => by
  have h4 : k = 0 ∨ k = 1 ∨ k = 2 ∨ k = 3 := by
    have : nAr.getD (ix (cI 10)) 0 = 4 := rfl
    omega
  rcases h4 with rfl | rfl | rfl | rfl <;> (unfold stg; simp (disch := decide) only [wI_c, wI_ne, up1_eq, up1_ne])
theorem ec_11 {s : ev_M} {a b c : Int32} : fPH_round s a b c = clC s (cI 11) a b c (cI 0) (cI 0) (cI 0) := rfl
theorem em_11 {z : ev_M} {a b c : Int32} : fM_round z a b c = fM_call (wI (wI (wI z 553 2 c) 553 1 b) 553 0 a) (cI 11) := by
  unfold fM_round
  simp only [ltM_eq, bd2_eta, ix_0, ix_1, ix_2, ix_3, ix_4, ix_5, m_call1, m_call2, m_call3, m_call4]
theorem ef_11 {z : ev_M} {a b c : Int32} : fr STM z (wI (wI (wI z 553 2 c) 553 1 b) 553 0 a) := (((fr.rf.wI rfl).wI rfl).wI rfl)
theorem eg_11 {s z : ev_M} {a b c : Int32} : ArgE (cI 11) ((stg s (cI 11) a b c (cI 0) (cI 0) (cI 0)).1 14) ((wI (wI (wI z 553 2 c) 553 1 b) 553 0 a).1 553) := fun k hk => by
  have h4 : k = 0 ∨ k = 1 ∨ k = 2 := by
    have : nAr.getD (ix (cI 11)) 0 = 3 := rfl
    omega
  rcases h4 with rfl | rfl | rfl <;> (unfold stg; simp (disch := decide) only [wI_c, wI_ne, up1_eq, up1_ne])
theorem ec_12 {s : ev_M} {a b : Int32} : fPH_assign s a b = clC s (cI 12) a b (cI 0) (cI 0) (cI 0) (cI 0) := rfl
theorem em_12 {z : ev_M} {a b : Int32} : fM_assign z a b = fM_call (wI (wI z 553 1 b) 553 0 a) (cI 12) := by
  unfold fM_assign
  simp only [ltM_eq, bd2_eta, ix_0, ix_1, ix_2, ix_3, ix_4, ix_5, m_call1, m_call2, m_call3, m_call4]
theorem ef_12 {z : ev_M} {a b : Int32} : fr STM z (wI (wI z 553 1 b) 553 0 a) := ((fr.rf.wI rfl).wI rfl)
theorem eg_12 {s z : ev_M} {a b : Int32} : ArgE (cI 12) ((stg s (cI 12) a b (cI 0) (cI 0) (cI 0) (cI 0)).1 14) ((wI (wI z 553 1 b) 553 0 a).1 553) := fun k hk => by
  have h4 : k = 0 ∨ k = 1 := by
    have : nAr.getD (ix (cI 12)) 0 = 2 := rfl
    omega
  rcases h4 with rfl | rfl <;> (unfold stg; simp (disch := decide) only [wI_c, wI_ne, up1_eq, up1_ne])
theorem ec_13 {s : ev_M} {a : Int32} : fPH_arrange s a = clC s (cI 13) a (cI 0) (cI 0) (cI 0) (cI 0) (cI 0) := rfl
theorem em_13 {z : ev_M} {a : Int32} : fM_arrange z a = fM_call (wI z 553 0 a) (cI 13) := by
  unfold fM_arrange
  simp only [ltM_eq, bd2_eta, ix_0, ix_1, ix_2, ix_3, ix_4, ix_5, m_call1, m_call2, m_call3, m_call4]
theorem ef_13 {z : ev_M} {a : Int32} : fr STM z (wI z 553 0 a) := (fr.rf.wI rfl)
theorem eg_13 {s z : ev_M} {a : Int32} : ArgE (cI 13) ((stg s (cI 13) a (cI 0) (cI 0) (cI 0) (cI 0) (cI 0)).1 14) ((wI z 553 0 a).1 553) := fun k hk => by
  have h4 : k = 0 := by
    have : nAr.getD (ix (cI 13)) 0 = 1 := rfl
    omega
  subst h4
  unfold stg
  simp (disch := decide) only [wI_c, wI_ne, up1_eq, up1_ne]
theorem ec_14 {s : ev_M} {a : Int32} : fPH_sort s a = clC s (cI 14) a (cI 0) (cI 0) (cI 0) (cI 0) (cI 0) := rfl
theorem em_14 {z : ev_M} {a : Int32} : fM_sort z a = fM_call (wI z 553 0 a) (cI 14) := by
  unfold fM_sort
  simp only [ltM_eq, bd2_eta, ix_0, ix_1, ix_2, ix_3, ix_4, ix_5, m_call1, m_call2, m_call3, m_call4]
theorem ef_14 {z : ev_M} {a : Int32} : fr STM z (wI z 553 0 a) := (fr.rf.wI rfl)
theorem eg_14 {s z : ev_M} {a : Int32} : ArgE (cI 14) ((stg s (cI 14) a (cI 0) (cI 0) (cI 0) (cI 0) (cI 0)).1 14) ((wI z 553 0 a).1 553) := fun k hk => by
  have h4 : k = 0 := by
    have : nAr.getD (ix (cI 14)) 0 = 1 := rfl
    omega
  subst h4
  unfold stg
  simp (disch := decide) only [wI_c, wI_ne, up1_eq, up1_ne]
theorem ec_15 {s : ev_M} {a : Int32} : fPH_out s a = clC s (cI 15) a (cI 0) (cI 0) (cI 0) (cI 0) (cI 0) := rfl
theorem em_15 {z : ev_M} {a : Int32} : fM_out z a = fM_call (wI z 553 0 a) (cI 15) := by
  unfold fM_out
  simp only [ltM_eq, bd2_eta, ix_0, ix_1, ix_2, ix_3, ix_4, ix_5, m_call1, m_call2, m_call3, m_call4]
theorem ef_15 {z : ev_M} {a : Int32} : fr STM z (wI z 553 0 a) := (fr.rf.wI rfl)
theorem eg_15 {s z : ev_M} {a : Int32} : ArgE (cI 15) ((stg s (cI 15) a (cI 0) (cI 0) (cI 0) (cI 0) (cI 0)).1 14) ((wI z 553 0 a).1 553) := fun k hk => by
  have h4 : k = 0 := by
    have : nAr.getD (ix (cI 15)) 0 = 1 := rfl
    omega
  subst h4
  unfold stg
  simp (disch := decide) only [wI_c, wI_ne, up1_eq, up1_ne]
theorem ec_16 {s : ev_M} {a b c d e : Int32} : fPH_leg s a b c d e = clC s (cI 16) a b c d e (cI 0) := rfl
theorem em_16 {z : ev_M} {a b c d e : Int32} : fM_leg z a b c d e = fM_call (wI (wI (wI (wI (wI z 553 4 e) 553 3 d) 553 2 c) 553 1 b) 553 0 a) (cI 16) := by
  unfold fM_leg
  simp only [ltM_eq, bd2_eta, ix_0, ix_1, ix_2, ix_3, ix_4, ix_5, m_call1, m_call2, m_call3, m_call4]
theorem ef_16 {z : ev_M} {a b c d e : Int32} : fr STM z (wI (wI (wI (wI (wI z 553 4 e) 553 3 d) 553 2 c) 553 1 b) 553 0 a) := (((((fr.rf.wI rfl).wI rfl).wI rfl).wI rfl).wI rfl)
theorem eg_16 {s z : ev_M} {a b c d e : Int32} : ArgE (cI 16) ((stg s (cI 16) a b c d e (cI 0)).1 14) ((wI (wI (wI (wI (wI z 553 4 e) 553 3 d) 553 2 c) 553 1 b) 553 0 a).1 553) := fun k hk => by
  have h4 : k = 0 ∨ k = 1 ∨ k = 2 ∨ k = 3 ∨ k = 4 := by
    have : nAr.getD (ix (cI 16)) 0 = 5 := rfl
    omega
  rcases h4 with rfl | rfl | rfl | rfl | rfl <;> (unfold stg; simp (disch := decide) only [wI_c, wI_ne, up1_eq, up1_ne])
theorem ec_17 {s : ev_M} {a b : Int32} : fPH_late s a b = clC s (cI 17) a b (cI 0) (cI 0) (cI 0) (cI 0) := rfl
theorem em_17 {z : ev_M} {a b : Int32} : fM_late z a b = fM_call (wI (wI z 553 1 b) 553 0 a) (cI 17) := by
  unfold fM_late
  simp only [ltM_eq, bd2_eta, ix_0, ix_1, ix_2, ix_3, ix_4, ix_5, m_call1, m_call2, m_call3, m_call4]
theorem ef_17 {z : ev_M} {a b : Int32} : fr STM z (wI (wI z 553 1 b) 553 0 a) := ((fr.rf.wI rfl).wI rfl)
theorem eg_17 {s z : ev_M} {a b : Int32} : ArgE (cI 17) ((stg s (cI 17) a b (cI 0) (cI 0) (cI 0) (cI 0)).1 14) ((wI (wI z 553 1 b) 553 0 a).1 553) := fun k hk => by
  have h4 : k = 0 ∨ k = 1 := by
    have : nAr.getD (ix (cI 17)) 0 = 2 := rfl
    omega
  rcases h4 with rfl | rfl <;> (unfold stg; simp (disch := decide) only [wI_c, wI_ne, up1_eq, up1_ne])
theorem ec_18 {s : ev_M} {a b : Int32} : fPH_bag s a b = clC s (cI 18) a b (cI 0) (cI 0) (cI 0) (cI 0) := rfl
theorem em_18 {z : ev_M} {a b : Int32} : fM_bag z a b = fM_call (wI (wI z 553 1 b) 553 0 a) (cI 18) := by
  unfold fM_bag
  simp only [ltM_eq, bd2_eta, ix_0, ix_1, ix_2, ix_3, ix_4, ix_5, m_call1, m_call2, m_call3, m_call4]
theorem ef_18 {z : ev_M} {a b : Int32} : fr STM z (wI (wI z 553 1 b) 553 0 a) := ((fr.rf.wI rfl).wI rfl)
theorem eg_18 {s z : ev_M} {a b : Int32} : ArgE (cI 18) ((stg s (cI 18) a b (cI 0) (cI 0) (cI 0) (cI 0)).1 14) ((wI (wI z 553 1 b) 553 0 a).1 553) := fun k hk => by
  have h4 : k = 0 ∨ k = 1 := by
    have : nAr.getD (ix (cI 18)) 0 = 2 := rfl
    omega
  rcases h4 with rfl | rfl <;> (unfold stg; simp (disch := decide) only [wI_c, wI_ne, up1_eq, up1_ne])
theorem ec_19 {s : ev_M} {a b : Int32} : fPH_into s a b = clC s (cI 19) a b (cI 0) (cI 0) (cI 0) (cI 0) := rfl
theorem em_19 {z : ev_M} {a b : Int32} : fM_into z a b = fM_call (wI (wI z 553 1 b) 553 0 a) (cI 19) := by
  unfold fM_into
  simp only [ltM_eq, bd2_eta, ix_0, ix_1, ix_2, ix_3, ix_4, ix_5, m_call1, m_call2, m_call3, m_call4]
theorem ef_19 {z : ev_M} {a b : Int32} : fr STM z (wI (wI z 553 1 b) 553 0 a) := ((fr.rf.wI rfl).wI rfl)
theorem eg_19 {s z : ev_M} {a b : Int32} : ArgE (cI 19) ((stg s (cI 19) a b (cI 0) (cI 0) (cI 0) (cI 0)).1 14) ((wI (wI z 553 1 b) 553 0 a).1 553) := fun k hk => by
  have h4 : k = 0 ∨ k = 1 := by
    have : nAr.getD (ix (cI 19)) 0 = 2 := rfl
    omega
  rcases h4 with rfl | rfl <;> (unfold stg; simp (disch := decide) only [wI_c, wI_ne, up1_eq, up1_ne])
theorem ec_20 {s : ev_M} {a : Int32} : fPH_closeBag s a = clC s (cI 20) a (cI 0) (cI 0) (cI 0) (cI 0) (cI 0) := rfl
theorem em_20 {z : ev_M} {a : Int32} : fM_closeBag z a = fM_call (wI z 553 0 a) (cI 20) := by
  unfold fM_closeBag
  simp only [ltM_eq, bd2_eta, ix_0, ix_1, ix_2, ix_3, ix_4, ix_5, m_call1, m_call2, m_call3, m_call4]
theorem ef_20 {z : ev_M} {a : Int32} : fr STM z (wI z 553 0 a) := (fr.rf.wI rfl)
theorem eg_20 {s z : ev_M} {a : Int32} : ArgE (cI 20) ((stg s (cI 20) a (cI 0) (cI 0) (cI 0) (cI 0) (cI 0)).1 14) ((wI z 553 0 a).1 553) := fun k hk => by
  have h4 : k = 0 := by
    have : nAr.getD (ix (cI 20)) 0 = 1 := rfl
    omega
  subst h4
  unfold stg
  simp (disch := decide) only [wI_c, wI_ne, up1_eq, up1_ne]
theorem ec_21 {s : ev_M} {a : Int32} : fPH_openBag s a = clC s (cI 21) a (cI 0) (cI 0) (cI 0) (cI 0) (cI 0) := rfl
theorem em_21 {z : ev_M} {a : Int32} : fM_openBag z a = fM_call (wI z 553 0 a) (cI 21) := by
  unfold fM_openBag
  simp only [ltM_eq, bd2_eta, ix_0, ix_1, ix_2, ix_3, ix_4, ix_5, m_call1, m_call2, m_call3, m_call4]
theorem ef_21 {z : ev_M} {a : Int32} : fr STM z (wI z 553 0 a) := (fr.rf.wI rfl)
theorem eg_21 {s z : ev_M} {a : Int32} : ArgE (cI 21) ((stg s (cI 21) a (cI 0) (cI 0) (cI 0) (cI 0) (cI 0)).1 14) ((wI z 553 0 a).1 553) := fun k hk => by
  have h4 : k = 0 := by
    have : nAr.getD (ix (cI 21)) 0 = 1 := rfl
    omega
  subst h4
  unfold stg
  simp (disch := decide) only [wI_c, wI_ne, up1_eq, up1_ne]
theorem ec_22 {s : ev_M} {a b c d : Int32} : fPH_hand s a b c d = clC s (cI 22) a b c d (cI 0) (cI 0) := rfl
theorem em_22 {z : ev_M} {a b c d : Int32} : fM_hand z a b c d = fM_call (wI (wI (wI (wI z 553 3 d) 553 2 c) 553 1 b) 553 0 a) (cI 22) := by
  unfold fM_hand
  simp only [ltM_eq, bd2_eta, ix_0, ix_1, ix_2, ix_3, ix_4, ix_5, m_call1, m_call2, m_call3, m_call4]
theorem ef_22 {z : ev_M} {a b c d : Int32} : fr STM z (wI (wI (wI (wI z 553 3 d) 553 2 c) 553 1 b) 553 0 a) := ((((fr.rf.wI rfl).wI rfl).wI rfl).wI rfl)
theorem eg_22 {s z : ev_M} {a b c d : Int32} : ArgE (cI 22) ((stg s (cI 22) a b c d (cI 0) (cI 0)).1 14) ((wI (wI (wI (wI z 553 3 d) 553 2 c) 553 1 b) 553 0 a).1 553) := fun k hk => by
  have h4 : k = 0 ∨ k = 1 ∨ k = 2 ∨ k = 3 := by
    have : nAr.getD (ix (cI 22)) 0 = 4 := rfl
    omega
  rcases h4 with rfl | rfl | rfl | rfl <;> (unfold stg; simp (disch := decide) only [wI_c, wI_ne, up1_eq, up1_ne])
theorem ec_23 {s : ev_M} {a : Int32} : fPH_miss s a = clC s (cI 23) a (cI 0) (cI 0) (cI 0) (cI 0) (cI 0) := rfl
theorem em_23 {z : ev_M} {a : Int32} : fM_miss z a = fM_call (wI z 553 0 a) (cI 23) := by
  unfold fM_miss
  simp only [ltM_eq, bd2_eta, ix_0, ix_1, ix_2, ix_3, ix_4, ix_5, m_call1, m_call2, m_call3, m_call4]
theorem ef_23 {z : ev_M} {a : Int32} : fr STM z (wI z 553 0 a) := (fr.rf.wI rfl)
theorem eg_23 {s z : ev_M} {a : Int32} : ArgE (cI 23) ((stg s (cI 23) a (cI 0) (cI 0) (cI 0) (cI 0) (cI 0)).1 14) ((wI z 553 0 a).1 553) := fun k hk => by
  have h4 : k = 0 := by
    have : nAr.getD (ix (cI 23)) 0 = 1 := rfl
    omega
  subst h4
  unfold stg
  simp (disch := decide) only [wI_c, wI_ne, up1_eq, up1_ne]
theorem ec_24 {s : ev_M} {a : Int32} : fPH_refuse s a = clC s (cI 24) a (cI 0) (cI 0) (cI 0) (cI 0) (cI 0) := rfl
theorem em_24 {z : ev_M} {a : Int32} : fM_refuse z a = fM_call (wI z 553 0 a) (cI 24) := by
  unfold fM_refuse
  simp only [ltM_eq, bd2_eta, ix_0, ix_1, ix_2, ix_3, ix_4, ix_5, m_call1, m_call2, m_call3, m_call4]
theorem ef_24 {z : ev_M} {a : Int32} : fr STM z (wI z 553 0 a) := (fr.rf.wI rfl)
theorem eg_24 {s z : ev_M} {a : Int32} : ArgE (cI 24) ((stg s (cI 24) a (cI 0) (cI 0) (cI 0) (cI 0) (cI 0)).1 14) ((wI z 553 0 a).1 553) := fun k hk => by
  have h4 : k = 0 := by
    have : nAr.getD (ix (cI 24)) 0 = 1 := rfl
    omega
  subst h4
  unfold stg
  simp (disch := decide) only [wI_c, wI_ne, up1_eq, up1_ne]
theorem ec_25 {s : ev_M} {a b : Int32} : fPH_put s a b = clC s (cI 25) a b (cI 0) (cI 0) (cI 0) (cI 0) := rfl
theorem em_25 {z : ev_M} {a b : Int32} : fM_put z a b = fM_call (wI (wI z 553 1 b) 553 0 a) (cI 25) := by
  unfold fM_put
  simp only [ltM_eq, bd2_eta, ix_0, ix_1, ix_2, ix_3, ix_4, ix_5, m_call1, m_call2, m_call3, m_call4]
theorem ef_25 {z : ev_M} {a b : Int32} : fr STM z (wI (wI z 553 1 b) 553 0 a) := ((fr.rf.wI rfl).wI rfl)
theorem eg_25 {s z : ev_M} {a b : Int32} : ArgE (cI 25) ((stg s (cI 25) a b (cI 0) (cI 0) (cI 0) (cI 0)).1 14) ((wI (wI z 553 1 b) 553 0 a).1 553) := fun k hk => by
  have h4 : k = 0 ∨ k = 1 := by
    have : nAr.getD (ix (cI 25)) 0 = 2 := rfl
    omega
  rcases h4 with rfl | rfl <;> (unfold stg; simp (disch := decide) only [wI_c, wI_ne, up1_eq, up1_ne])
theorem ec_26 {s : ev_M} {a b c d : Int32} : fPH_pickUp s a b c d = clC s (cI 26) a b c d (cI 0) (cI 0) := rfl
theorem em_26 {z : ev_M} {a b c d : Int32} : fM_pickUp z a b c d = fM_call (wI (wI (wI (wI z 553 3 d) 553 2 c) 553 1 b) 553 0 a) (cI 26) := by
  unfold fM_pickUp
  simp only [ltM_eq, bd2_eta, ix_0, ix_1, ix_2, ix_3, ix_4, ix_5, m_call1, m_call2, m_call3, m_call4]
theorem ef_26 {z : ev_M} {a b c d : Int32} : fr STM z (wI (wI (wI (wI z 553 3 d) 553 2 c) 553 1 b) 553 0 a) := ((((fr.rf.wI rfl).wI rfl).wI rfl).wI rfl)
theorem eg_26 {s z : ev_M} {a b c d : Int32} : ArgE (cI 26) ((stg s (cI 26) a b c d (cI 0) (cI 0)).1 14) ((wI (wI (wI (wI z 553 3 d) 553 2 c) 553 1 b) 553 0 a).1 553) := fun k hk => by
  have h4 : k = 0 ∨ k = 1 ∨ k = 2 ∨ k = 3 := by
    have : nAr.getD (ix (cI 26)) 0 = 4 := rfl
    omega
  rcases h4 with rfl | rfl | rfl | rfl <;> (unfold stg; simp (disch := decide) only [wI_c, wI_ne, up1_eq, up1_ne])
theorem ec_27 {s : ev_M} {a b : Int32} : fPH_openBox s a b = clC s (cI 27) a b (cI 0) (cI 0) (cI 0) (cI 0) := rfl
theorem em_27 {z : ev_M} {a b : Int32} : fM_openBox z a b = fM_call (wI (wI z 553 1 b) 553 0 a) (cI 27) := by
  unfold fM_openBox
  simp only [ltM_eq, bd2_eta, ix_0, ix_1, ix_2, ix_3, ix_4, ix_5, m_call1, m_call2, m_call3, m_call4]
theorem ef_27 {z : ev_M} {a b : Int32} : fr STM z (wI (wI z 553 1 b) 553 0 a) := ((fr.rf.wI rfl).wI rfl)
theorem eg_27 {s z : ev_M} {a b : Int32} : ArgE (cI 27) ((stg s (cI 27) a b (cI 0) (cI 0) (cI 0) (cI 0)).1 14) ((wI (wI z 553 1 b) 553 0 a).1 553) := fun k hk => by
  have h4 : k = 0 ∨ k = 1 := by
    have : nAr.getD (ix (cI 27)) 0 = 2 := rfl
    omega
  rcases h4 with rfl | rfl <;> (unfold stg; simp (disch := decide) only [wI_c, wI_ne, up1_eq, up1_ne])
theorem ec_28 {s : ev_M} {a : Int32} : fPH_lose s a = clC s (cI 28) a (cI 0) (cI 0) (cI 0) (cI 0) (cI 0) := rfl
theorem em_28 {z : ev_M} {a : Int32} : fM_lose z a = fM_call (wI z 553 0 a) (cI 28) := by
  unfold fM_lose
  simp only [ltM_eq, bd2_eta, ix_0, ix_1, ix_2, ix_3, ix_4, ix_5, m_call1, m_call2, m_call3, m_call4]
theorem ef_28 {z : ev_M} {a : Int32} : fr STM z (wI z 553 0 a) := (fr.rf.wI rfl)
theorem eg_28 {s z : ev_M} {a : Int32} : ArgE (cI 28) ((stg s (cI 28) a (cI 0) (cI 0) (cI 0) (cI 0) (cI 0)).1 14) ((wI z 553 0 a).1 553) := fun k hk => by
  have h4 : k = 0 := by
    have : nAr.getD (ix (cI 28)) 0 = 1 := rfl
    omega
  subst h4
  unfold stg
  simp (disch := decide) only [wI_c, wI_ne, up1_eq, up1_ne]
theorem ec_29 {s : ev_M} {a : Int32} : fPH_account s a = clC s (cI 29) a (cI 0) (cI 0) (cI 0) (cI 0) (cI 0) := rfl
theorem em_29 {z : ev_M} {a : Int32} : fM_account z a = fM_call (wI z 553 0 a) (cI 29) := by
  unfold fM_account
  simp only [ltM_eq, bd2_eta, ix_0, ix_1, ix_2, ix_3, ix_4, ix_5, m_call1, m_call2, m_call3, m_call4]
theorem ef_29 {z : ev_M} {a : Int32} : fr STM z (wI z 553 0 a) := (fr.rf.wI rfl)
theorem eg_29 {s z : ev_M} {a : Int32} : ArgE (cI 29) ((stg s (cI 29) a (cI 0) (cI 0) (cI 0) (cI 0) (cI 0)).1 14) ((wI z 553 0 a).1 553) := fun k hk => by
  have h4 : k = 0 := by
    have : nAr.getD (ix (cI 29)) 0 = 1 := rfl
    omega
  subst h4
  unfold stg
  simp (disch := decide) only [wI_c, wI_ne, up1_eq, up1_ne]
theorem ec_30 {s : ev_M} {a b : Int32} : fPH_deposit s a b = clC s (cI 30) a b (cI 0) (cI 0) (cI 0) (cI 0) := rfl
theorem em_30 {z : ev_M} {a b : Int32} : fM_deposit z a b = fM_call (wI (wI z 553 1 b) 553 0 a) (cI 30) := by
  unfold fM_deposit
  simp only [ltM_eq, bd2_eta, ix_0, ix_1, ix_2, ix_3, ix_4, ix_5, m_call1, m_call2, m_call3, m_call4]
theorem ef_30 {z : ev_M} {a b : Int32} : fr STM z (wI (wI z 553 1 b) 553 0 a) := ((fr.rf.wI rfl).wI rfl)
theorem eg_30 {s z : ev_M} {a b : Int32} : ArgE (cI 30) ((stg s (cI 30) a b (cI 0) (cI 0) (cI 0) (cI 0)).1 14) ((wI (wI z 553 1 b) 553 0 a).1 553) := fun k hk => by
  have h4 : k = 0 ∨ k = 1 := by
    have : nAr.getD (ix (cI 30)) 0 = 2 := rfl
    omega
  rcases h4 with rfl | rfl <;> (unfold stg; simp (disch := decide) only [wI_c, wI_ne, up1_eq, up1_ne])
theorem ec_32 {s : ev_M} {a : Int32} : fPH_frank s a = clC s (cI 32) a (cI 0) (cI 0) (cI 0) (cI 0) (cI 0) := rfl
theorem em_32 {z : ev_M} {a : Int32} : fM_frank z a = fM_call (wI z 553 0 a) (cI 32) := by
  unfold fM_frank
  simp only [ltM_eq, bd2_eta, ix_0, ix_1, ix_2, ix_3, ix_4, ix_5, m_call1, m_call2, m_call3, m_call4]
theorem ef_32 {z : ev_M} {a : Int32} : fr STM z (wI z 553 0 a) := (fr.rf.wI rfl)
theorem eg_32 {s z : ev_M} {a : Int32} : ArgE (cI 32) ((stg s (cI 32) a (cI 0) (cI 0) (cI 0) (cI 0) (cI 0)).1 14) ((wI z 553 0 a).1 553) := fun k hk => by
  have h4 : k = 0 := by
    have : nAr.getD (ix (cI 32)) 0 = 1 := rfl
    omega
  subst h4
  unfold stg
  simp (disch := decide) only [wI_c, wI_ne, up1_eq, up1_ne]
theorem ec_33 {s : ev_M} {a b c : Int32} : fPH_order s a b c = clC s (cI 33) a b c (cI 0) (cI 0) (cI 0) := rfl
theorem em_33 {z : ev_M} {a b c : Int32} : fM_order z a b c = fM_call (wI (wI (wI z 553 2 c) 553 1 b) 553 0 a) (cI 33) := by
  unfold fM_order
  simp only [ltM_eq, bd2_eta, ix_0, ix_1, ix_2, ix_3, ix_4, ix_5, m_call1, m_call2, m_call3, m_call4]
theorem ef_33 {z : ev_M} {a b c : Int32} : fr STM z (wI (wI (wI z 553 2 c) 553 1 b) 553 0 a) := (((fr.rf.wI rfl).wI rfl).wI rfl)
theorem eg_33 {s z : ev_M} {a b c : Int32} : ArgE (cI 33) ((stg s (cI 33) a b c (cI 0) (cI 0) (cI 0)).1 14) ((wI (wI (wI z 553 2 c) 553 1 b) 553 0 a).1 553) := fun k hk => by
  have h4 : k = 0 ∨ k = 1 ∨ k = 2 := by
    have : nAr.getD (ix (cI 33)) 0 = 3 := rfl
    omega
  rcases h4 with rfl | rfl | rfl <;> (unfold stg; simp (disch := decide) only [wI_c, wI_ne, up1_eq, up1_ne])
theorem ec_34 {s : ev_M} {a b c : Int32} : fPH_payOut s a b c = clC s (cI 34) a b c (cI 0) (cI 0) (cI 0) := rfl
theorem em_34 {z : ev_M} {a b c : Int32} : fM_payOut z a b c = fM_call (wI (wI (wI z 553 2 c) 553 1 b) 553 0 a) (cI 34) := by
  unfold fM_payOut
  simp only [ltM_eq, bd2_eta, ix_0, ix_1, ix_2, ix_3, ix_4, ix_5, m_call1, m_call2, m_call3, m_call4]
theorem ef_34 {z : ev_M} {a b c : Int32} : fr STM z (wI (wI (wI z 553 2 c) 553 1 b) 553 0 a) := (((fr.rf.wI rfl).wI rfl).wI rfl)
theorem eg_34 {s z : ev_M} {a b c : Int32} : ArgE (cI 34) ((stg s (cI 34) a b c (cI 0) (cI 0) (cI 0)).1 14) ((wI (wI (wI z 553 2 c) 553 1 b) 553 0 a).1 553) := fun k hk => by
  have h4 : k = 0 ∨ k = 1 ∨ k = 2 := by
    have : nAr.getD (ix (cI 34)) 0 = 3 := rfl
    omega
  rcases h4 with rfl | rfl | rfl <;> (unfold stg; simp (disch := decide) only [wI_c, wI_ne, up1_eq, up1_ne])
theorem ec_35 {s : ev_M} {a b : Int32} : fPH_claim s a b = clC s (cI 35) a b (cI 0) (cI 0) (cI 0) (cI 0) := rfl
theorem em_35 {z : ev_M} {a b : Int32} : fM_claim z a b = fM_call (wI (wI z 553 1 b) 553 0 a) (cI 35) := by
  unfold fM_claim
  simp only [ltM_eq, bd2_eta, ix_0, ix_1, ix_2, ix_3, ix_4, ix_5, m_call1, m_call2, m_call3, m_call4]
theorem ef_35 {z : ev_M} {a b : Int32} : fr STM z (wI (wI z 553 1 b) 553 0 a) := ((fr.rf.wI rfl).wI rfl)
theorem eg_35 {s z : ev_M} {a b : Int32} : ArgE (cI 35) ((stg s (cI 35) a b (cI 0) (cI 0) (cI 0) (cI 0)).1 14) ((wI (wI z 553 1 b) 553 0 a).1 553) := fun k hk => by
  have h4 : k = 0 ∨ k = 1 := by
    have : nAr.getD (ix (cI 35)) 0 = 2 := rfl
    omega
  rcases h4 with rfl | rfl <;> (unfold stg; simp (disch := decide) only [wI_c, wI_ne, up1_eq, up1_ne])
theorem ec_36 {s : ev_M} {a b : Int32} : fPH_locker s a b = clC s (cI 36) a b (cI 0) (cI 0) (cI 0) (cI 0) := rfl
theorem em_36 {z : ev_M} {a b : Int32} : fM_locker z a b = fM_call (wI (wI z 553 1 b) 553 0 a) (cI 36) := by
  unfold fM_locker
  simp only [ltM_eq, bd2_eta, ix_0, ix_1, ix_2, ix_3, ix_4, ix_5, m_call1, m_call2, m_call3, m_call4]
theorem ef_36 {z : ev_M} {a b : Int32} : fr STM z (wI (wI z 553 1 b) 553 0 a) := ((fr.rf.wI rfl).wI rfl)
theorem eg_36 {s z : ev_M} {a b : Int32} : ArgE (cI 36) ((stg s (cI 36) a b (cI 0) (cI 0) (cI 0) (cI 0)).1 14) ((wI (wI z 553 1 b) 553 0 a).1 553) := fun k hk => by
  have h4 : k = 0 ∨ k = 1 := by
    have : nAr.getD (ix (cI 36)) 0 = 2 := rfl
    omega
  rcases h4 with rfl | rfl <;> (unfold stg; simp (disch := decide) only [wI_c, wI_ne, up1_eq, up1_ne])
theorem ec_37 {s : ev_M} {a b : Int32} : fPH_device s a b = clC s (cI 37) a b (cI 0) (cI 0) (cI 0) (cI 0) := rfl
theorem em_37 {z : ev_M} {a b : Int32} : fM_device z a b = fM_call (wI (wI z 553 1 b) 553 0 a) (cI 37) := by
  unfold fM_device
  simp only [ltM_eq, bd2_eta, ix_0, ix_1, ix_2, ix_3, ix_4, ix_5, m_call1, m_call2, m_call3, m_call4]
theorem ef_37 {z : ev_M} {a b : Int32} : fr STM z (wI (wI z 553 1 b) 553 0 a) := ((fr.rf.wI rfl).wI rfl)
theorem eg_37 {s z : ev_M} {a b : Int32} : ArgE (cI 37) ((stg s (cI 37) a b (cI 0) (cI 0) (cI 0) (cI 0)).1 14) ((wI (wI z 553 1 b) 553 0 a).1 553) := fun k hk => by
  have h4 : k = 0 ∨ k = 1 := by
    have : nAr.getD (ix (cI 37)) 0 = 2 := rfl
    omega
  rcases h4 with rfl | rfl <;> (unfold stg; simp (disch := decide) only [wI_c, wI_ne, up1_eq, up1_ne])
theorem ec_38 {s : ev_M} {a b c d : Int32} : fPH_scanned s a b c d = clC s (cI 38) a b c d (cI 0) (cI 0) := rfl
theorem em_38 {z : ev_M} {a b c d : Int32} : fM_scanned z a b c d = fM_call (wI (wI (wI (wI z 553 3 d) 553 2 c) 553 1 b) 553 0 a) (cI 38) := by
  unfold fM_scanned
  simp only [ltM_eq, bd2_eta, ix_0, ix_1, ix_2, ix_3, ix_4, ix_5, m_call1, m_call2, m_call3, m_call4]
theorem ef_38 {z : ev_M} {a b c d : Int32} : fr STM z (wI (wI (wI (wI z 553 3 d) 553 2 c) 553 1 b) 553 0 a) := ((((fr.rf.wI rfl).wI rfl).wI rfl).wI rfl)
theorem eg_38 {s z : ev_M} {a b c d : Int32} : ArgE (cI 38) ((stg s (cI 38) a b c d (cI 0) (cI 0)).1 14) ((wI (wI (wI (wI z 553 3 d) 553 2 c) 553 1 b) 553 0 a).1 553) := fun k hk => by
  have h4 : k = 0 ∨ k = 1 ∨ k = 2 ∨ k = 3 := by
    have : nAr.getD (ix (cI 38)) 0 = 4 := rfl
    omega
  rcases h4 with rfl | rfl | rfl | rfl <;> (unfold stg; simp (disch := decide) only [wI_c, wI_ne, up1_eq, up1_ne])
theorem ec_40 {s : ev_M} {a : Int32} : fPH_tick s a = clC s (cI 40) a (cI 0) (cI 0) (cI 0) (cI 0) (cI 0) := rfl
theorem em_40 {z : ev_M} {a : Int32} : fM_tick z a = fM_call (wI z 553 0 a) (cI 40) := by
  unfold fM_tick
  simp only [ltM_eq, bd2_eta, ix_0, ix_1, ix_2, ix_3, ix_4, ix_5, m_call1, m_call2, m_call3, m_call4]
theorem ef_40 {z : ev_M} {a : Int32} : fr STM z (wI z 553 0 a) := (fr.rf.wI rfl)
theorem eg_40 {s z : ev_M} {a : Int32} : ArgE (cI 40) ((stg s (cI 40) a (cI 0) (cI 0) (cI 0) (cI 0) (cI 0)).1 14) ((wI z 553 0 a).1 553) := fun k hk => by
  have h4 : k = 0 := by
    have : nAr.getD (ix (cI 40)) 0 = 1 := rfl
    omega
  subst h4
  unfold stg
  simp (disch := decide) only [wI_c, wI_ne, up1_eq, up1_ne]
/-! ===== .. on a fresh house ===== -/
section
variable {xs : Nat → Int32} {L : Nat} {m : ev_M}
theorem p1_10 (h : I0 xs L m) : LC_10 (P1 m) m := by
  unfold LC_10
  intro a b c d
  refine p1_call (fun q h => fr_fPH_forward h) (fun z q h => fr_fM_forward h) (by decide +kernel) (by decide +kernel) ?_
  simp only [ec_2, em_2]
  exact p1_act h (by decide) (by decide) (by decide) (fun z => ef_2) (fun z => eg_2) (fun s t F A _ _ _ hc hm h1 h2 _ => z9_2 hc hm h1 h2)
theorem p1_11 (h : I0 xs L m) : LC_11 (P1 m) m := by
  unfold LC_11
  intro a b c
  refine p1_call (fun q h => fr_fPH_hold h) (fun z q h => fr_fM_hold h) (by decide +kernel) (by decide +kernel) ?_
  simp only [ec_3, em_3]
  exact p1_act h (by decide) (by decide) (by decide) (fun z => ef_3) (fun z => eg_3) (fun s t F A _ _ _ hc hm h1 h2 _ => z9_3 hc hm h1 h2)
theorem p1_20 (h : I0 xs L m) : LC_20 (P1 m) m := by
  unfold LC_20
  intro a b c d e f
  refine p1_call (fun q h => fr_fPH_item h) (fun z q h => fr_fM_item h) (by decide +kernel) (by decide +kernel) ?_
  simp only [ec_5, em_5]
  exact p1_act h (by decide) (by decide) (by decide) (fun z => ef_5) (fun z => eg_5) (fun s t F A _ _ _ hc hm h1 h2 _ => z9_5 hc hm h1 h2)
theorem p1_21 (h : I0 xs L m) : LC_21 (P1 m) m := by
  unfold LC_21
  intro a b
  refine p1_call (fun q h => fr_fPH_address h) (fun z q h => fr_fM_address h) (by decide +kernel) (by decide +kernel) ?_
  simp only [ec_6, em_6]
  exact p1_act h (by decide) (by decide) (by decide) (fun z => ef_6) (fun z => eg_6) (fun s t F A _ _ _ hc hm h1 h2 _ => z9_6 hc hm h1 h2)
theorem p1_22 (h : I0 xs L m) : LC_22 (P1 m) m := by
  unfold LC_22
  intro a
  refine p1_call (fun q h => fr_fPH_take h) (fun z q h => fr_fM_take h) (by decide +kernel) (by decide +kernel) ?_
  simp only [ec_7, em_7]
  exact p1_act h (by decide) (by decide) (by decide) (fun z => ef_7) (fun z => eg_7) (fun s t F A _ _ _ hc hm h1 h2 _ => z9_7 hc hm h1 h2)
theorem p1_23 (h : I0 xs L m) : LC_23 (P1 m) m := by
  unfold LC_23
  intro a b c
  refine p1_call (fun q h => fr_fPH_clerk h) (fun z q h => fr_fM_clerk h) (by decide +kernel) (by decide +kernel) ?_
  simp only [ec_8, em_8]
  exact p1_act h (by decide) (by decide) (by decide) (fun z => ef_8) (fun z => eg_8) (fun s t F A _ _ _ hc hm h1 h2 _ => z9_8 hc hm h1 h2)
theorem p1_24 (h : I0 xs L m) : LC_24 (P1 m) m := by
  unfold LC_24
  intro a b
  refine p1_call (fun q h => fr_fPH_post h) (fun z q h => fr_fM_post h) (by decide +kernel) (by decide +kernel) ?_
  simp only [ec_9, em_9]
  exact p1_act h (by decide) (by decide) (by decide) (fun z => ef_9) (fun z => eg_9) (fun s t F A _ _ _ hc hm h1 h2 _ => z9_9 hc hm h1 h2)
theorem p1_30 (h : I0 xs L m) : LC_30 (P1 m) m := by
  unfold LC_30
  intro a b c
  refine p1_call (fun q h => fr_fPH_round h) (fun z q h => fr_fM_round h) (by decide +kernel) (by decide +kernel) ?_
  simp only [ec_11, em_11]
  exact p1_act h (by decide) (by decide) (by decide) (fun z => ef_11) (fun z => eg_11) (fun s t F A _ _ _ hc hm h1 h2 _ => z9_11 hc hm h1 h2)
theorem p1_31 (h : I0 xs L m) : LC_31 (P1 m) m := by
  unfold LC_31
  intro a b
  refine p1_call (fun q h => fr_fPH_assign h) (fun z q h => fr_fM_assign h) (by decide +kernel) (by decide +kernel) ?_
  simp only [ec_12, em_12]
  exact p1_act h (by decide) (by decide) (by decide) (fun z => ef_12) (fun z => eg_12) (fun s t F A _ _ _ hc hm h1 h2 _ => z9_12 hc hm h1 h2)
theorem p1_32 (h : I0 xs L m) : LC_32 (P1 m) m := by
  unfold LC_32
  intro a
  refine p1_call (fun q h => fr_fPH_arrange h) (fun z q h => fr_fM_arrange h) (by decide +kernel) (by decide +kernel) ?_
  simp only [ec_13, em_13]
  exact p1_act h (by decide) (by decide) (by decide) (fun z => ef_13) (fun z => eg_13) (fun s t F A _ _ _ hc hm h1 h2 _ => z9_13 hc hm h1 h2)
theorem p1_34 (h : I0 xs L m) : LC_34 (P1 m) m := by
  unfold LC_34
  intro a
  refine p1_call (fun q h => fr_fPH_sort h) (fun z q h => fr_fM_sort h) (by decide +kernel) (by decide +kernel) ?_
  simp only [ec_14, em_14]
  exact p1_act h (by decide) (by decide) (by decide) (fun z => ef_14) (fun z => eg_14) (fun s t F A _ _ _ hc hm h1 h2 _ => z9_14 hc hm h1 h2)
theorem p1_38 (h : I0 xs L m) : LC_38 (P1 m) m := by
  unfold LC_38
  intro a
  refine p1_call (fun q h => fr_fPH_out h) (fun z q h => fr_fM_out h) (by decide +kernel) (by decide +kernel) ?_
  simp only [ec_15, em_15]
  exact p1_act h (by decide) (by decide) (by decide) (fun z => ef_15) (fun z => eg_15) (fun s t F A _ _ _ hc hm h1 h2 _ => z9_15 hc hm h1 h2)
theorem p1_39 (h : I0 xs L m) : LC_39 (P1 m) m := by
  unfold LC_39
  intro a b c d e
  refine p1_call (fun q h => fr_fPH_leg h) (fun z q h => fr_fM_leg h) (by decide +kernel) (by decide +kernel) ?_
  simp only [ec_16, em_16]
  exact p1_act h (by decide) (by decide) (by decide) (fun z => ef_16) (fun z => eg_16) (fun s t F A _ _ _ hc hm h1 h2 _ => z9_16 hc hm h1 h2)
theorem p1_40 (h : I0 xs L m) : LC_40 (P1 m) m := by
  unfold LC_40
  intro a b
  refine p1_call (fun q h => fr_fPH_late h) (fun z q h => fr_fM_late h) (by decide +kernel) (by decide +kernel) ?_
  simp only [ec_17, em_17]
  exact p1_act h (by decide) (by decide) (by decide) (fun z => ef_17) (fun z => eg_17) (fun s t F A _ _ _ hc hm h1 h2 _ => z9_17 hc hm h1 h2)
theorem p1_41 (h : I0 xs L m) : LC_41 (P1 m) m := by
  unfold LC_41
  intro a b
  refine p1_call (fun q h => fr_fPH_bag h) (fun z q h => fr_fM_bag h) (by decide +kernel) (by decide +kernel) ?_
  simp only [ec_18, em_18]
  exact p1_act h (by decide) (by decide) (by decide) (fun z => ef_18) (fun z => eg_18) (fun s t F A _ _ _ hc hm h1 h2 _ => z9_18 hc hm h1 h2)
theorem p1_42 (h : I0 xs L m) : LC_42 (P1 m) m := by
  unfold LC_42
  intro a b
  refine p1_call (fun q h => fr_fPH_into h) (fun z q h => fr_fM_into h) (by decide +kernel) (by decide +kernel) ?_
  simp only [ec_19, em_19]
  exact p1_act h (by decide) (by decide) (by decide) (fun z => ef_19) (fun z => eg_19) (fun s t F A _ _ _ hc hm h1 h2 _ => z9_19 hc hm h1 h2)
theorem p1_43 (h : I0 xs L m) : LC_43 (P1 m) m := by
  unfold LC_43
  intro a
  refine p1_call (fun q h => fr_fPH_closeBag h) (fun z q h => fr_fM_closeBag h) (by decide +kernel) (by decide +kernel) ?_
  simp only [ec_20, em_20]
  exact p1_act h (by decide) (by decide) (by decide) (fun z => ef_20) (fun z => eg_20) (fun s t F A _ _ _ hc hm h1 h2 _ => z9_20 hc hm h1 h2)
theorem p1_44 (h : I0 xs L m) : LC_44 (P1 m) m := by
  unfold LC_44
  intro a
  refine p1_call (fun q h => fr_fPH_openBag h) (fun z q h => fr_fM_openBag h) (by decide +kernel) (by decide +kernel) ?_
  simp only [ec_21, em_21]
  exact p1_act h (by decide) (by decide) (by decide) (fun z => ef_21) (fun z => eg_21) (fun s t F A _ _ _ hc hm h1 h2 _ => z9_21 hc hm h1 h2)
theorem p1_47 (h : I0 xs L m) : LC_47 (P1 m) m := by
  unfold LC_47
  intro a b c d
  refine p1_call (fun q h => fr_fPH_hand h) (fun z q h => fr_fM_hand h) (by decide +kernel) (by decide +kernel) ?_
  simp only [ec_22, em_22]
  exact p1_act h (by decide) (by decide) (by decide) (fun z => ef_22) (fun z => eg_22) (fun s t F A _ _ _ hc hm h1 h2 _ => z9_22 hc hm h1 h2)
theorem p1_48 (h : I0 xs L m) : LC_48 (P1 m) m := by
  unfold LC_48
  intro a
  refine p1_call (fun q h => fr_fPH_miss h) (fun z q h => fr_fM_miss h) (by decide +kernel) (by decide +kernel) ?_
  simp only [ec_23, em_23]
  exact p1_act h (by decide) (by decide) (by decide) (fun z => ef_23) (fun z => eg_23) (fun s t F A _ _ _ hc hm h1 h2 _ => z9_23 hc hm h1 h2)
theorem p1_49 (h : I0 xs L m) : LC_49 (P1 m) m := by
  unfold LC_49
  intro a
  refine p1_call (fun q h => fr_fPH_refuse h) (fun z q h => fr_fM_refuse h) (by decide +kernel) (by decide +kernel) ?_
  simp only [ec_24, em_24]
  exact p1_act h (by decide) (by decide) (by decide) (fun z => ef_24) (fun z => eg_24) (fun s t F A _ _ _ hc hm h1 h2 _ => z9_24 hc hm h1 h2)
theorem p1_50 (h : I0 xs L m) : LC_50 (P1 m) m := by
  unfold LC_50
  intro a b
  refine p1_call (fun q h => fr_fPH_put h) (fun z q h => fr_fM_put h) (by decide +kernel) (by decide +kernel) ?_
  simp only [ec_25, em_25]
  exact p1_act h (by decide) (by decide) (by decide) (fun z => ef_25) (fun z => eg_25) (fun s t F A _ _ _ hc hm h1 h2 _ => z9_25 hc hm h1 h2)
theorem p1_51 (h : I0 xs L m) : LC_51 (P1 m) m := by
  unfold LC_51
  intro a b c d
  refine p1_call (fun q h => fr_fPH_pickUp h) (fun z q h => fr_fM_pickUp h) (by decide +kernel) (by decide +kernel) ?_
  simp only [ec_26, em_26]
  exact p1_act h (by decide) (by decide) (by decide) (fun z => ef_26) (fun z => eg_26) (fun s t F A _ _ _ hc hm h1 h2 _ => z9_26 hc hm h1 h2)
theorem p1_52 (h : I0 xs L m) : LC_52 (P1 m) m := by
  unfold LC_52
  intro a b
  refine p1_call (fun q h => fr_fPH_openBox h) (fun z q h => fr_fM_openBox h) (by decide +kernel) (by decide +kernel) ?_
  simp only [ec_27, em_27]
  exact p1_act h (by decide) (by decide) (by decide) (fun z => ef_27) (fun z => eg_27) (fun s t F A _ _ _ hc hm h1 h2 _ => z9_27 hc hm h1 h2)
theorem p1_53 (h : I0 xs L m) : LC_53 (P1 m) m := by
  unfold LC_53
  intro a
  refine p1_call (fun q h => fr_fPH_lose h) (fun z q h => fr_fM_lose h) (by decide +kernel) (by decide +kernel) ?_
  simp only [ec_28, em_28]
  exact p1_act h (by decide) (by decide) (by decide) (fun z => ef_28) (fun z => eg_28) (fun s t F A _ _ _ hc hm h1 h2 _ => z9_28 hc hm h1 h2)
theorem p1_54 (h : I0 xs L m) : LC_54 (P1 m) m := by
  unfold LC_54
  intro a
  refine p1_call (fun q h => fr_fPH_account h) (fun z q h => fr_fM_account h) (by decide +kernel) (by decide +kernel) ?_
  simp only [ec_29, em_29]
  exact p1_act h (by decide) (by decide) (by decide) (fun z => ef_29) (fun z => eg_29) (fun s t F A _ _ _ hc hm h1 h2 _ => z9_29 hc hm h1 h2)
theorem p1_55 (h : I0 xs L m) : LC_55 (P1 m) m := by
  unfold LC_55
  intro a b
  refine p1_call (fun q h => fr_fPH_deposit h) (fun z q h => fr_fM_deposit h) (by decide +kernel) (by decide +kernel) ?_
  simp only [ec_30, em_30]
  exact p1_act h (by decide) (by decide) (by decide) (fun z => ef_30) (fun z => eg_30) (fun s t F A _ _ _ hc hm h1 h2 _ => z9_30 hc hm h1 h2)
theorem p1_60 (h : I0 xs L m) : LC_60 (P1 m) m := by
  unfold LC_60
  intro a
  refine p1_call (fun q h => fr_fPH_frank h) (fun z q h => fr_fM_frank h) (by decide +kernel) (by decide +kernel) ?_
  simp only [ec_32, em_32]
  exact p1_act h (by decide) (by decide) (by decide) (fun z => ef_32) (fun z => eg_32) (fun s t F A _ _ _ hc hm h1 h2 _ => z9_32 hc hm h1 h2)
theorem p1_61 (h : I0 xs L m) : LC_61 (P1 m) m := by
  unfold LC_61
  intro a b c
  refine p1_call (fun q h => fr_fPH_order h) (fun z q h => fr_fM_order h) (by decide +kernel) (by decide +kernel) ?_
  simp only [ec_33, em_33]
  exact p1_act h (by decide) (by decide) (by decide) (fun z => ef_33) (fun z => eg_33) (fun s t F A _ _ _ hc hm h1 h2 _ => z9_33 hc hm h1 h2)
theorem p1_62 (h : I0 xs L m) : LC_62 (P1 m) m := by
  unfold LC_62
  intro a b c
  refine p1_call (fun q h => fr_fPH_payOut h) (fun z q h => fr_fM_payOut h) (by decide +kernel) (by decide +kernel) ?_
  simp only [ec_34, em_34]
  exact p1_act h (by decide) (by decide) (by decide) (fun z => ef_34) (fun z => eg_34) (fun s t F A _ _ _ hc hm h1 h2 _ => z9_34 hc hm h1 h2)
theorem p1_64 (h : I0 xs L m) : LC_64 (P1 m) m := by
  unfold LC_64
  intro a b
  refine p1_call (fun q h => fr_fPH_claim h) (fun z q h => fr_fM_claim h) (by decide +kernel) (by decide +kernel) ?_
  simp only [ec_35, em_35]
  exact p1_act h (by decide) (by decide) (by decide) (fun z => ef_35) (fun z => eg_35) (fun s t F A _ _ _ hc hm h1 h2 _ => z9_35 hc hm h1 h2)
theorem p1_65 (h : I0 xs L m) : LC_65 (P1 m) m := by
  unfold LC_65
  intro a b
  refine p1_call (fun q h => fr_fPH_locker h) (fun z q h => fr_fM_locker h) (by decide +kernel) (by decide +kernel) ?_
  simp only [ec_36, em_36]
  exact p1_act h (by decide) (by decide) (by decide) (fun z => ef_36) (fun z => eg_36) (fun s t F A _ _ _ hc hm h1 h2 _ => z9_36 hc hm h1 h2)
theorem p1_68 (h : I0 xs L m) : LC_68 (P1 m) m := by
  unfold LC_68
  intro a b c d
  refine p1_call (fun q h => fr_fPH_scanned h) (fun z q h => fr_fM_scanned h) (by decide +kernel) (by decide +kernel) ?_
  simp only [ec_38, em_38]
  exact p1_act h (by decide) (by decide) (by decide) (fun z => ef_38) (fun z => eg_38) (fun s t F A _ _ _ hc hm h1 h2 _ => z9_38 hc hm h1 h2)
end
