/-! ===== LEVEL 3: calls of acts in one memory ===== -/
/-- the class's side of a call -/
def clC (s : ev_M) (num a b c d e f : Int32) : Option (ev_M × Int32) := bd2 (fLog_stages s num a b c d e f) fun s1 v2 => if v2 = 0 then some (s1, cI (-105)) else bd2 (fPH_act_1 s1) fun s3 v4 => some (s3, v4)
theorem clC_eq {s : ev_M} {num a b c d e f : Int32} : clC s num a b c d e f = if s.1 9 9 = 0 then fPH_act_1 (stg s num a b c d e f) else some (stg s num a b c d e f, cI (-105)) := by
  unfold clC
  rw [e_stages, bd2_some, ite_bI, bd2_eta]
theorem m_call1 {t : ev_M} {num a : Int32} : fM_call1 t num a = fM_call (wI t 553 0 a) num := by
  unfold fM_call1
  simp only [ltM_eq, bd2_eta, ix_0]
theorem m_call2 {t : ev_M} {num a b : Int32} : fM_call2 t num a b = fM_call (wI (wI t 553 1 b) 553 0 a) num := by
  unfold fM_call2
  simp only [ltM_eq, bd2_eta, ix_1, m_call1]
theorem m_call3 {t : ev_M} {num a b c : Int32} : fM_call3 t num a b c = fM_call (wI (wI (wI t 553 2 c) 553 1 b) 553 0 a) num := by
  unfold fM_call3
  simp only [ltM_eq, bd2_eta, ix_2, m_call2]
theorem m_call4 {t : ev_M} {num a b c d : Int32} : fM_call4 t num a b c d = fM_call (wI (wI (wI (wI t 553 3 d) 553 2 c) 553 1 b) 553 0 a) num := by
  unfold fM_call4
  simp only [ltM_eq, bd2_eta, ix_3, m_call3]
/-- what is written before the act itself, on each side -/
def STG : List (Nat × (Nat × Nat)) := [(9, 9, 15), (14, 14, 0)]
def STM : List (Nat × (Nat × Nat)) := [(549, 549, 1), (549, 549, 15), (549, 549, 16), (549, 549, 17), (553, 553, 0)]
theorem stg_fr {s : ev_M} {num a b c d e f : Int32} : fr STG s (stg s num a b c d e f) := by
  unfold stg
  exact (((((((fr.rf.wI rfl).wI rfl).wI rfl).wI rfl).wI rfl).wI rfl).wI rfl)
theorem mst_fr {s t : ev_M} {num : Int32} (h : fr STM s t) : fr STM s (mst t num) := by
  unfold mst
  exact ((((h.wI rfl).wI rfl).wI rfl).wI rfl)
/-- where the class's side of a call may write -/
def CLF : List (Nat × (Nat × Nat)) := F_PH_act_1 ++ STG
theorem contains_of {α : Type} [BEq α] [LawfulBEq α] {F G : List α} (h : ∀ q, q ∈ G → q ∈ F) : G.all (fun q => F.contains q) = true := List.all_eq_true.mpr fun q hq => by simpa using h q hq
theorem clf_1 {s t : ev_M} (h : fr F_PH_act_1 s t) : fr CLF s t := h.mono (contains_of fun q hq => List.mem_append_left _ hq)
theorem clf_2 {s t : ev_M} (h : fr STG s t) : fr CLF s t := h.mono (contains_of fun q hq => List.mem_append_right _ hq)
def CLF_M : List (Nat × Nat) := [(549, 0), (550, 0), (551, 0), (552, 0), (553, 0), (554, 0), (555, 0), (1003, 0), (1, 2), (2, 0)]
theorem clf_n : nof CLF CLF_M = true := by decide +kernel
theorem RLog_of {s t s' t' : ev_M} (h : RLog s t) (hs : ∀ c, 9 ≤ c → c ≤ 13 → c ≠ 12 → ∀ k, ¬ (c = 9 ∧ k = 14) → s'.1 c k = s.1 c k) (h3 : s'.1 1003 = s.1 1003) (ht : ∀ k, k = 4 ∨ k = 5 ∨ k = 6 ∨ k = 7 ∨ k = 9 ∨ k = 10 → t'.1 549 k = t.1 549 k) (h1 : t'.1 551 = t.1 551) (h2 : t'.1 552 = t.1 552) (h5 : t'.1 555 = t.1 555) : RLog s' t' := by
  obtain ⟨a1, a2, a3, a4, a5, a6, a7, a8⟩ := h
  have e9 : ∀ k, k ≠ 14 → s'.1 9 k = s.1 9 k := fun k hk => hs 9 (by decide) (by decide) (by decide) k (fun z => hk z.2)
  have e10 : s'.1 10 = s.1 10 := funext fun k => hs 10 (by decide) (by decide) (by decide) k (fun z => absurd z.1 (by decide))
  have e11 : s'.1 11 = s.1 11 := funext fun k => hs 11 (by decide) (by decide) (by decide) k (fun z => absurd z.1 (by decide))
  have e13 : s'.1 13 = s.1 13 := funext fun k => hs 13 (by decide) (by decide) (by decide) k (fun z => absurd z.1 (by decide))
  refine ⟨fun j hj => (congrFun h3 j).trans (a1 j hj), by rw [ht 5 (by simp), e9 9 (by decide)]; exact a2, by rw [ht 4 (by simp), e9 4 (by decide)]; exact a3, RWt_of a4 (e9 6 (by decide)) e13 (ht 9 (by simp)) h2, by rw [e9 6 (by decide), e9 4 (by decide)]; exact a5, by rw [ht 10 (by simp), e9 7 (by decide)]; exact a6, by rw [e9 12 (by decide)]; exact a7, RDsk_of a8 e10 e11 (e9 10 (by decide)) (e9 11 (by decide)) h1 h5 (ht 6 (by simp)) (ht 7 (by simp))⟩
theorem call_nr {num a b c d e f : Int32} {s : ev_M} {W : ev_M → ev_M} {R0 R1 : ev_M → ev_M → Prop} (g1 : 1 ≤ num.toInt) (g2 : num.toInt ≤ 40) (hr : ¬ rdT num) (hL : RLog s s) (ht : Rg 0 (s.1 1 1) 4096) (hW : ∀ z, fr STM z (W z)) (hWa : ∀ z, ArgE num ((stg s num a b c d e f).1 14) ((W z).1 553))
    (hR1 : ∀ x y z, fr NTF y z → R1 x y → R1 x z) (hact : ∀ u t1 F A, fr CLF s u → fr STM u t1 → t1.1 549 16 = num → ArgE num ((stg s num a b c d e f).1 14) (t1.1 553) → t1.1 549 15 = 0 → AdmC (stg s num a b c d e f) F A → FulM t1 F → Ok (fPH_act_1 (stg s num a b c d e f)) fun x => Ok (fM_act t1) fun y => AP R0 R1 F A (stg s num a b c d e f) x y) :
    Ok (clC s num a b c d e f) fun x => Ok (fM_call (W x.1) num) fun y => x.2 = y.2 ∧ RLog x.1 y.1 ∧ ((fr STG s x.1 ∧ fr STM x.1 y.1) ∨ R0 x.1 y.1 ∨ R1 x.1 y.1) := by
  rw [clC_eq]
  obtain ⟨a1, a2, a3, a4, a5, a6, a7, a8⟩ := id hL
  have hsf := stg_fr (s := s) (num := num) (a := a) (b := b) (c := c) (d := d) (e := e) (f := f)
  have s9 : ∀ k, k ≠ 14 → (stg s num a b c d e f).1 9 k = s.1 9 k := fun k hk => stg_9 hk
  have sc : ∀ z, z ≠ 9 → z ≠ 14 → (stg s num a b c d e f).1 z = s.1 z := fun z h1 h2 => stg_ne h1 h2
  have s14 : (stg s num a b c d e f).1 9 14 = num := stg_14
  by_cases hd : s.1 9 9 = 0
  · rw [if_pos hd]
    generalize stg s num a b c d e f = s1 at *
    have up : ∀ u t1, fr CLF s u → fr STM u t1 → t1.1 549 16 = num → t1.1 549 14 = 0 → t1.1 549 15 = 0 → ArgE num (s1.1 14) (t1.1 553) → Ok (fPH_act_1 s1) fun x => Ok (fM_call_b78 t1 num) fun y => x.2 = y.2 ∧ RLog x.1 y.1 ∧ (R0 x.1 y.1 ∨ R1 x.1 y.1) := fun u t1 hu h1 h16 h14 h15 ha => by
      have q : ∀ k, k = 4 ∨ k = 5 ∨ k = 6 ∨ k = 7 ∨ k = 9 ∨ k = 10 → t1.1 549 k = s.1 549 k := fun k hk => by
        have e1 : t1.1 549 k = u.1 549 k := (h1.1 549 k (by rcases hk with rfl | rfl | rfl | rfl | rfl | rfl <;> rfl)).1
        rw [e1, (nof_c hu clf_n (c := 549) rfl).1]
      have qc : ∀ z, z ≠ 549 → z ≠ 553 → CLF_M.contains (z, 0) = true → t1.1 z = s.1 z := fun z z1 z2 z3 => by
        have e1 : t1.1 z = u.1 z := funext fun k => (h1.1 z k (by
          unfold inF STM
          simp only [List.any_cons, List.any_nil, Bool.or_false]
          have p1 : (Nat.ble 549 z && Nat.ble z 549) = false := by
            cases hq : (Nat.ble 549 z && Nat.ble z 549) with
            | false => rfl
            | true =>
              obtain ⟨r1, r2⟩ := (Bool.and_eq_true _ _).mp hq
              have := Nat.le_of_ble_eq_true r1
              have := Nat.le_of_ble_eq_true r2
              omega
          have p2 : (Nat.ble 553 z && Nat.ble z 553) = false := by
            cases hq : (Nat.ble 553 z && Nat.ble z 553) with
            | false => rfl
            | true =>
              obtain ⟨r1, r2⟩ := (Bool.and_eq_true _ _).mp hq
              have := Nat.le_of_ble_eq_true r1
              have := Nat.le_of_ble_eq_true r2
              omega
          simp [p1, p2])).1
        rw [e1, (nof_c hu clf_n (c := z) z3).1]
      refine call_up g1 g2 (fun j hj => by rw [sc 1003 (by decide) (by decide)]; exact a1 j hj) s14 h16 h14 h15 ⟨by rw [q 4 (by simp), s9 4 (by decide)]; exact a3.1, by rw [s9 4 (by decide)]; exact a3.2⟩ (RWt_of a4 (s9 6 (by decide)) (sc 13 (by decide) (by decide)) (q 9 (by simp)) (qc 552 (by decide) (by decide) rfl)) (by rw [s9 6 (by decide), s9 4 (by decide)]; exact a5) (by rw [q 10 (by simp), s9 7 (by decide)]; exact a6) (by rw [s9 12 (by decide)]; exact a7) ⟨by rw [q 5 (by simp), s9 9 (by decide)]; exact a2.1, by rw [s9 9 (by decide)]; exact a2.2⟩ (RDsk_of a8 (sc 10 (by decide) (by decide)) (sc 11 (by decide) (by decide)) (s9 10 (by decide)) (s9 11 (by decide)) (qc 551 (by decide) (by decide) rfl) (qc 555 (by decide) (by decide) rfl) (q 6 (by simp)) (q 7 (by simp))) (by rw [sc 1 (by decide) (by decide)]; exact ht) ha (fun z => absurd z hr) hR1 (fun F A hA hF => hact u t1 F A hu h1 h16 ha h15 hA hF)
    obtain ⟨x, ex, -⟩ := up s (mst (W s) num) fr.rf (mst_fr (hW s)) mst_16 mst_14 mst_15 (by rw [mst_c (by decide)]; exact hWa s)
    have hx : fr CLF s x.1 := (clf_2 hsf).tr (clf_1 (fr_fPH_act_1 ex))
    obtain ⟨x', ex', hy⟩ := up x.1 (mst (W x.1) num) hx (mst_fr (hW x.1)) mst_16 mst_14 mst_15 (by rw [mst_c (by decide)]; exact hWa x.1)
    obtain rfl : x = x' := Option.some.inj (ex.symm.trans ex')
    have h5 : (W x.1).1 549 5 = 0 := by
      rw [((hW x.1).1 549 5 (by rfl)).1, (nof_c hx clf_n (c := 549) rfl).1, a2.1]
      exact hd
    refine ⟨x, ex, ?_⟩
    show Ok (fM_call (W x.1) num) _
    rw [e_call hr, if_pos h5]
    exact hy.mono fun y z => ⟨z.1, z.2.1, Or.inr z.2.2⟩
  · rw [if_neg hd, ok_some, e_call hr]
    generalize stg s num a b c d e f = s1 at *
    have hx := clf_2 hsf
    have h5 : ¬ (W s1).1 549 5 = 0 := by
      rw [((hW s1).1 549 5 (by rfl)).1, (nof_c hx clf_n (c := 549) rfl).1, a2.1]
      exact hd
    rw [if_neg h5, ok_some]
    have hy : fr STM s1 (wI (W s1) 549 0 (cI 0)) := (hW s1).wI rfl
    have q : ∀ k, k = 4 ∨ k = 5 ∨ k = 6 ∨ k = 7 ∨ k = 9 ∨ k = 10 → (wI (W s1) 549 0 (cI 0)).1 549 k = s.1 549 k := fun k hk => by
      rw [(hy.1 549 k (by rcases hk with rfl | rfl | rfl | rfl | rfl | rfl <;> rfl)).1, (nof_c hx clf_n (c := 549) rfl).1]
    have qc : ∀ z, CLF_M.contains (z, 0) = true → (∀ k, inF STM z k = false) → (wI (W s1) 549 0 (cI 0)).1 z = s.1 z := fun z z3 z4 => by
      rw [show (wI (W s1) 549 0 (cI 0)).1 z = s1.1 z from funext fun k => (hy.1 z k (z4 k)).1, (nof_c hx clf_n (c := z) z3).1]
    refine ⟨rfl, RLog_of hL (fun c h1 h2 h3 k hk => ?_) (sc 1003 (by decide) (by decide)) q (qc 551 rfl fun _ => rfl) (qc 552 rfl fun _ => rfl) (qc 555 rfl fun _ => rfl), Or.inl ⟨hsf, hy⟩⟩
    by_cases h9 : c = 9
    · subst h9
      exact s9 k (fun z => hk ⟨rfl, z⟩)
    · rw [sc c h9 (by omega)]
