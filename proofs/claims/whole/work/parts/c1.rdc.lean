/-! ===== LEVEL 3: a call of an act that reads the tape ===== -/
def clR (s : ev_M) (num a b c d e f : Int32) : Option (ev_M × Int32) := bd2 (fLog_stages s num a b c d e f) fun s1 v2 => if v2 = 0 then some (s1, cI (-105)) else bd2 (fPH_act_1 s1) fun s3 v4 => ltM (wI s3 1 1 (cI 0)) fun s5 => some (s5, v4)
theorem clR_eq {s : ev_M} {num a b c d e f : Int32} : clR s num a b c d e f = if s.1 9 9 = 0 then bd2 (fPH_act_1 (stg s num a b c d e f)) (fun s3 v4 => some (wI s3 1 1 (cI 0), v4)) else some (stg s num a b c d e f, cI (-105)) := by
  unfold clR
  rw [e_stages, bd2_some, ite_bI]
  rfl
theorem copy_lp {num : Int32} : ∀ (r n : Nat) (s : ev_M) (x : Int32), 0 ≤ x.toInt → x.toInt + r = (s.1 549 13).toInt → (s.1 549 13).toInt ≤ 4096 → r < n → (∀ k, k < ix (s.1 549 13) → i2b (s.1 550 k) = s.1 550 k) → fM_call_h52 n s num x = fM_call_b78 (wR s 554 (ix x) (ix (s.1 549 13)) (s.1 550)) num
  | 0, n, s, x, h0, h1, h2, hn, hb => by
    obtain ⟨n, rfl⟩ : ∃ j, n = j + 1 := ⟨n - 1, by omega⟩
    have e : ix x = ix (s.1 549 13) := by rw [ix_toNat, ix_toNat]; omega
    rw [e, wR_end]
    unfold fM_call_h52
    rw [if_neg (show ¬ x < s.1 549 13 by rw [lt_i]; omega)]
  | r + 1, n, s, x, h0, h1, h2, hn, hb => by
    obtain ⟨n, rfl⟩ : ∃ j, n = j + 1 := ⟨n - 1, by omega⟩
    have hi : inb x 4096 = true := inb_iff.mpr ⟨h0, by omega⟩
    have hx : ix x < ix (s.1 549 13) := by rw [ix_toNat, ix_toNat]; omega
    have ei : ix (x + cI 1) = ix x + 1 := ix_inc h0 (by omega)
    have et : (x + cI 1).toInt = x.toInt + 1 := inc_i (by omega)
    unfold fM_call_h52
    rw [if_pos (show x < s.1 549 13 by rw [lt_i]; omega), if_pos hi, if_pos hi, ltM_eq, hb _ hx]
    have w : ∀ c, c ≠ 554 → (wI s 554 (ix x) (s.1 550 (ix x))).1 c = s.1 c := fun c h => wI_ne h
    rw [copy_lp r n (wI s 554 (ix x) (s.1 550 (ix x))) (x + cI 1) (by omega) (by rw [w 549 (by decide)]; omega) (by rw [w 549 (by decide)]; exact h2) (by omega) (by rw [w 549 (by decide), w 550 (by decide)]; exact hb), w 549 (by decide), w 550 (by decide), ei, wR_step hx]
/-- the state with which a reading act begins -/
def mrd (t : ev_M) (num : Int32) : ev_M := wR (wI (wI (mst t num) 549 13 (t.1 549 2)) 549 2 (cI 0)) 554 0 (ix (t.1 549 2)) (t.1 550)
theorem e_callR {t : ev_M} {num : Int32} (h : rdT num) (h1 : 0 ≤ (t.1 549 2).toInt) (h2 : (t.1 549 2).toInt ≤ 4096) (hb : ∀ k, k < ix (t.1 549 2) → i2b (t.1 550 k) = t.1 550 k) : fM_call t num = if t.1 549 5 = 0 then fM_call_b78 (mrd t num) num else some (wI t 549 0 (cI 0), cI (-105)) := by
  unfold fM_call
  simp only [ltM_eq, m_reads, bd1_some, ite_bI, if_pos h]
  have e5 : (wI t 549 0 (cI 0)).1 549 5 = t.1 549 5 := by simp (disch := decide) only [ix_0, ix_1, ix_2, ix_3, ix_4, ix_5, ix_6, ix_7, ix_8, Nat.reduceAdd, wI_c, wI_ne, wL_1, lupd_ne, up1_eq, up1_ne]
  rw [e5]
  by_cases hd : t.1 549 5 = 0
  · rw [if_pos hd, if_pos hd]
    have m2 : (mst t num).1 549 2 = t.1 549 2 := by unfold mst; simp (disch := decide) only [ix_0, ix_1, ix_2, ix_3, ix_4, ix_5, ix_6, ix_7, ix_8, Nat.reduceAdd, wI_c, wI_ne, wL_1, lupd_ne, up1_eq, up1_ne]
    have m5 : (mst t num).1 550 = t.1 550 := by unfold mst; simp (disch := decide) only [ix_0, ix_1, ix_2, ix_3, ix_4, ix_5, ix_6, ix_7, ix_8, Nat.reduceAdd, wI_c, wI_ne, wL_1, lupd_ne, up1_eq, up1_ne]
    show fM_call_h52 1048576 (wI (wI (mst t num) 549 13 ((mst t num).1 549 2)) 549 2 (cI 0)) num (cI 0) = _
    rw [m2]
    have g13 : (wI (wI (mst t num) 549 13 (t.1 549 2)) 549 2 (cI 0)).1 549 13 = t.1 549 2 := by simp (disch := decide) only [ix_0, ix_1, ix_2, ix_3, ix_4, ix_5, ix_6, ix_7, ix_8, Nat.reduceAdd, wI_c, wI_ne, wL_1, lupd_ne, up1_eq, up1_ne]
    have g550 : (wI (wI (mst t num) 549 13 (t.1 549 2)) 549 2 (cI 0)).1 550 = t.1 550 := by rw [wI_ne (by decide), wI_ne (by decide), m5]
    rw [copy_lp (ix (t.1 549 2)) 1048576 _ (cI 0) (by decide) (by rw [g13, show (cI 0).toInt = 0 from rfl, ix_toNat]; omega) (by rw [g13]; exact h2) (by rw [ix_toNat]; omega) (by rw [g13, g550]; exact hb), g13, g550]
    rfl
  · rw [if_neg hd, if_neg hd]
def STD : List (Nat × (Nat × Nat)) := STM ++ [(549, 549, 14), (549, 549, 3), (554, 554, 0)]
theorem mrd_c {t : ev_M} {num : Int32} {c : Nat} (h : c ≠ 549) (h2 : c ≠ 554) : (mrd t num).1 c = t.1 c := by
  unfold mrd
  rw [wR_ne h2, wI_ne h, wI_ne h, mst_c h]
theorem mrd_9 {t : ev_M} {num : Int32} {k : Nat} (h : k ≠ 13) (h2 : k ≠ 2) : (mrd t num).1 549 k = (mst t num).1 549 k := by
  unfold mrd
  rw [wR_ne (by decide), wI_c, up1_ne h2, wI_c, up1_ne h]
theorem mrd_13 {t : ev_M} {num : Int32} : (mrd t num).1 549 13 = t.1 549 2 := by
  unfold mrd
  rw [wR_ne (by decide), wI_c, up1_ne (by decide), wI_c, up1_eq]
theorem mrd_2 {t : ev_M} {num : Int32} : (mrd t num).1 549 2 = cI 0 := by
  unfold mrd
  rw [wR_ne (by decide), wI_c, up1_eq]
theorem mrd_d {t : ev_M} {num : Int32} {k : Nat} (h : k < ix (t.1 549 2)) : (mrd t num).1 554 k = t.1 550 k := by
  unfold mrd
  rw [wR_1, if_pos ⟨rfl, Nat.zero_le _, h⟩]
theorem mrd_fr {s t : ev_M} {num : Int32} (h : fr STM s t) : fr STD s (mrd t num) := by
  have h1 : fr STD s (mst t num) := (mst_fr h).mono (contains_of fun q hq => List.mem_append_left _ hq)
  have h2 : fr STD s (wI (wI (mst t num) 549 13 (t.1 549 2)) 549 2 (cI 0)) := (h1.wI rfl).wI rfl
  refine h2.tr ⟨fun a b hc => ⟨?_, rfl⟩, rfl⟩
  unfold mrd
  by_cases e : a = 554
  · subst e
    exact absurd hc (by rw [show inF STD 554 b = true from rfl]; decide)
  · rw [wR_ne e]
def CLR : List (Nat × (Nat × Nat)) := CLF ++ [(1, 1, 2)]
theorem clr_0 {s t : ev_M} (h : fr CLF s t) : fr CLR s t := h.mono (contains_of fun q hq => List.mem_append_left _ hq)
def CLR_M : List (Nat × Nat) := [(549, 0), (550, 0), (551, 0), (552, 0), (553, 0), (554, 0), (555, 0), (1003, 0), (2, 0)]
theorem clr_n : nof CLR CLR_M = true := by decide +kernel
theorem call_rd {num a b c d e f : Int32} {s : ev_M} {W : ev_M → ev_M} {R0 R1 : ev_M → ev_M → Prop} (g1 : 1 ≤ num.toInt) (g2 : num.toInt ≤ 40) (hr : rdT num) (hL : RLog s s) (ht : RTap s.1 s.1) (hb : ∀ k, k < ix (s.1 1 1) → i2b (s.1 2 k) = s.1 2 k) (hW : ∀ z, fr STM z (W z)) (hWa : ∀ z, ArgE num ((stg s num a b c d e f).1 14) ((W z).1 553))
    (hR1 : ∀ x y z, fr NTF y z → R1 x y → R1 x z) (hact : ∀ u t1 F A, fr CLR s u → fr STD u t1 → t1.1 549 16 = num → ArgE num ((stg s num a b c d e f).1 14) (t1.1 553) → t1.1 549 15 = 0 → t1.1 549 13 = s.1 1 1 → (∀ k, k < ix (s.1 1 1) → t1.1 554 k = s.1 2 k) → AdmC (stg s num a b c d e f) F A → FulM t1 F → Ok (fPH_act_1 (stg s num a b c d e f)) fun x => Ok (fM_act t1) fun y => AP R0 R1 F A (stg s num a b c d e f) x y) :
    Ok (clR s num a b c d e f) fun x => Ok (fM_call (W x.1) num) fun y => x.2 = y.2 ∧ RLog x.1 y.1 ∧ ((fr STG s x.1 ∧ fr STM x.1 y.1) ∨ ∃ x', x.1 = wI x' 1 1 (cI 0) ∧ (R0 x' y.1 ∨ R1 x' y.1)) := by
  rw [clR_eq]
  obtain ⟨a1, a2, a3, a4, a5, a6, a7, a8⟩ := id hL
  obtain ⟨t1', t2', t3', t4'⟩ := id ht
  have hsf := stg_fr (s := s) (num := num) (a := a) (b := b) (c := c) (d := d) (e := e) (f := f)
  have s9 : ∀ k, k ≠ 14 → (stg s num a b c d e f).1 9 k = s.1 9 k := fun k hk => stg_9 hk
  have sc : ∀ z, z ≠ 9 → z ≠ 14 → (stg s num a b c d e f).1 z = s.1 z := fun z h1 h2 => stg_ne h1 h2
  have s14 : (stg s num a b c d e f).1 9 14 = num := stg_14
  have wb : ∀ u, fr CLR s u → (W u).1 549 2 = s.1 1 1 ∧ (W u).1 550 = s.1 550 := fun u hu => by
    refine ⟨?_, ?_⟩
    · rw [((hW u).1 549 2 rfl).1, (nof_c hu clr_n (c := 549) rfl).1, t1']
    · rw [show (W u).1 550 = u.1 550 from funext fun k => ((hW u).1 550 k rfl).1, (nof_c hu clr_n (c := 550) rfl).1]
  have we : ∀ u, fr CLR s u → fM_call (W u) num = if (W u).1 549 5 = 0 then fM_call_b78 (mrd (W u) num) num else some (wI (W u) 549 0 (cI 0), cI (-105)) := fun u hu => by
    obtain ⟨w1, w2⟩ := wb u hu
    exact e_callR hr (by rw [w1]; exact t2') (by rw [w1]; exact t3') (fun k hk => by
      rw [w1] at hk
      rw [w2, t4' k hk]; exact hb k hk)
  by_cases hd : s.1 9 9 = 0
  · rw [if_pos hd]
    generalize stg s num a b c d e f = s1 at *
    have up : ∀ u t1, fr CLR s u → fr STD u t1 → t1.1 549 16 = num → t1.1 549 14 = 0 → t1.1 549 15 = 0 → t1.1 549 13 = s.1 1 1 → (∀ k, k < ix (s.1 1 1) → t1.1 554 k = s.1 2 k) → ArgE num (s1.1 14) (t1.1 553) → Ok (fPH_act_1 s1) fun x => Ok (fM_call_b78 t1 num) fun y => x.2 = y.2 ∧ RLog x.1 y.1 ∧ (R0 x.1 y.1 ∨ R1 x.1 y.1) := fun u t1 hu h1 h16 h14 h15 h13 h554 ha => by
      have q : ∀ k, k = 4 ∨ k = 5 ∨ k = 6 ∨ k = 7 ∨ k = 9 ∨ k = 10 → t1.1 549 k = s.1 549 k := fun k hk => by
        have e1 : t1.1 549 k = u.1 549 k := (h1.1 549 k (by rcases hk with rfl | rfl | rfl | rfl | rfl | rfl <;> rfl)).1
        rw [e1, (nof_c hu clr_n (c := 549) rfl).1]
      have qc : ∀ z, z = 551 ∨ z = 552 ∨ z = 555 → t1.1 z = s.1 z := fun z hz => by
        have e1 : t1.1 z = u.1 z := funext fun k => (h1.1 z k (by rcases hz with rfl | rfl | rfl <;> rfl)).1
        rw [e1]
        rcases hz with rfl | rfl | rfl
        · exact (nof_c hu clr_n (c := 551) rfl).1
        · exact (nof_c hu clr_n (c := 552) rfl).1
        · exact (nof_c hu clr_n (c := 555) rfl).1
      have s11 : s1.1 1 = s.1 1 := sc 1 (by decide) (by decide)
      have s12 : s1.1 2 = s.1 2 := sc 2 (by decide) (by decide)
      exact call_up g1 g2 (fun j hj => by rw [sc 1003 (by decide) (by decide)]; exact a1 j hj) s14 h16 h14 h15 ⟨by rw [q 4 (by simp), s9 4 (by decide)]; exact a3.1, by rw [s9 4 (by decide)]; exact a3.2⟩ (RWt_of a4 (s9 6 (by decide)) (sc 13 (by decide) (by decide)) (q 9 (by simp)) (qc 552 (by simp))) (by rw [s9 6 (by decide), s9 4 (by decide)]; exact a5) (by rw [q 10 (by simp), s9 7 (by decide)]; exact a6) (by rw [s9 12 (by decide)]; exact a7) ⟨by rw [q 5 (by simp), s9 9 (by decide)]; exact a2.1, by rw [s9 9 (by decide)]; exact a2.2⟩ (RDsk_of a8 (sc 10 (by decide) (by decide)) (sc 11 (by decide) (by decide)) (s9 10 (by decide)) (s9 11 (by decide)) (qc 551 (by simp)) (qc 555 (by simp)) (q 6 (by simp)) (q 7 (by simp))) (by rw [s11]; exact ⟨t2', t3'⟩) ha (fun _ => by rw [s11, s12]; exact ⟨h13, h554⟩) hR1 (fun F A hA hF => hact u t1 F A hu h1 h16 ha h15 h13 h554 hA hF)
    have up2 : ∀ u, fr CLR s u → Ok (fPH_act_1 s1) fun x => Ok (fM_call_b78 (mrd (W u) num) num) fun y => x.2 = y.2 ∧ RLog x.1 y.1 ∧ (R0 x.1 y.1 ∨ R1 x.1 y.1) := fun u hu => by
      obtain ⟨w1, w2⟩ := wb u hu
      refine up u (mrd (W u) num) hu (mrd_fr (hW u)) (by rw [mrd_9 (by decide) (by decide)]; exact mst_16) (by rw [mrd_9 (by decide) (by decide)]; exact mst_14) (by rw [mrd_9 (by decide) (by decide)]; exact mst_15) (by rw [mrd_13, w1]) (fun k hk => ?_) (by rw [mrd_c (by decide) (by decide)]; exact hWa u)
      rw [mrd_d (by rw [w1]; exact hk), w2, t4' k hk]
    obtain ⟨x, ex, -⟩ := up2 s fr.rf
    have hx : fr CLR s (wI x.1 1 1 (cI 0)) := (clr_0 ((clf_2 hsf).tr (clf_1 (fr_fPH_act_1 ex)))).wI (by decide +kernel)
    obtain ⟨x', ex', hy⟩ := up2 (wI x.1 1 1 (cI 0)) hx
    obtain rfl : x = x' := Option.some.inj (ex.symm.trans ex')
    have h5 : (W (wI x.1 1 1 (cI 0))).1 549 5 = 0 := by
      rw [((hW _).1 549 5 (by rfl)).1, (nof_c hx clr_n (c := 549) rfl).1, a2.1]
      exact hd
    rw [ex, bd2_some, ok_some]
    show Ok (fM_call (W (wI x.1 1 1 (cI 0))) num) _
    rw [we _ hx, if_pos h5]
    refine hy.mono fun y z => ⟨z.1, ?_, Or.inr ⟨x.1, rfl, z.2.2⟩⟩
    exact RLog_of z.2.1 (fun c h1 h2 h3 k hk => by rw [wI_ne (by omega)]) (by rw [wI_ne (by decide)]) (fun _ _ => rfl) rfl rfl rfl
  · rw [if_neg hd, ok_some, we _ (clr_0 (clf_2 hsf))]
    generalize stg s num a b c d e f = s1 at *
    have hx := clf_2 hsf
    have h5 : ¬ (W s1).1 549 5 = 0 := by
      rw [((hW s1).1 549 5 (by rfl)).1, (nof_c hx clf_n (c := 549) rfl).1, a2.1]
      exact hd
    rw [if_neg h5, ok_some]
    have hy : fr STM s1 (wI (W s1) 549 0 (cI 0)) := (hW s1).wI rfl
    have q : ∀ k, k = 4 ∨ k = 5 ∨ k = 6 ∨ k = 7 ∨ k = 9 ∨ k = 10 → (wI (W s1) 549 0 (cI 0)).1 549 k = s.1 549 k := fun k hk => by
      rw [(hy.1 549 k (by rcases hk with rfl | rfl | rfl | rfl | rfl | rfl <;> rfl)).1, (nof_c hx clf_n (c := 549) rfl).1]
    have qc : ∀ z, CLF_M.contains (z, 0) = true → (∀ k, inF STM z k = false) → (wI (W s1) 549 0 (cI 0)).1 z = s.1 z := fun z z3 z4 => by
      rw [show (wI (W s1) 549 0 (cI 0)).1 z = s1.1 z from funext fun k => (hy.1 z k (z4 k)).1, (nof_c hx clf_n (c := z) z3).1]
    refine ⟨rfl, RLog_of hL (fun c h1 h2 h3 k hk => ?_) (sc 1003 (by decide) (by decide)) q (qc 551 rfl fun _ => rfl) (qc 552 rfl fun _ => rfl) (qc 555 rfl fun _ => rfl), Or.inl ⟨hsf, hy⟩⟩
    by_cases h9 : c = 9
    · subst h9
      exact s9 k (fun z => hk ⟨rfl, z⟩)
    · rw [sc c h9 (by omega)]
