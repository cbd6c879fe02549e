/-! ===== LEVEL 3: the act item, to its end ===== -/
section
variable {s t : ev_M} {F : Bool} {A : Nat → Nat → Int32} {n : Nat}
theorem a_item {a b c d e f : Int32} (hA : AdmC s F A) (hM : FulM t F) (h0 : t.1 549 15 = 0) (h : RV n s t) (hk : RCk s t) (hcu : RCu s t) (ht : RTim s t) (hl : RLk s t) (hg : RBg s t) (hr : RRo s t) (hp : RPo s t) (hpl : RPl s t) (hn9 : n < 2147483646) : Ok (fItems_tell s a b c d e f) fun x => Ok (fM_doItem t a b c d e f) fun y => AP (fun s' t' => (RV n s' t' ∧ RCk s' t') ∧ s' = s) (fun s' t' => (RV (n + 1) s' t' ∧ RCk s' t') ∧ (s.1 100 5).toInt ≤ (s'.1 100 5).toInt) F A s x y := by
  obtain ⟨⟨n1, n2, n3⟩, -⟩ := id h.1.1
  obtain ⟨⟨u1, u2, u3⟩, -⟩ := id hcu
  have hn : (fun s' t' => (RV n s' t' ∧ RCk s' t') ∧ s' = s) s (wI t 549 15 (cI 1)) := ⟨⟨h.no, hk.keep rf_fr no_fr rfl rfl⟩, rfl⟩
  have z10 : ¬ cI 1 = 0 := by decide
  have z00 : cI 0 = 0 := rfl
  by_cases h1 : Cus d (s.1 78 3)
  rotate_left
  · exact sim_no (c := cI (-101)) (by simp only [fItems_tell, e_isCus u2 u3, bd1_some, ite_bI, eq_false h1, if_false]) (by simp only [fM_doItem, e_isCusM (show 0 ≤ (t.1 549 111).toInt by rw [u1]; exact u2) (show (t.1 549 111).toInt ≤ 30 by rw [u1]; exact u3), u1, bd1_some, bd2_some, no_eq, ite_bI, eq_false h1, if_false]) hn
  have kM : ∃ y0, fM_doItem t a b c d e f = fM_doItem_b45 t a b c d e f y0 ∧ (InR c (cI 0) (cI 7) → (y0 = 0 ↔ ¬ ((c &&& cI 2 = 0 ∧ f = 0) ∨ (¬ c &&& cI 2 = 0 ∧ InR f (cI 1) (cI 100000))))) := by
    by_cases q : c &&& cI 2 = cI 2
    · have q0 : ¬ c &&& cI 2 = 0 := by rw [q]; decide
      refine ⟨bI (InR f (cI 1) (cI 100000)), ?_, fun _ => ?_⟩
      · simp only [fM_doItem, e_isCusM (show 0 ≤ (t.1 549 111).toInt by rw [u1]; exact u2) (show (t.1 549 111).toInt ≤ 30 by rw [u1]; exact u3), u1, bd1_some, ite_bI, eq_true h1, if_true, if_pos q, in_eq]
      · by_cases r : InR f (cI 1) (cI 100000)
        · rw [bI_t r]
          exact ⟨fun w => absurd w (by decide), fun w => absurd (Or.inr ⟨q0, r⟩) w⟩
        · rw [bI_f r]
          exact ⟨fun _ z => z.elim (fun z => q0 z.1) (fun z => r z.2), fun _ => rfl⟩
    · by_cases r : f = 0
      · refine ⟨cI 1, ?_, fun hc => ?_⟩
        · simp only [fM_doItem, e_isCusM (show 0 ≤ (t.1 549 111).toInt by rw [u1]; exact u2) (show (t.1 549 111).toInt ≤ 30 by rw [u1]; exact u3), u1, bd1_some, ite_bI, eq_true h1, if_true, if_neg q, if_pos r]
        · exact ⟨fun w => absurd w z10, fun w => absurd (Or.inl ⟨(sv2 hc).resolve_right q, r⟩) w⟩
      · refine ⟨cI 0, ?_, fun hc => ?_⟩
        · simp only [fM_doItem, e_isCusM (show 0 ≤ (t.1 549 111).toInt by rw [u1]; exact u2) (show (t.1 549 111).toInt ≤ 30 by rw [u1]; exact u3), u1, bd1_some, ite_bI, eq_true h1, if_true, if_neg q, if_neg r]
        · exact ⟨fun _ z => z.elim (fun z => r z.2) (fun z => z.1 ((sv2 hc).resolve_right q)), fun _ => rfl⟩
  obtain ⟨y0, kM, hy⟩ := kM
  have no2 : fM_doItem_b93 t = some (wI t 549 15 (cI 1), cI (-102)) := by simp only [fM_doItem_b93, no_eq, bd2_some]
  have no4 : fM_doItem_b117 t = some (wI t 549 15 (cI 1), cI (-104)) := by simp only [fM_doItem_b117, no_eq, bd2_some]
  by_cases x1 : InR a (cI 0) (cI 3)
  rotate_left
  · exact sim_no (c := cI (-102)) (by simp only [fItems_tell, e_isCus u2 u3, bd1_some, ite_bI, eq_true h1, if_true, outside_eq, eq_false x1, if_false, not_true_eq_false, not_false_eq_true]) (by rw [kM]; simp only [fM_doItem_b45, in_eq, bd1_some, ite_bI, eq_false x1, if_false, no2]) hn
  by_cases x2 : InR b (cI 1) (cI 30000)
  rotate_left
  · exact sim_no (c := cI (-102)) (by simp only [fItems_tell, e_isCus u2 u3, bd1_some, ite_bI, eq_true h1, if_true, outside_eq, eq_true x1, eq_false x2, if_false, not_true_eq_false, not_false_eq_true]) (by rw [kM]; simp only [fM_doItem_b45, in_eq, bd1_some, ite_bI, eq_true x1, eq_false x2, if_true, if_false, no2]) hn
  by_cases x3 : InR c (cI 0) (cI 7)
  rotate_left
  · exact sim_no (c := cI (-102)) (by simp only [fItems_tell, e_isCus u2 u3, bd1_some, ite_bI, eq_true h1, if_true, outside_eq, eq_true x1, eq_true x2, eq_false x3, if_false, not_true_eq_false, not_false_eq_true]) (by rw [kM]; simp only [fM_doItem_b45, in_eq, bd1_some, ite_bI, eq_true x1, eq_true x2, eq_false x3, if_true, if_false, no2]) hn
  by_cases x4 : InR e (cI 1) (cI 99)
  rotate_left
  · exact sim_no (c := cI (-102)) (by simp only [fItems_tell, e_isCus u2 u3, bd1_some, ite_bI, eq_true h1, if_true, outside_eq, eq_true x1, eq_true x2, eq_true x3, eq_false x4, if_false, not_true_eq_false, not_false_eq_true]) (by rw [kM]; simp only [fM_doItem_b45, in_eq, bd1_some, ite_bI, eq_true x1, eq_true x2, eq_true x3, eq_false x4, if_true, if_false, no2]) hn
  have hy := hy x3
  have kC : fItems_tell s a b c d e f = if ((c &&& cI 2 = 0 ∧ f = 0) ∨ (¬ c &&& cI 2 = 0 ∧ InR f (cI 1) (cI 100000))) then fItems_tell_b99 s a b c d e f else some (s, cI (-102)) := by
    by_cases q : c &&& cI 2 = 0
    · by_cases r : f = 0
      · rw [if_pos (Or.inl ⟨q, r⟩)]
        simp only [fItems_tell, e_isCus u2 u3, bd1_some, ite_bI, eq_true h1, if_true, outside_eq, eq_true x1, eq_true x2, eq_true x3, eq_true x4, not_true_eq_false, if_false, fItems_tell_b70, if_pos q, if_pos r, eq_true z00]
      · rw [if_neg (fun z => z.elim (fun z => r z.2) (fun z => z.1 q))]
        simp only [fItems_tell, e_isCus u2 u3, bd1_some, ite_bI, eq_true h1, if_true, outside_eq, eq_true x1, eq_true x2, eq_true x3, eq_true x4, not_true_eq_false, if_false, fItems_tell_b70, if_pos q, if_neg r, eq_true z00]
    · by_cases r : InR f (cI 1) (cI 100000)
      · rw [if_pos (Or.inr ⟨q, r⟩)]
        simp only [fItems_tell, e_isCus u2 u3, bd1_some, ite_bI, eq_true h1, if_true, outside_eq, eq_true x1, eq_true x2, eq_true x3, eq_true x4, not_true_eq_false, if_false, fItems_tell_b70, if_neg q, eq_true r, eq_false z10]
      · rw [if_neg (fun z => z.elim (fun z => q z.1) (fun z => r z.2))]
        simp only [fItems_tell, e_isCus u2 u3, bd1_some, ite_bI, eq_true h1, if_true, outside_eq, eq_true x1, eq_true x2, eq_true x3, eq_true x4, not_true_eq_false, if_false, fItems_tell_b70, if_neg q, eq_false r, eq_false z10, not_false_eq_true]
  by_cases x5 : ((c &&& cI 2 = 0 ∧ f = 0) ∨ (¬ c &&& cI 2 = 0 ∧ InR f (cI 1) (cI 100000)))
  rotate_left
  · have y0' := hy.mpr x5
    exact sim_no (c := cI (-102)) (by rw [kC, if_neg x5]) (by rw [kM]; simp only [fM_doItem_b45, in_eq, bd1_some, ite_bI, eq_true x1, eq_true x2, eq_true x3, eq_true x4, if_true, y0', no2]) hn
  have y0' : ¬ y0 = 0 := fun q => hy.mp q x5
  rw [if_pos x5] at kC
  have i6 : 0 ≤ f.toInt ∧ f.toInt ≤ 100000 := by
    rcases x5 with ⟨-, z⟩ | ⟨-, z⟩
    · rw [z]; decide
    · have q1 : 1 ≤ f.toInt := z.1
      have q2 : f.toInt ≤ 100000 := z.2
      omega
  by_cases h7 : s.1 100 5 < cI 300
  rotate_left
  · have h79 : s.1 100 5 = cI 300 := cap_eq h7 n3
    exact sim_no (c := cI (-104)) (by rw [kC]; simp only [fItems_tell_b99, if_neg h7]) (by rw [kM]; simp only [fM_doItem_b45, in_eq, bd1_some, ite_bI, eq_true x1, eq_true x2, eq_true x3, eq_true x4, if_true, if_neg y0', n1, if_pos h79, no4]) hn
  have h79 : ¬ s.1 100 5 = cI 300 := cap_ne h7
  by_cases hF : F = true
  · subst hF
    exact sim_no (c := cI (-104)) (by rw [kC]; simp only [fItems_tell_b99, if_pos h7, hA.no, bd2_some, if_true]) (by rw [kM]; simp only [fM_doItem_b45, in_eq, bd1_some, ite_bI, eq_true x1, eq_true x2, eq_true x3, eq_true x4, if_true, if_neg y0', n1, if_neg h79, hM.no, if_neg (show ¬ (1 : Int32) = 0 by decide), no4]) hn
  have hF2 : F = false := by cases F <;> simp_all
  subst hF2
  have hk7 : (s.1 100 5).toInt < 300 := lt_n h7
  have hb : inb (s.1 100 5) 300 = true := inb_iff.mpr ⟨n2, hk7⟩
  have xi : (s.1 100 5 + cI 1).toInt = (s.1 100 5).toInt + 1 := inc_i (by omega)
  have u100 : (lupd A s).1 100 = s.1 100 := lupd_ne (Or.inr (by decide))
  obtain ⟨w, w1, w2, w3, w4⟩ := tell_lp (x1 := a) (x2 := b) (x3 := c) (x4 := d) (x5 := e) (x6 := f) hb 22 1048576 (wI (lupd A s) 100 5 (s.1 100 5 + cI 1)) (cI 0) (by decide) (by decide) (by omega)
  have hw : ∀ q, q < 22 → w.1 (102 + q) = up1 (s.1 (102 + q)) (ix (s.1 100 5)) (cI (-1)) := fun q hq => by
    rw [w2 q (by rw [ix_0]; omega) hq, wI_ne (by omega), lupd_ne (by omega)]
  have hf : ∀ q, (q < 102 ∨ 124 ≤ q) → q ≠ 100 → w.1 q = (lupd A s).1 q := fun q hq hq2 => by
    rw [w3 q (by rw [ix_0]; omega), wI_ne hq2]
  obtain ⟨r1, r2, r3, r4⟩ := new_item (A := A) (w := w) (x1 := a) (x2 := b) (x3 := c) (x4 := d) (x5 := e) (x6 := f) h hk hl hg hr hk7 hw hf (by rw [w3 100 (Or.inl (by decide)), wI_c, up1_eq]) (by rw [w3 100 (Or.inl (by decide)), wI_c, up1_ne (by decide), u100]) x1 x2 x3 h1 x4 i6 hp.1.2.1 hpl.1.2.1
  have fZ : fr [(100, 100, 6), (102, 123, 0)] (lupd A s) (cmO (tlS w (ix (s.1 100 5)) a b c d e f) (ix (s.1 100 5)) (cI 0)) := by
    unfold cmO tlS
    exact (((((((((((((((((fr.rf (F := [(100, 100, 6), (102, 123, 0)])).wI rfl).tr (w4.mono (by decide +kernel))).wI rfl).wI rfl).wI rfl).wI rfl).wI rfl).wI rfl).wI rfl).wI rfl).wI rfl).wI rfl).wI rfl).wI rfl).wI rfl).wI rfl)
  have fY : fr [(549, 549, 59), (584, 593, 0), (595, 595, 0), (597, 604, 0)] t (lvS (nwM t (ix (s.1 100 5)) (s.1 100 5 + cI 1) a b c d e f) (ix (s.1 100 5))) := by
    unfold lvS nwM
    exact (((((((((((((((((((fr.rf.wI rfl).wI rfl).wI rfl).wI rfl).wI rfl).wI rfl).wI rfl).wI rfl).wI rfl).wI rfl).wI rfl).wI rfl).wI rfl).wI rfl).wI rfl).wI rfl).wI rfl).wI rfl).wI rfl).wI rfl
  have z5 : (cmO (tlS w (ix (s.1 100 5)) a b c d e f) (ix (s.1 100 5)) (cI 0)).1 100 5 = s.1 100 5 + cI 1 := by
    unfold cmO tlS
    simp (disch := decide) only [ix_0, ix_1, ix_2, ix_3, ix_4, ix_5, ix_6, ix_7, ix_8, ix_9, ix_10, ix_11, ix_12, ix_13, ix_14, ix_15, ix_16, ix_17, ix_18, ix_19, ix_20, ix_21, Nat.reduceAdd, wI_c, wI_ne, wL_1, lupd_ne, up1_eq, up1_ne]
    rw [w3 100 (Or.inl (by decide)), wI_c, up1_eq]
  obtain ⟨s', t', v1, v2, v3, v4, v5, v6⟩ := hapQ (n := n) (m := n) (i := s.1 100 5) (c := cI 0) (s := cmO (tlS w (ix (s.1 100 5)) a b c d e f) (ix (s.1 100 5)) (cI 0)) (t := lvS (nwM t (ix (s.1 100 5)) (s.1 100 5 + cI 1) a b c d e f) (ix (s.1 100 5))) r1 r2 ((hcu.keep lupd_fr rf_fr (by decide +kernel) (by decide +kernel)).keep fZ fY (by decide +kernel) (by decide +kernel)) ((ht.keep lupd_fr rf_fr (by decide +kernel) (by decide +kernel)).keep fZ fY (by decide +kernel) (by decide +kernel)) hn9 (by rw [z5]; exact ⟨n2, by omega⟩) (by decide)
  have kC2 : fItems_tell s a b c d e f = some (s', s.1 100 5) := by
    rw [kC]
    unfold fItems_tell_b99
    generalize fItems_tell_h138 1048576 = H at w1 ⊢
    rw [if_pos h7, hA.yes, bd2_some, if_neg (show ¬ (1 : Int32) = 0 by decide), ltM_eq, ltI_eq, u100, w1, e_comeO hb (by decide) (by decide) (by decide), v1, bd1_some]
  have kM2 : fM_doItem t a b c d e f = some (t', s.1 100 5) := by
    rw [kM]
    have e1 : fM_leaves (nwM t (ix (s.1 100 5)) (s.1 100 5 + cI 1) a b c d e f) (s.1 100 5) = some (lvS (nwM t (ix (s.1 100 5)) (s.1 100 5 + cI 1) a b c d e f) (ix (s.1 100 5))) := e_leaves hb
    unfold nwM at e1 v2
    simp only [fM_doItem_b45, in_eq, bd1_some, ite_bI, eq_true x1, eq_true x2, eq_true x3, eq_true x4, if_true, if_neg y0', n1, if_neg h79, hM.yes, ltM_eq, ltI_eq, hb, show cI 0 &&& 1 = cI 0 by decide, e1, v2]
  have fG : fr ((583, 583, 0) :: F_evno) (lvS (nwM t (ix (s.1 100 5)) (s.1 100 5 + cI 1) a b c d e f) (ix (s.1 100 5))) t' := (fr.rf.wI rfl).tr (v6.mono (by decide +kernel))
  rw [kC2, kM2, ok_some, ok_some]
  refine ⟨rfl, Or.inr ⟨?_, rfl, ?_, ⟨⟨⟨v3.1, v3.2.1, v3.2.2.1.up, v3.2.2.2⟩, v4, r3.keep v5 fG (by decide +kernel) (by decide +kernel)⟩, r4.keep v5 fG (by decide +kernel) (by decide +kernel)⟩, ?_⟩⟩
  · rw [(v6.1 549 15 (by decide +kernel)).1, wI_ne (by decide), (fY.1 549 15 (by decide +kernel)).1]; exact h0
  · exact lgS.fr (F := [(100, 100, 6), (102, 123, 0)] ++ F_Chron_happen) ((fZ.mono (by decide +kernel)).tr (v5.mono (by decide +kernel))) (by decide +kernel) (by decide +kernel)
  · rw [(v5.1 100 5 (by decide +kernel)).1, z5, xi]; omega
end
