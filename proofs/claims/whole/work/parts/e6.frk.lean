/-! ===== LEVEL 3: the acts frank and claim ===== -/
section
variable {s t : ev_M} {F : Bool} {A : Nat → Nat → Int32}
theorem ROm.nn (h : ROm s t) : 0 ≤ (s.1 78 9).toInt := by
  obtain ⟨-, -, -, -, -, -, o1, -⟩ := h
  omega
/-- a booking, or none of 0 cents -/
theorem payx {f g c i : Int32} (h : RMo s t) (o0 : 0 ≤ (s.1 78 3).toInt) (f0 : 0 ≤ f.toInt) (g0 : 0 ≤ g.toInt) (f1 : f.toInt < 34) (g1 : g.toInt < 34) (c1 : 0 ≤ c.toInt) (c2 : c.toInt ≤ 1000000) (hl : 1 ≤ c.toInt → (s.1 78 6).toInt + (s.1 78 9).toInt + 1 ≤ 2000) (hf : 4 ≤ f.toInt → c.toInt ≤ (s.2.1 80 (ix f)).toInt) (of : f.toInt < 4 + (s.1 78 3).toInt) (og : g.toInt < 4 + (s.1 78 3).toInt) (hfg : ¬ f = g) : ∃ s' t', fMoney_transfer s f g c i = some s' ∧ fM_pay t f g c i = some t' ∧ RMo s' t' ∧ fr F_Money_transfer s s' ∧ fr F_M_pay t t' ∧ (s'.1 78 6).toInt = (s.1 78 6).toInt + (if c = 0 then 0 else 1) := by
  obtain ⟨hg, ho, hr⟩ := id h
  have o9 := ho.nn
  by_cases z : c = 0
  · have z2 : c ≤ 0 := by rw [z, le_i]; exact Int.le_refl _
    refine ⟨s, t, ?_, ?_, h, fr.rf, fr.rf, by rw [if_pos z]; omega⟩
    · unfold fMoney_transfer; rw [if_pos z]
    · unfold fM_pay; rw [if_pos z2]
  · have z2 : ¬ c.toInt = 0 := fun q => z (by rw [eq_i]; exact q)
    have l := hl (by omega)
    obtain ⟨s', t', es, et, hg3, e6, e7, e8⟩ := hg.pay (f := f) (g := g) (c := c) (i := i) (by omega) f0 g0 f1 g1 (by omega) c2 hf of og hfg o0
    have fs := fr_fMoney_transfer es
    have ft := fr_fM_pay et
    have e9 : (s'.1 78 6).toInt = (s.1 78 6).toInt + 1 := by rw [e6, inc_i (by omega)]
    refine ⟨s', t', es, et, ⟨hg3, ho.keep fs ft (by decide +kernel) (by decide +kernel), ?_⟩, fs, ft, by rw [if_neg z]; exact e9⟩
    unfold RRm
    rw [e9, (fs.1 78 9 rfl).1]
    omega
theorem RMo.kp {s' t' : ev_M} {F G : List (Nat × (Nat × Nat))} (h : RMo s t) (hs : fr F s s') (ht : fr G t t') (d1 : (nof F RLg_C && (nof F ROm_C && nof F RRm_C)) = true) (d2 : (nof G RLg_M && (nof G ROm_M && nof G RRm_M)) = true) : RMo s' t' := by
  simp only [Bool.and_eq_true] at d1 d2
  exact ⟨h.1.keep hs ht d1.1 d2.1, h.2.1.keep hs ht d1.2.1 d2.2.1, h.2.2.keep hs ht d1.2.2 d2.2.2⟩
theorem RIr.frk {k : Nat} {p : Int32} (h : RIr s t) (hp : -1 ≤ p.toInt ∧ p.toInt ≤ 1000000) : RIr (wI s 113 k p) (wI t 600 k p) := by
  obtain ⟨g1, g2, g3, g4, g5, g6, g7, b1, b2, b3, b4, b5, b6, b7⟩ := h
  unfold RIr
  simp (disch := decide) only [ix_0, ix_1, ix_2, ix_3, ix_4, ix_5, ix_6, ix_7, ix_8, ix_9, ix_10, ix_11, ix_12, ix_13, ix_14, ix_15, ix_16, ix_17, ix_18, ix_19, ix_20, ix_21, Nat.reduceAdd, wI_c, wI_ne, wL_1, lupd_ne, up1_eq, up1_ne]
  exact ⟨g1, g2, g3, g4.set rfl, g5, g6, g7, b1, b2, b3, b4.set hp, b5, b6, b7⟩
theorem RIr.clm {k : Nat} {p : Int32} (h : RIr s t) (hp : 0 ≤ p.toInt ∧ p.toInt ≤ 1) : RIr (wI s 120 k p) (wI t 603 k p) := by
  obtain ⟨g1, g2, g3, g4, g5, g6, g7, b1, b2, b3, b4, b5, b6, b7⟩ := h
  unfold RIr
  simp (disch := decide) only [ix_0, ix_1, ix_2, ix_3, ix_4, ix_5, ix_6, ix_7, ix_8, ix_9, ix_10, ix_11, ix_12, ix_13, ix_14, ix_15, ix_16, ix_17, ix_18, ix_19, ix_20, ix_21, Nat.reduceAdd, wI_c, wI_ne, wL_1, lupd_ne, up1_eq, up1_ne]
  exact ⟨g1, g2, g3, g4, g5, g6, g7.set rfl, b1, b2, b3, b4, b5, b6, b7.set hp⟩
theorem a_frank {a : Int32} (hA : AdmC s F A) (hM : FulM t F) (h0 : t.1 549 15 = 0) (h : RMo s t) (hq : RIr s t) (hi : RIt s t) (hT : RTa s t) (hu : RCu s t) : Ok (fItems_frankItem s a) fun x => Ok (fM_doFrank t a) fun y => AP (fun s t => RMo s t ∧ RIr s t) (fun s t => RMo s t ∧ RIr s t) F A s x y := by
  obtain ⟨hg, ho, hr⟩ := id h
  obtain ⟨⟨u1, u2, u3⟩, -⟩ := id hu
  obtain ⟨⟨m1, m2, m3⟩, -⟩ := id hg
  obtain ⟨⟨n1, n2, n3⟩, -, -, -, -, g5, -, -, -, -, -, -, -, -, b5, -⟩ := id hi
  obtain ⟨-, -, -, q4, -, -, -, -, -, -, q5, -⟩ := id hq
  have hn : (fun s t => RMo s t ∧ RIr s t) s (wI t 549 15 (cI 1)) := ⟨⟨hg.keep rf_fr no_fr rfl rfl, ho.keep rf_fr no_fr rfl rfl, hr.keep rf_fr no_fr rfl rfl⟩, hq.keep rf_fr no_fr rfl rfl⟩
  have hop := ho.opnE
  by_cases h1 : Has a (s.1 100 5)
  rotate_left
  · exact sim_no (c := cI (-101)) (by simp only [fItems_frankItem_b88, fItems_frankItem, fM_doFrank_b44, fM_doFrank_b101, fM_doFrank_b84, fM_doFrank, e_itemsHas n2, e_isItem (by rw [n1]; exact n2), n1, m1, e_room, e_ledger, hop, ltM_eq, ltI_eq, ltL_eq, bd1_some, bd2_some, ite_bI, if_true, if_false, ite_true, ite_false, eq_self, not_true_eq_false, not_false_eq_true, i10, outside_eq, in_eq, no_eq, eq_false h1]) (by simp only [fItems_frankItem_b88, fItems_frankItem, fM_doFrank_b44, fM_doFrank_b101, fM_doFrank_b84, fM_doFrank, e_itemsHas n2, e_isItem (by rw [n1]; exact n2), n1, m1, e_room, e_ledger, hop, ltM_eq, ltI_eq, ltL_eq, bd1_some, bd2_some, ite_bI, if_true, if_false, ite_true, ite_false, eq_self, not_true_eq_false, not_false_eq_true, i10, outside_eq, in_eq, no_eq, eq_false h1]) hn
  have hb : inb a 300 = true := h1.inb n3
  have w := h1.ix
  obtain ⟨p, p1, p2, p3, p4⟩ := hT.price hi h1
  obtain ⟨r1, r2⟩ := e_early hi h1
  have e4 := q4 _ w
  have e5 := g5 _ w
  have a5 := b5 _ w
  have hv : inb (s.1 106 (ix a)) 34 = true := inb_iff.mpr ⟨by omega, by omega⟩
  have hbal := hg.bal (k := s.1 106 (ix a)) (by omega) (by omega)
  by_cases h2 : s.1 113 (ix a) = cI (-1)
  rotate_left
  · exact sim_no (c := cI (-103)) (by simp only [fItems_frankItem_b88, fItems_frankItem, fM_doFrank_b44, fM_doFrank_b101, fM_doFrank_b84, fM_doFrank, e_itemsHas n2, e_isItem (by rw [n1]; exact n2), n1, m1, e_room, e_ledger, hop, ltM_eq, ltI_eq, ltL_eq, bd1_some, bd2_some, ite_bI, if_true, if_false, ite_true, ite_false, eq_self, not_true_eq_false, not_false_eq_true, i10, outside_eq, in_eq, no_eq, eq_true h1, hb, ix_0, ix_1, ix_2, ix_3, ix_4, ix_5, ix_6, ix_7, ix_8, ix_9, ix_10, ix_11, ix_12, ix_13, ix_14, ix_15, ix_16, ix_17, ix_18, ix_19, ix_20, ix_21, Nat.reduceAdd, wI_c, wI_ne, wL_1, lupd_ne, up1_eq, up1_ne, p1, eq_false h2]) (by simp only [fItems_frankItem_b88, fItems_frankItem, fM_doFrank_b44, fM_doFrank_b101, fM_doFrank_b84, fM_doFrank, e_itemsHas n2, e_isItem (by rw [n1]; exact n2), n1, m1, e_room, e_ledger, hop, ltM_eq, ltI_eq, ltL_eq, bd1_some, bd2_some, ite_bI, if_true, if_false, ite_true, ite_false, eq_self, not_true_eq_false, not_false_eq_true, i10, outside_eq, in_eq, no_eq, eq_true h1, hb, p2, e4, eq_false h2]) hn
  by_cases h3 : s.1 102 (ix a) = 0 ∨ s.1 102 (ix a) = cI 1
  rotate_left
  · exact sim_no (c := cI (-103)) (by simp only [fItems_frankItem_b88, fItems_frankItem, fM_doFrank_b44, fM_doFrank_b101, fM_doFrank_b84, fM_doFrank, e_itemsHas n2, e_isItem (by rw [n1]; exact n2), n1, m1, e_room, e_ledger, hop, ltM_eq, ltI_eq, ltL_eq, bd1_some, bd2_some, ite_bI, if_true, if_false, ite_true, ite_false, eq_self, not_true_eq_false, not_false_eq_true, i10, outside_eq, in_eq, no_eq, eq_true h1, hb, ix_0, ix_1, ix_2, ix_3, ix_4, ix_5, ix_6, ix_7, ix_8, ix_9, ix_10, ix_11, ix_12, ix_13, ix_14, ix_15, ix_16, ix_17, ix_18, ix_19, ix_20, ix_21, Nat.reduceAdd, wI_c, wI_ne, wL_1, lupd_ne, up1_eq, up1_ne, p1, eq_true h2, r1, eq_false h3]) (by simp only [fItems_frankItem_b88, fItems_frankItem, fM_doFrank_b44, fM_doFrank_b101, fM_doFrank_b84, fM_doFrank, e_itemsHas n2, e_isItem (by rw [n1]; exact n2), n1, m1, e_room, e_ledger, hop, ltM_eq, ltI_eq, ltL_eq, bd1_some, bd2_some, ite_bI, if_true, if_false, ite_true, ite_false, eq_self, not_true_eq_false, not_false_eq_true, i10, outside_eq, in_eq, no_eq, eq_true h1, hb, p2, e4, eq_true h2, r2, eq_false h3]) hn
  by_cases h4 : p = cI (-1)
  · exact sim_no (c := cI (-103)) (by simp only [fItems_frankItem_b88, fItems_frankItem, fM_doFrank_b44, fM_doFrank_b101, fM_doFrank_b84, fM_doFrank, e_itemsHas n2, e_isItem (by rw [n1]; exact n2), n1, m1, e_room, e_ledger, hop, ltM_eq, ltI_eq, ltL_eq, bd1_some, bd2_some, ite_bI, if_true, if_false, ite_true, ite_false, eq_self, not_true_eq_false, not_false_eq_true, i10, outside_eq, in_eq, no_eq, eq_true h1, hb, ix_0, ix_1, ix_2, ix_3, ix_4, ix_5, ix_6, ix_7, ix_8, ix_9, ix_10, ix_11, ix_12, ix_13, ix_14, ix_15, ix_16, ix_17, ix_18, ix_19, ix_20, ix_21, Nat.reduceAdd, wI_c, wI_ne, wL_1, lupd_ne, up1_eq, up1_ne, p1, eq_true h2, r1, eq_true h3, eq_true h4]) (by simp only [fItems_frankItem_b88, fItems_frankItem, fM_doFrank_b44, fM_doFrank_b101, fM_doFrank_b84, fM_doFrank, e_itemsHas n2, e_isItem (by rw [n1]; exact n2), n1, m1, e_room, e_ledger, hop, ltM_eq, ltI_eq, ltL_eq, bd1_some, bd2_some, ite_bI, if_true, if_false, ite_true, ite_false, eq_self, not_true_eq_false, not_false_eq_true, i10, outside_eq, in_eq, no_eq, eq_true h1, hb, p2, e4, eq_true h2, r2, eq_true h3, eq_true h4]) hn
  have p0 := p4.resolve_left h4
  by_cases h5 : lg_cmp (s.2.1 80 (ix (s.1 106 (ix a)))) (Int32.toInt64 p) < 0
  · exact sim_no (c := cI (-116)) (by simp only [fItems_frankItem_b88, fItems_frankItem, fM_doFrank_b44, fM_doFrank_b101, fM_doFrank_b84, fM_doFrank, e_itemsHas n2, e_isItem (by rw [n1]; exact n2), n1, m1, e_room, e_ledger, hop, ltM_eq, ltI_eq, ltL_eq, bd1_some, bd2_some, ite_bI, if_true, if_false, ite_true, ite_false, eq_self, not_true_eq_false, not_false_eq_true, i10, outside_eq, in_eq, no_eq, eq_true h1, hb, ix_0, ix_1, ix_2, ix_3, ix_4, ix_5, ix_6, ix_7, ix_8, ix_9, ix_10, ix_11, ix_12, ix_13, ix_14, ix_15, ix_16, ix_17, ix_18, ix_19, ix_20, ix_21, Nat.reduceAdd, wI_c, wI_ne, wL_1, lupd_ne, up1_eq, up1_ne, p1, eq_true h2, r1, eq_true h3, eq_false h4, hv, eq_true h5]) (by simp only [fItems_frankItem_b88, fItems_frankItem, fM_doFrank_b44, fM_doFrank_b101, fM_doFrank_b84, fM_doFrank, e_itemsHas n2, e_isItem (by rw [n1]; exact n2), n1, m1, e_room, e_ledger, hop, ltM_eq, ltI_eq, ltL_eq, bd1_some, bd2_some, ite_bI, if_true, if_false, ite_true, ite_false, eq_self, not_true_eq_false, not_false_eq_true, i10, outside_eq, in_eq, no_eq, eq_true h1, hb, p2, e4, e5, eq_true h2, r2, eq_true h3, eq_false h4, hbal, eq_true h5]) hn
  have nb : p.toInt ≤ (s.2.1 80 (ix (s.1 106 (ix a)))).toInt := by
    have q : ¬ (s.2.1 80 (ix (s.1 106 (ix a)))).toInt < (Int32.toInt64 p).toInt := fun q => h5 (lgc_lt.mpr q)
    rw [toL_toInt] at q
    omega
  have hr' : (s.1 78 6).toInt + (s.1 78 9).toInt ≤ 2000 := hr
  have l0 := (ho.room hg (a := cI 0) (by decide) (by decide)).mpr (by rw [show (cI 0).toInt = 0 from rfl]; omega)
  have hl1 := ho.room hg (a := cI 1) (by decide) (by decide)
  rw [show (cI 1).toInt = 1 from rfl] at hl1
  have zC : p ≤ 0 ↔ p = 0 := by rw [le_i, eq_i, i32_0]; omega
  -- is there room in the ledger
  by_cases h6 : p = 0 ∨ s.1 78 6 + cI 1 + s.1 78 9 ≤ cI 2000
  rotate_left
  · obtain ⟨h61, h62⟩ := not_or.mp h6
    have h63 : ¬ p ≤ 0 := fun q => h61 (zC.mp q)
    exact sim_no (c := cI (-104)) (by simp only [fItems_frankItem_b88, fItems_frankItem, fM_doFrank_b44, fM_doFrank_b101, fM_doFrank_b84, fM_doFrank, e_itemsHas n2, e_isItem (by rw [n1]; exact n2), n1, m1, e_room, e_ledger, hop, ltM_eq, ltI_eq, ltL_eq, bd1_some, bd2_some, ite_bI, if_true, if_false, ite_true, ite_false, eq_self, not_true_eq_false, not_false_eq_true, i10, outside_eq, in_eq, no_eq, eq_true h1, hb, ix_0, ix_1, ix_2, ix_3, ix_4, ix_5, ix_6, ix_7, ix_8, ix_9, ix_10, ix_11, ix_12, ix_13, ix_14, ix_15, ix_16, ix_17, ix_18, ix_19, ix_20, ix_21, Nat.reduceAdd, wI_c, wI_ne, wL_1, lupd_ne, up1_eq, up1_ne, p1, eq_true h2, r1, eq_true h3, eq_false h4, hv, eq_false h5, eq_false h63, eq_false h62]) (by simp only [fItems_frankItem_b88, fItems_frankItem, fM_doFrank_b44, fM_doFrank_b101, fM_doFrank_b84, fM_doFrank, e_itemsHas n2, e_isItem (by rw [n1]; exact n2), n1, m1, e_room, e_ledger, hop, ltM_eq, ltI_eq, ltL_eq, bd1_some, bd2_some, ite_bI, if_true, if_false, ite_true, ite_false, eq_self, not_true_eq_false, not_false_eq_true, i10, outside_eq, in_eq, no_eq, eq_true h1, hb, p2, e4, e5, eq_true h2, r2, eq_true h3, eq_false h4, hbal, eq_false h5, eq_false h63, eq_false h62]) hn
  by_cases hF : F = true
  · subst hF
    rcases h6 with h6 | h6
    · have h63 := zC.mpr h6
      exact sim_no (c := cI (-104)) (by simp only [fItems_frankItem_b88, fItems_frankItem, fM_doFrank_b44, fM_doFrank_b101, fM_doFrank_b84, fM_doFrank, e_itemsHas n2, e_isItem (by rw [n1]; exact n2), n1, m1, e_room, e_ledger, hop, ltM_eq, ltI_eq, ltL_eq, bd1_some, bd2_some, ite_bI, if_true, if_false, ite_true, ite_false, eq_self, not_true_eq_false, not_false_eq_true, i10, outside_eq, in_eq, no_eq, eq_true h1, hb, ix_0, ix_1, ix_2, ix_3, ix_4, ix_5, ix_6, ix_7, ix_8, ix_9, ix_10, ix_11, ix_12, ix_13, ix_14, ix_15, ix_16, ix_17, ix_18, ix_19, ix_20, ix_21, Nat.reduceAdd, wI_c, wI_ne, wL_1, lupd_ne, up1_eq, up1_ne, p1, eq_true h2, r1, eq_true h3, eq_false h4, hv, eq_false h5, eq_true h63, hA.no]) (by simp only [fItems_frankItem_b88, fItems_frankItem, fM_doFrank_b44, fM_doFrank_b101, fM_doFrank_b84, fM_doFrank, e_itemsHas n2, e_isItem (by rw [n1]; exact n2), n1, m1, e_room, e_ledger, hop, ltM_eq, ltI_eq, ltL_eq, bd1_some, bd2_some, ite_bI, if_true, if_false, ite_true, ite_false, eq_self, not_true_eq_false, not_false_eq_true, i10, outside_eq, in_eq, no_eq, eq_true h1, hb, p2, e4, e5, eq_true h2, r2, eq_true h3, eq_false h4, hbal, eq_false h5, eq_true h63, eq_true l0, hM.no]) hn
    · by_cases h63 : p ≤ 0
      · exact sim_no (c := cI (-104)) (by simp only [fItems_frankItem_b88, fItems_frankItem, fM_doFrank_b44, fM_doFrank_b101, fM_doFrank_b84, fM_doFrank, e_itemsHas n2, e_isItem (by rw [n1]; exact n2), n1, m1, e_room, e_ledger, hop, ltM_eq, ltI_eq, ltL_eq, bd1_some, bd2_some, ite_bI, if_true, if_false, ite_true, ite_false, eq_self, not_true_eq_false, not_false_eq_true, i10, outside_eq, in_eq, no_eq, eq_true h1, hb, ix_0, ix_1, ix_2, ix_3, ix_4, ix_5, ix_6, ix_7, ix_8, ix_9, ix_10, ix_11, ix_12, ix_13, ix_14, ix_15, ix_16, ix_17, ix_18, ix_19, ix_20, ix_21, Nat.reduceAdd, wI_c, wI_ne, wL_1, lupd_ne, up1_eq, up1_ne, p1, eq_true h2, r1, eq_true h3, eq_false h4, hv, eq_false h5, eq_true h63, hA.no]) (by simp only [fItems_frankItem_b88, fItems_frankItem, fM_doFrank_b44, fM_doFrank_b101, fM_doFrank_b84, fM_doFrank, e_itemsHas n2, e_isItem (by rw [n1]; exact n2), n1, m1, e_room, e_ledger, hop, ltM_eq, ltI_eq, ltL_eq, bd1_some, bd2_some, ite_bI, if_true, if_false, ite_true, ite_false, eq_self, not_true_eq_false, not_false_eq_true, i10, outside_eq, in_eq, no_eq, eq_true h1, hb, p2, e4, e5, eq_true h2, r2, eq_true h3, eq_false h4, hbal, eq_false h5, eq_true h63, eq_true l0, hM.no]) hn
      · exact sim_no (c := cI (-104)) (by simp only [fItems_frankItem_b88, fItems_frankItem, fM_doFrank_b44, fM_doFrank_b101, fM_doFrank_b84, fM_doFrank, e_itemsHas n2, e_isItem (by rw [n1]; exact n2), n1, m1, e_room, e_ledger, hop, ltM_eq, ltI_eq, ltL_eq, bd1_some, bd2_some, ite_bI, if_true, if_false, ite_true, ite_false, eq_self, not_true_eq_false, not_false_eq_true, i10, outside_eq, in_eq, no_eq, eq_true h1, hb, ix_0, ix_1, ix_2, ix_3, ix_4, ix_5, ix_6, ix_7, ix_8, ix_9, ix_10, ix_11, ix_12, ix_13, ix_14, ix_15, ix_16, ix_17, ix_18, ix_19, ix_20, ix_21, Nat.reduceAdd, wI_c, wI_ne, wL_1, lupd_ne, up1_eq, up1_ne, p1, eq_true h2, r1, eq_true h3, eq_false h4, hv, eq_false h5, eq_false h63, eq_true h6, hA.no]) (by simp only [fItems_frankItem_b88, fItems_frankItem, fM_doFrank_b44, fM_doFrank_b101, fM_doFrank_b84, fM_doFrank, e_itemsHas n2, e_isItem (by rw [n1]; exact n2), n1, m1, e_room, e_ledger, hop, ltM_eq, ltI_eq, ltL_eq, bd1_some, bd2_some, ite_bI, if_true, if_false, ite_true, ite_false, eq_self, not_true_eq_false, not_false_eq_true, i10, outside_eq, in_eq, no_eq, eq_true h1, hb, p2, e4, e5, eq_true h2, r2, eq_true h3, eq_false h4, hbal, eq_false h5, eq_false h63, eq_true h6, hM.no]) hn
  have hF2 : F = false := by cases F <;> simp_all
  subst hF2
  have w78 : (lupd A s).1 78 = s.1 78 := lupd_ne (Or.inr (by decide))
  have ft0 : fr [(600, 600, 0)] t (wI t 600 (ix a) p) := fr.rf.wI rfl
  have hg2 : RMo (lupd A s) (wI t 600 (ix a) p) := h.kp lupd_fr ft0 (by decide +kernel) (by decide +kernel)
  obtain ⟨s', t', es, et, hg3, fs, ft, e6⟩ := payx (f := s.1 106 (ix a)) (g := cI 0) (c := p) (i := a) hg2 (by rw [w78]; exact u2) (by omega) (by decide) (by omega) (by decide) p0 (by omega) (fun q => by
    rw [w78]
    rcases h6 with h6 | h6
    · rw [h6] at q; exact absurd q (by decide)
    · have := hl1.mp h6; omega) (fun _ => nb) (by rw [w78]; omega) (by rw [w78, show (cI 0).toInt = 0 from rfl]; omega) (fun q => by rw [q] at a5; exact absurd a5.1 (by decide))
  have s106 : (lupd A s).1 106 = s.1 106 := lupd_ne (Or.inr (by decide))
  have key1 : fItems_frankItem s a = some (wI s' 113 (ix a) p, p) := by
    rcases h6 with h6 | h6
    · have h63 := zC.mpr h6
      simp (disch := decide) only [fItems_frankItem_b88, fItems_frankItem, fM_doFrank_b44, fM_doFrank_b101, fM_doFrank_b84, fM_doFrank, e_itemsHas n2, e_isItem (by rw [n1]; exact n2), n1, m1, e_room, e_ledger, hop, ltM_eq, ltI_eq, ltL_eq, bd1_some, bd2_some, ite_bI, if_true, if_false, ite_true, ite_false, eq_self, not_true_eq_false, not_false_eq_true, i10, outside_eq, in_eq, no_eq, eq_true h1, hb, ix_0, ix_1, ix_2, ix_3, ix_4, ix_5, ix_6, ix_7, ix_8, ix_9, ix_10, ix_11, ix_12, ix_13, ix_14, ix_15, ix_16, ix_17, ix_18, ix_19, ix_20, ix_21, Nat.reduceAdd, wI_c, wI_ne, wL_1, lupd_ne, up1_eq, up1_ne, p1, eq_true h2, r1, eq_true h3, eq_false h4, hv, eq_false h5, eq_true h63, hA.yes, es]
    · by_cases h63 : p ≤ 0
      · simp (disch := decide) only [fItems_frankItem_b88, fItems_frankItem, fM_doFrank_b44, fM_doFrank_b101, fM_doFrank_b84, fM_doFrank, e_itemsHas n2, e_isItem (by rw [n1]; exact n2), n1, m1, e_room, e_ledger, hop, ltM_eq, ltI_eq, ltL_eq, bd1_some, bd2_some, ite_bI, if_true, if_false, ite_true, ite_false, eq_self, not_true_eq_false, not_false_eq_true, i10, outside_eq, in_eq, no_eq, eq_true h1, hb, ix_0, ix_1, ix_2, ix_3, ix_4, ix_5, ix_6, ix_7, ix_8, ix_9, ix_10, ix_11, ix_12, ix_13, ix_14, ix_15, ix_16, ix_17, ix_18, ix_19, ix_20, ix_21, Nat.reduceAdd, wI_c, wI_ne, wL_1, lupd_ne, up1_eq, up1_ne, p1, eq_true h2, r1, eq_true h3, eq_false h4, hv, eq_false h5, eq_true h63, hA.yes, es]
      · simp (disch := decide) only [fItems_frankItem_b88, fItems_frankItem, fM_doFrank_b44, fM_doFrank_b101, fM_doFrank_b84, fM_doFrank, e_itemsHas n2, e_isItem (by rw [n1]; exact n2), n1, m1, e_room, e_ledger, hop, ltM_eq, ltI_eq, ltL_eq, bd1_some, bd2_some, ite_bI, if_true, if_false, ite_true, ite_false, eq_self, not_true_eq_false, not_false_eq_true, i10, outside_eq, in_eq, no_eq, eq_true h1, hb, ix_0, ix_1, ix_2, ix_3, ix_4, ix_5, ix_6, ix_7, ix_8, ix_9, ix_10, ix_11, ix_12, ix_13, ix_14, ix_15, ix_16, ix_17, ix_18, ix_19, ix_20, ix_21, Nat.reduceAdd, wI_c, wI_ne, wL_1, lupd_ne, up1_eq, up1_ne, p1, eq_true h2, r1, eq_true h3, eq_false h4, hv, eq_false h5, eq_false h63, eq_true h6, hA.yes, es]
  have key2 : fM_doFrank t a = some (t', p) := by
    rcases h6 with h6 | h6
    · have h63 := zC.mpr h6
      simp (disch := decide) only [fItems_frankItem_b88, fItems_frankItem, fM_doFrank_b44, fM_doFrank_b101, fM_doFrank_b84, fM_doFrank, e_itemsHas n2, e_isItem (by rw [n1]; exact n2), n1, m1, e_room, e_ledger, hop, ltM_eq, ltI_eq, ltL_eq, bd1_some, bd2_some, ite_bI, if_true, if_false, ite_true, ite_false, eq_self, not_true_eq_false, not_false_eq_true, i10, outside_eq, in_eq, no_eq, eq_true h1, hb, ix_0, ix_1, ix_2, ix_3, ix_4, ix_5, ix_6, ix_7, ix_8, ix_9, ix_10, ix_11, ix_12, ix_13, ix_14, ix_15, ix_16, ix_17, ix_18, ix_19, ix_20, ix_21, Nat.reduceAdd, wI_c, wI_ne, wL_1, lupd_ne, up1_eq, up1_ne, p2, e4, e5, eq_true h2, r2, eq_true h3, eq_false h4, hbal, eq_false h5, eq_true h63, eq_true l0, hM.yes, et]
    · by_cases h63 : p ≤ 0
      · simp (disch := decide) only [fItems_frankItem_b88, fItems_frankItem, fM_doFrank_b44, fM_doFrank_b101, fM_doFrank_b84, fM_doFrank, e_itemsHas n2, e_isItem (by rw [n1]; exact n2), n1, m1, e_room, e_ledger, hop, ltM_eq, ltI_eq, ltL_eq, bd1_some, bd2_some, ite_bI, if_true, if_false, ite_true, ite_false, eq_self, not_true_eq_false, not_false_eq_true, i10, outside_eq, in_eq, no_eq, eq_true h1, hb, ix_0, ix_1, ix_2, ix_3, ix_4, ix_5, ix_6, ix_7, ix_8, ix_9, ix_10, ix_11, ix_12, ix_13, ix_14, ix_15, ix_16, ix_17, ix_18, ix_19, ix_20, ix_21, Nat.reduceAdd, wI_c, wI_ne, wL_1, lupd_ne, up1_eq, up1_ne, p2, e4, e5, eq_true h2, r2, eq_true h3, eq_false h4, hbal, eq_false h5, eq_true h63, eq_true l0, hM.yes, et]
      · simp (disch := decide) only [fItems_frankItem_b88, fItems_frankItem, fM_doFrank_b44, fM_doFrank_b101, fM_doFrank_b84, fM_doFrank, e_itemsHas n2, e_isItem (by rw [n1]; exact n2), n1, m1, e_room, e_ledger, hop, ltM_eq, ltI_eq, ltL_eq, bd1_some, bd2_some, ite_bI, if_true, if_false, ite_true, ite_false, eq_self, not_true_eq_false, not_false_eq_true, i10, outside_eq, in_eq, no_eq, eq_true h1, hb, ix_0, ix_1, ix_2, ix_3, ix_4, ix_5, ix_6, ix_7, ix_8, ix_9, ix_10, ix_11, ix_12, ix_13, ix_14, ix_15, ix_16, ix_17, ix_18, ix_19, ix_20, ix_21, Nat.reduceAdd, wI_c, wI_ne, wL_1, lupd_ne, up1_eq, up1_ne, p2, e4, e5, eq_true h2, r2, eq_true h3, eq_false h4, hbal, eq_false h5, eq_false h63, eq_true h6, hM.yes, et]
  rw [key1, key2, ok_some, ok_some]
  refine ⟨rfl, Or.inr ⟨?_, rfl, (lgS.fr fs (by decide +kernel) (by decide)).wI (by decide) (by decide), hg3.kp (F := [(113, 113, 0)]) (fr.rf.wI rfl) rf_fr (by decide +kernel) (by decide +kernel), ?_⟩⟩
  · rw [(ft.1 549 15 rfl).1, (ft0.1 549 15 rfl).1]; exact h0
  · exact ((hq.keep lupd_fr rf_fr (by decide +kernel) (by decide +kernel)).frk (k := ix a) (p := p) ⟨by omega, by omega⟩).keep fs.two ft (by decide +kernel) (by decide +kernel)
theorem a_claim {a b : Int32} (hA : AdmC s F A) (hM : FulM t F) (h0 : t.1 549 15 = 0) (h : RMo s t) (hq : RIr s t) (hi : RIt s t) (hu : RCu s t) : Ok (fItems_claimFor s a b) fun x => Ok (fM_doClaim t a b) fun y => AP (fun s t => RMo s t ∧ RIr s t) (fun s t => RMo s t ∧ RIr s t) F A s x y := by
  obtain ⟨hg, ho, hr⟩ := id h
  obtain ⟨⟨u1, u2, u3⟩, -⟩ := id hu
  obtain ⟨⟨m1, m2, m3⟩, -⟩ := id hg
  obtain ⟨⟨n1, n2, n3⟩, g1, -, -, g4, g5, -, -, -, -, -, -, -, -, b5, -⟩ := id hi
  obtain ⟨-, -, -, -, -, -, q7, -, -, -, -, -, -, q8⟩ := id hq
  have hn : (fun s t => RMo s t ∧ RIr s t) s (wI t 549 15 (cI 1)) := ⟨⟨hg.keep rf_fr no_fr rfl rfl, ho.keep rf_fr no_fr rfl rfl, hr.keep rf_fr no_fr rfl rfl⟩, hq.keep rf_fr no_fr rfl rfl⟩
  have hop := ho.opnE
  by_cases h1 : Has a (s.1 100 5)
  rotate_left
  · exact sim_no (c := cI (-101)) (by simp only [fItems_claimFor, fM_doClaim_b64, fM_doClaim_b90, fM_doClaim_b111, fM_doClaim, fItems_is, fItems_serves, fMath_min, e_itemsHas n2, e_isItem (by rw [n1]; exact n2), n1, m1, e_room, e_ledger, hop, ltM_eq, ltI_eq, ltL_eq, bd1_some, bd2_some, ite_bI, if_true, if_false, ite_true, ite_false, eq_self, not_true_eq_false, not_false_eq_true, i10, outside_eq, in_eq, no_eq, eq_false h1]) (by simp only [fItems_claimFor, fM_doClaim_b64, fM_doClaim_b90, fM_doClaim_b111, fM_doClaim, fItems_is, fItems_serves, fMath_min, e_itemsHas n2, e_isItem (by rw [n1]; exact n2), n1, m1, e_room, e_ledger, hop, ltM_eq, ltI_eq, ltL_eq, bd1_some, bd2_some, ite_bI, if_true, if_false, ite_true, ite_false, eq_self, not_true_eq_false, not_false_eq_true, i10, outside_eq, in_eq, no_eq, eq_false h1]) hn
  by_cases h2 : InR b (cI 1) (cI 100000)
  rotate_left
  · exact sim_no (c := cI (-102)) (by simp only [fItems_claimFor, fM_doClaim_b64, fM_doClaim_b90, fM_doClaim_b111, fM_doClaim, fItems_is, fItems_serves, fMath_min, e_itemsHas n2, e_isItem (by rw [n1]; exact n2), n1, m1, e_room, e_ledger, hop, ltM_eq, ltI_eq, ltL_eq, bd1_some, bd2_some, ite_bI, if_true, if_false, ite_true, ite_false, eq_self, not_true_eq_false, not_false_eq_true, i10, outside_eq, in_eq, no_eq, eq_true h1, eq_false h2]) (by simp only [fItems_claimFor, fM_doClaim_b64, fM_doClaim_b90, fM_doClaim_b111, fM_doClaim, fItems_is, fItems_serves, fMath_min, e_itemsHas n2, e_isItem (by rw [n1]; exact n2), n1, m1, e_room, e_ledger, hop, ltM_eq, ltI_eq, ltL_eq, bd1_some, bd2_some, ite_bI, if_true, if_false, ite_true, ite_false, eq_self, not_true_eq_false, not_false_eq_true, i10, outside_eq, in_eq, no_eq, eq_true h1, eq_false h2]) hn
  have hb : inb a 300 = true := h1.inb n3
  have w := h1.ix
  have e1 := g1 _ w
  have e4 := g4 _ w
  have e5 := g5 _ w
  have e7 := q7 _ w
  have a5 := b5 _ w
  have a7 := q8 _ w
  have z10 : ¬ (cI 1 = 0) := by decide
  have z00 : cI 0 = 0 := rfl
  by_cases h3 : s.1 102 (ix a) = cI 8
  rotate_left
  · exact sim_no (c := cI (-103)) (by simp only [fItems_claimFor, fM_doClaim_b64, fM_doClaim_b90, fM_doClaim_b111, fM_doClaim, fItems_is, fItems_serves, fMath_min, e_itemsHas n2, e_isItem (by rw [n1]; exact n2), n1, m1, e_room, e_ledger, hop, ltM_eq, ltI_eq, ltL_eq, bd1_some, bd2_some, ite_bI, if_true, if_false, ite_true, ite_false, eq_self, not_true_eq_false, not_false_eq_true, i10, outside_eq, in_eq, no_eq, eq_true h1, eq_true h2, hb, ix_0, ix_1, ix_2, ix_3, ix_4, ix_5, ix_6, ix_7, ix_8, ix_9, ix_10, ix_11, ix_12, ix_13, ix_14, ix_15, ix_16, ix_17, ix_18, ix_19, ix_20, ix_21, Nat.reduceAdd, wI_c, wI_ne, wL_1, lupd_ne, up1_eq, up1_ne, eq_false h3, eq_true z00]) (by simp only [fItems_claimFor, fM_doClaim_b64, fM_doClaim_b90, fM_doClaim_b111, fM_doClaim, fItems_is, fItems_serves, fMath_min, e_itemsHas n2, e_isItem (by rw [n1]; exact n2), n1, m1, e_room, e_ledger, hop, ltM_eq, ltI_eq, ltL_eq, bd1_some, bd2_some, ite_bI, if_true, if_false, ite_true, ite_false, eq_self, not_true_eq_false, not_false_eq_true, i10, outside_eq, in_eq, no_eq, eq_true h1, eq_true h2, hb, e1, eq_false h3]) hn
  by_cases h4 : s.1 105 (ix a) &&& cI 1 = 0
  · exact sim_no (c := cI (-103)) (by simp only [fItems_claimFor, fM_doClaim_b64, fM_doClaim_b90, fM_doClaim_b111, fM_doClaim, fItems_is, fItems_serves, fMath_min, e_itemsHas n2, e_isItem (by rw [n1]; exact n2), n1, m1, e_room, e_ledger, hop, ltM_eq, ltI_eq, ltL_eq, bd1_some, bd2_some, ite_bI, if_true, if_false, ite_true, ite_false, eq_self, not_true_eq_false, not_false_eq_true, i10, outside_eq, in_eq, no_eq, eq_true h1, eq_true h2, hb, ix_0, ix_1, ix_2, ix_3, ix_4, ix_5, ix_6, ix_7, ix_8, ix_9, ix_10, ix_11, ix_12, ix_13, ix_14, ix_15, ix_16, ix_17, ix_18, ix_19, ix_20, ix_21, Nat.reduceAdd, wI_c, wI_ne, wL_1, lupd_ne, up1_eq, up1_ne, eq_true h3, eq_false z10, eq_true h4, eq_true z00]) (by simp only [fItems_claimFor, fM_doClaim_b64, fM_doClaim_b90, fM_doClaim_b111, fM_doClaim, fItems_is, fItems_serves, fMath_min, e_itemsHas n2, e_isItem (by rw [n1]; exact n2), n1, m1, e_room, e_ledger, hop, ltM_eq, ltI_eq, ltL_eq, bd1_some, bd2_some, ite_bI, if_true, if_false, ite_true, ite_false, eq_self, not_true_eq_false, not_false_eq_true, i10, outside_eq, in_eq, no_eq, eq_true h1, eq_true h2, hb, e1, eq_true h3, e4, eq_true h4]) hn
  by_cases h5 : s.1 120 (ix a) = cI 1
  · have h59 : ¬ s.1 120 (ix a) = 0 := by rw [h5]; decide
    exact sim_no (c := cI (-103)) (by simp only [fItems_claimFor, fM_doClaim_b64, fM_doClaim_b90, fM_doClaim_b111, fM_doClaim, fItems_is, fItems_serves, fMath_min, e_itemsHas n2, e_isItem (by rw [n1]; exact n2), n1, m1, e_room, e_ledger, hop, ltM_eq, ltI_eq, ltL_eq, bd1_some, bd2_some, ite_bI, if_true, if_false, ite_true, ite_false, eq_self, not_true_eq_false, not_false_eq_true, i10, outside_eq, in_eq, no_eq, eq_true h1, eq_true h2, hb, ix_0, ix_1, ix_2, ix_3, ix_4, ix_5, ix_6, ix_7, ix_8, ix_9, ix_10, ix_11, ix_12, ix_13, ix_14, ix_15, ix_16, ix_17, ix_18, ix_19, ix_20, ix_21, Nat.reduceAdd, wI_c, wI_ne, wL_1, lupd_ne, up1_eq, up1_ne, eq_true h3, eq_false z10, eq_false h4, eq_true h5]) (by simp only [fItems_claimFor, fM_doClaim_b64, fM_doClaim_b90, fM_doClaim_b111, fM_doClaim, fItems_is, fItems_serves, fMath_min, e_itemsHas n2, e_isItem (by rw [n1]; exact n2), n1, m1, e_room, e_ledger, hop, ltM_eq, ltI_eq, ltL_eq, bd1_some, bd2_some, ite_bI, if_true, if_false, ite_true, ite_false, eq_self, not_true_eq_false, not_false_eq_true, i10, outside_eq, in_eq, no_eq, eq_true h1, eq_true h2, hb, e1, eq_true h3, e4, eq_false h4, e7, eq_false h59]) hn
  have h59 : s.1 120 (ix a) = 0 := by
    have z : ¬ (s.1 120 (ix a)).toInt = 1 := fun u => h5 (by rw [eq_i]; exact u)
    rw [eq_i, i32_0]; omega
  by_cases h6 : s.1 78 6 + cI 1 + s.1 78 9 ≤ cI 2000
  rotate_left
  · exact sim_no (c := cI (-104)) (by simp only [fItems_claimFor, fM_doClaim_b64, fM_doClaim_b90, fM_doClaim_b111, fM_doClaim, fItems_is, fItems_serves, fMath_min, e_itemsHas n2, e_isItem (by rw [n1]; exact n2), n1, m1, e_room, e_ledger, hop, ltM_eq, ltI_eq, ltL_eq, bd1_some, bd2_some, ite_bI, if_true, if_false, ite_true, ite_false, eq_self, not_true_eq_false, not_false_eq_true, i10, outside_eq, in_eq, no_eq, eq_true h1, eq_true h2, hb, ix_0, ix_1, ix_2, ix_3, ix_4, ix_5, ix_6, ix_7, ix_8, ix_9, ix_10, ix_11, ix_12, ix_13, ix_14, ix_15, ix_16, ix_17, ix_18, ix_19, ix_20, ix_21, Nat.reduceAdd, wI_c, wI_ne, wL_1, lupd_ne, up1_eq, up1_ne, eq_true h3, eq_false z10, eq_false h4, eq_false h5, eq_false h6]) (by simp only [fItems_claimFor, fM_doClaim_b64, fM_doClaim_b90, fM_doClaim_b111, fM_doClaim, fItems_is, fItems_serves, fMath_min, e_itemsHas n2, e_isItem (by rw [n1]; exact n2), n1, m1, e_room, e_ledger, hop, ltM_eq, ltI_eq, ltL_eq, bd1_some, bd2_some, ite_bI, if_true, if_false, ite_true, ite_false, eq_self, not_true_eq_false, not_false_eq_true, i10, outside_eq, in_eq, no_eq, eq_true h1, eq_true h2, hb, e1, eq_true h3, e4, eq_false h4, e7, eq_true h59, eq_false h6]) hn
  by_cases hF : F = true
  · subst hF
    exact sim_no (c := cI (-104)) (by simp only [fItems_claimFor, fM_doClaim_b64, fM_doClaim_b90, fM_doClaim_b111, fM_doClaim, fItems_is, fItems_serves, fMath_min, e_itemsHas n2, e_isItem (by rw [n1]; exact n2), n1, m1, e_room, e_ledger, hop, ltM_eq, ltI_eq, ltL_eq, bd1_some, bd2_some, ite_bI, if_true, if_false, ite_true, ite_false, eq_self, not_true_eq_false, not_false_eq_true, i10, outside_eq, in_eq, no_eq, eq_true h1, eq_true h2, hb, ix_0, ix_1, ix_2, ix_3, ix_4, ix_5, ix_6, ix_7, ix_8, ix_9, ix_10, ix_11, ix_12, ix_13, ix_14, ix_15, ix_16, ix_17, ix_18, ix_19, ix_20, ix_21, Nat.reduceAdd, wI_c, wI_ne, wL_1, lupd_ne, up1_eq, up1_ne, eq_true h3, eq_false z10, eq_false h4, eq_false h5, eq_true h6, hA.no]) (by simp only [fItems_claimFor, fM_doClaim_b64, fM_doClaim_b90, fM_doClaim_b111, fM_doClaim, fItems_is, fItems_serves, fMath_min, e_itemsHas n2, e_isItem (by rw [n1]; exact n2), n1, m1, e_room, e_ledger, hop, ltM_eq, ltI_eq, ltL_eq, bd1_some, bd2_some, ite_bI, if_true, if_false, ite_true, ite_false, eq_self, not_true_eq_false, not_false_eq_true, i10, outside_eq, in_eq, no_eq, eq_true h1, eq_true h2, hb, e1, eq_true h3, e4, eq_false h4, e7, eq_true h59, eq_true h6, hM.no]) hn
  have hF2 : F = false := by cases F <;> simp_all
  subst hF2
  have hl1 := (ho.room hg (a := cI 1) (by decide) (by decide)).mp h6
  rw [show (cI 1).toInt = 1 from rfl] at hl1
  have b1 : 1 ≤ b.toInt := h2.1
  have b2 : b.toInt ≤ 100000 := h2.2
  have c5 : (cI 5000).toInt = 5000 := rfl
  have mn : ∃ p : Int32, (if b ≤ cI 5000 then some b else some (cI 5000)) = some p ∧ 1 ≤ p.toInt ∧ p.toInt ≤ 5000 := by
    by_cases q : b ≤ cI 5000
    · refine ⟨b, if_pos q, b1, ?_⟩
      rw [le_i] at q; omega
    · exact ⟨cI 5000, if_neg q, by omega, by omega⟩
  obtain ⟨p, pe, p1, p2⟩ := mn
  have s106 : (lupd A s).1 106 = s.1 106 := lupd_ne (Or.inr (by decide))
  have w78 : (lupd A s).1 78 = s.1 78 := lupd_ne (Or.inr (by decide))
  have ft0 : fr [(603, 603, 0)] t (wI t 603 (ix a) (cI 1)) := fr.rf.wI rfl
  have hg2 : RMo (lupd A s) (wI t 603 (ix a) (cI 1)) := h.kp lupd_fr ft0 (by decide +kernel) (by decide +kernel)
  obtain ⟨s', t', es, et, hg3, fs, ft, e6⟩ := payx (f := cI 2) (g := s.1 106 (ix a)) (c := p) (i := a) hg2 (by rw [w78]; exact u2) (by decide) (by omega) (by decide) (by omega) (by omega) (by omega) (fun q => by
    rw [w78]; omega) (fun q => absurd q (by decide)) (by rw [w78, show (cI 2).toInt = 2 from rfl]; omega) (by rw [w78]; omega) (fun q => by rw [← q] at a5; exact absurd a5.1 (by decide))
  have and1 : cI 1 &&& 1 = cI 1 := by decide
  have key1 : fItems_claimFor s a b = some (wI s' 120 (ix a) (cI 1), p) := by
    simp (disch := decide) only [fItems_claimFor, fM_doClaim_b64, fM_doClaim_b90, fM_doClaim_b111, fM_doClaim, fItems_is, fItems_serves, fMath_min, e_itemsHas n2, e_isItem (by rw [n1]; exact n2), n1, m1, e_room, e_ledger, hop, ltM_eq, ltI_eq, ltL_eq, bd1_some, bd2_some, ite_bI, if_true, if_false, ite_true, ite_false, eq_self, not_true_eq_false, not_false_eq_true, i10, outside_eq, in_eq, no_eq, eq_true h1, eq_true h2, hb, ix_0, ix_1, ix_2, ix_3, ix_4, ix_5, ix_6, ix_7, ix_8, ix_9, ix_10, ix_11, ix_12, ix_13, ix_14, ix_15, ix_16, ix_17, ix_18, ix_19, ix_20, ix_21, Nat.reduceAdd, wI_c, wI_ne, wL_1, lupd_ne, up1_eq, up1_ne, eq_true h3, eq_false z10, eq_false h4, eq_false h5, eq_true h6, hA.yes, pe, es]
  have key2 : fM_doClaim t a b = some (t', p) := by
    by_cases q : b ≤ cI 5000
    · rw [if_pos q] at pe
      obtain rfl := Option.some.inj pe
      simp (disch := decide) only [fItems_claimFor, fM_doClaim_b64, fM_doClaim_b90, fM_doClaim_b111, fM_doClaim, fItems_is, fItems_serves, fMath_min, e_itemsHas n2, e_isItem (by rw [n1]; exact n2), n1, m1, e_room, e_ledger, hop, ltM_eq, ltI_eq, ltL_eq, bd1_some, bd2_some, ite_bI, if_true, if_false, ite_true, ite_false, eq_self, not_true_eq_false, not_false_eq_true, i10, outside_eq, in_eq, no_eq, eq_true h1, eq_true h2, hb, ix_0, ix_1, ix_2, ix_3, ix_4, ix_5, ix_6, ix_7, ix_8, ix_9, ix_10, ix_11, ix_12, ix_13, ix_14, ix_15, ix_16, ix_17, ix_18, ix_19, ix_20, ix_21, Nat.reduceAdd, wI_c, wI_ne, wL_1, lupd_ne, up1_eq, up1_ne, e1, eq_true h3, e4, e5, eq_false h4, e7, eq_true h59, eq_true h6, hM.yes, eq_true q, and1, et]
    · rw [if_neg q] at pe
      obtain rfl := Option.some.inj pe
      simp (disch := decide) only [fItems_claimFor, fM_doClaim_b64, fM_doClaim_b90, fM_doClaim_b111, fM_doClaim, fItems_is, fItems_serves, fMath_min, e_itemsHas n2, e_isItem (by rw [n1]; exact n2), n1, m1, e_room, e_ledger, hop, ltM_eq, ltI_eq, ltL_eq, bd1_some, bd2_some, ite_bI, if_true, if_false, ite_true, ite_false, eq_self, not_true_eq_false, not_false_eq_true, i10, outside_eq, in_eq, no_eq, eq_true h1, eq_true h2, hb, ix_0, ix_1, ix_2, ix_3, ix_4, ix_5, ix_6, ix_7, ix_8, ix_9, ix_10, ix_11, ix_12, ix_13, ix_14, ix_15, ix_16, ix_17, ix_18, ix_19, ix_20, ix_21, Nat.reduceAdd, wI_c, wI_ne, wL_1, lupd_ne, up1_eq, up1_ne, e1, eq_true h3, e4, e5, eq_false h4, e7, eq_true h59, eq_true h6, hM.yes, eq_false q, and1, et]
  rw [key1, key2, ok_some, ok_some]
  refine ⟨rfl, Or.inr ⟨?_, rfl, (lgS.fr fs (by decide +kernel) (by decide)).wI (by decide) (by decide), hg3.kp (F := [(120, 120, 0)]) (fr.rf.wI rfl) rf_fr (by decide +kernel) (by decide +kernel), ?_⟩⟩
  · rw [(ft.1 549 15 rfl).1, (ft0.1 549 15 rfl).1]; exact h0
  · exact ((hq.keep lupd_fr rf_fr (by decide +kernel) (by decide +kernel)).clm (k := ix a) (p := cI 1) (by decide)).keep fs.two ft (by decide +kernel) (by decide +kernel)
end
