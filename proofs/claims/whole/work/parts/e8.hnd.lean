/-! ===== LEVEL 3: the acts hand and pickUp ===== -/
section
variable {s t : ev_M} {F : Bool} {A : Nat → Nat → Int32} {n : Nat}
theorem RV.kp {s' t' : ev_M} {F G : List (Nat × (Nat × Nat))} (h : RV n s t) (hs : fr F s s') (ht : fr G t t') (d1 : ((nof F RIt_C && (nof F RIr_C && (nof F RCo_C && nof F RSx_C))) && ((nof F REv_C && nof F RNt_C) && (nof F RRw_C && (nof F RBc_C && nof F RBx_C)))) = true) (d2 : ((nof G RIt_M && (nof G RIr_M && (nof G RCo_M && nof G RSx_M))) && ((nof G REv_M && nof G RNt_M) && (nof G RRw_M && (nof G RBc_M && nof G RBx_M)))) = true) : RV n s' t' := by
  obtain ⟨a1, a2⟩ := (Bool.and_eq_true _ _).mp d1
  obtain ⟨a3, a4⟩ := (Bool.and_eq_true _ _).mp a2
  obtain ⟨b1, b2⟩ := (Bool.and_eq_true _ _).mp d2
  obtain ⟨b3, b4⟩ := (Bool.and_eq_true _ _).mp b2
  exact ⟨h.1.keep hs ht a1 b1, h.2.1.keep hs ht a3 b3, h.2.2.keep hs ht a4 b4⟩
/-- how many bookings -/
def nbk (p c : Int32) : Int32 := (if p ≤ 0 then cI 0 else cI 1) + (if c ≤ 0 then cI 0 else cI 1)
theorem nbk_t {p c : Int32} (hp : 0 ≤ p.toInt) (hc : 0 ≤ c.toInt) : (nbk p c).toInt = (if p = 0 then 0 else 1) + (if c = 0 then 0 else 1) := by
  have zp : p ≤ 0 ↔ p = 0 := by rw [le_i, eq_i, i32_0]; omega
  have zc : c ≤ 0 ↔ c = 0 := by rw [le_i, eq_i, i32_0]; omega
  unfold nbk
  by_cases h1 : p = 0
  · by_cases h2 : c = 0
    · rw [if_pos (zp.mpr h1), if_pos (zc.mpr h2), if_pos h1, if_pos h2]; rfl
    · rw [if_pos (zp.mpr h1), if_neg (fun q => h2 (zc.mp q)), if_pos h1, if_neg h2]; rfl
  · by_cases h2 : c = 0
    · rw [if_neg (fun q => h1 (zp.mp q)), if_pos (zc.mpr h2), if_neg h1, if_pos h2]; rfl
    · rw [if_neg (fun q => h1 (zp.mp q)), if_neg (fun q => h2 (zc.mp q)), if_neg h1, if_neg h2]; rfl
theorem hand_core {a x : Int32} (hA : AdmC s F A) (hM : FulM t F) (h0 : t.1 549 15 = 0) (h : RV n s t) (hm : RMo s t) (hT : RTa s t) (hcu : RCu s t) (ht : RTim s t) (hg : RBg s t) (hl : RLk s t) (hn9 : n < 2147483646) (h1 : Has a (s.1 100 5)) (h2 : ¬ s.1 102 (ix a) = cI 2) (h3 : ¬ s.1 102 (ix a) = cI 3) (h4 : s.1 117 (ix a) = cI (-1)) : Ok (fItems_handOver_b106 s a x) fun q => Ok (fM_handOver_b160 t a x) fun y => AP (fun s t => RV n s t ∧ RMo s t) (fun s t => RV (n + 1) s t ∧ RMo s t) F A s q y := by
  obtain ⟨⟨n1, n2, n3⟩, -, -, -, -, g5, -, -, -, -, -, -, -, -, b5, -⟩ := id h.1.1
  obtain ⟨hgl, ho, hr⟩ := id hm
  obtain ⟨⟨m1, m2, m3⟩, -⟩ := id hgl
  obtain ⟨⟨u1, u2, u3⟩, -⟩ := id hcu
  have hb : inb a 300 = true := h1.inb n3
  have w := h1.ix
  have e5 := g5 _ w
  have a5 := b5 _ w
  have hn : (fun s t => RV n s t ∧ RMo s t) s (wI t 549 15 (cI 1)) := ⟨h.no, hm.kp rf_fr no_fr (by decide +kernel) (by decide +kernel)⟩
  have hop := ho.opnE
  obtain ⟨p, c, d1, d2, d3, d4, p0, p1, c0, c1⟩ := hT.due h.1.1 h.1.2.1 h1
  have nt := nbk_t p0 c0
  have nb0 : 0 ≤ (nbk p c).toInt := by rw [nt]; split <;> split <;> omega
  have nb2 : (nbk p c).toInt ≤ 2 := by rw [nt]; split <;> split <;> omega
  have hroom := ho.room hgl nb0 nb2
  have hr' : (s.1 78 6).toInt + (s.1 78 9).toInt ≤ 2000 := hr
  have kc : fItems_handOver_b106 s a x = if x = p + c then (if nbk p c ≤ 0 then fItems_handOver_b173 s a p c else if s.1 78 6 + nbk p c + s.1 78 9 ≤ cI 2000 then fItems_handOver_b173 s a p c else some (s, cI (-104))) else some (s, cI (-114)) := by
    unfold nbk
    rcases Classical.propComplete (p ≤ 0) with z1 | z1 <;> rcases Classical.propComplete (c ≤ 0) with z2 | z2 <;> simp only [fItems_handOver_b106, fItems_handOver_b143, fItems_handOver_b153, d1, d3, bd1_some, z1, z2, if_true, if_false, ltI_eq, e_room, ite_bI]
  have km : fM_handOver_b160 t a x = if x = p + c then (if s.1 78 6 + nbk p c + s.1 78 9 ≤ cI 2000 then (bd1 (fM_full t) fun v9 => if v9 = 0 then (bd1 (fM_leaves t a) fun s10 => bd1 (fM_comes s10 a (cI 5)) fun s11 => bd1 (fM_pay s11 (cI 1) (cI 0) p a) fun s12 => if inb a 300 = true then bd1 (fM_pay s12 (cI 1) (s12.1 587 (ix a)) c a) fun s13 => some (s13, cI 1) else none) else some (wI t 549 15 (cI 1), cI (-104))) else some (wI t 549 15 (cI 1), cI (-104))) else some (wI t 549 15 (cI 1), cI (-114)) := by
    unfold nbk
    rcases Classical.propComplete (p ≤ 0) with z1 | z1 <;> rcases Classical.propComplete (c ≤ 0) with z2 | z2 <;> simp only [fM_handOver_b160, fM_handOver_b202, fM_handOver_b212, fM_handOver_b230, d2, d4, bd1_some, z1, z2, if_true, if_false, hop, e_ledger, ite_bI, m1, no_eq, bd2_some, ite_not]
  by_cases k1 : x = p + c
  rotate_left
  · exact sim_no (c := cI (-114)) (by rw [kc, if_neg k1]) (by rw [km, if_neg k1]) hn
  rw [if_pos k1] at kc km
  by_cases k2 : s.1 78 6 + nbk p c + s.1 78 9 ≤ cI 2000
  rotate_left
  · have k3 : ¬ nbk p c ≤ 0 := fun q => k2 (hroom.mpr (by rw [le_i, i32_0] at q; omega))
    exact sim_no (c := cI (-104)) (by rw [kc, if_neg k3, if_neg k2]) (by rw [km, if_neg k2]) hn
  rw [if_pos k2, ite_self] at kc
  rw [if_pos k2] at km
  have hl1 := hroom.mp k2
  by_cases hF : F = true
  · subst hF
    exact sim_no (c := cI (-104)) (by rw [kc]; simp only [fItems_handOver_b173, hA.no, bd2_some, if_true]) (by rw [km]; simp only [hM.no, bd1_some, i10, if_false]) hn
  have hF2 : F = false := by cases F <;> simp_all
  subst hF2
  have hB : RB s (lvS t (ix a)) := RB.lv2 h w h2 h3 h4
  have s100 : (lupd A s).1 100 = s.1 100 := lupd_ne (Or.inr (by decide))
  have s449 : (lupd A s).1 449 = s.1 449 := lupd_ne (Or.inr (by decide))
  have s125 : (lupd A s).1 125 = s.1 125 := lupd_ne (Or.inr (by decide))
  have s78 : (lupd A s).1 78 = s.1 78 := lupd_ne (Or.inr (by decide))
  have s106 : (lupd A s).1 106 = s.1 106 := lupd_ne (Or.inr (by decide))
  obtain ⟨s1, t1, v1, v2, v3, v4, v5, v6, -⟩ := go_o (s := lupd A s) (t := t) (i := a) (c := cI 5) h.lu.1 h.lu.2.1 (hB.keep lupd_fr rf_fr (by decide +kernel) (by decide +kernel)) (hcu.keep lupd_fr rf_fr rfl rfl) (ht.keep lupd_fr rf_fr rfl rfl) hn9 (by rw [s100]; exact h1) (by rw [s449]; exact hg.1.2.1) (by rw [s125]; exact hl.1.2.1) (by decide) (by decide) (by decide) (by decide) (fun q => by rcases q with q | q <;> exact absurd q (by decide))
  have g1 : fr (F_M_comes ++ F_M_leaves) t t1 := (lvS_fr.mono (by decide +kernel)).tr (v6.mono (by decide +kernel))
  have r0 : RMo s1 t1 := (hm.kp lupd_fr rf_fr (by decide +kernel) (by decide +kernel)).kp v5 g1 (by decide +kernel) (by decide +kernel)
  have x78 : s1.1 78 = s.1 78 := by rw [(nof_c v5 (L := [(78, 0)]) (by decide +kernel) (c := 78) rfl).1, s78]
  have x106 : s1.1 106 = s.1 106 := by rw [(nof_c v5 (L := [(106, 0)]) (by decide +kernel) (c := 106) rfl).1, s106]
  have y587 : t1.1 587 = t.1 587 := (nof_c g1 (L := [(587, 0)]) (by decide +kernel) (c := 587) rfl).1
  rw [nt] at hl1
  have o9 := ho.nn
  obtain ⟨s2, t2, w1, w2, w3, w4, w5, w6⟩ := payx (f := cI 1) (g := cI 0) (c := p) (i := a) r0 (by rw [x78]; exact u2) (by decide) (by decide) (by decide) (by decide) p0 (by omega) (fun q => by
    rw [x78]
    have : ¬ p = 0 := fun z => by rw [z] at q; exact absurd q (by decide)
    rw [if_neg this] at hl1
    split at hl1 <;> omega) (fun q => absurd q (by decide)) (by rw [x78, show (cI 1).toInt = 1 from rfl]; omega) (by rw [x78, show (cI 0).toInt = 0 from rfl]; omega) (by decide)
  have y78_3 : s2.1 78 3 = s.1 78 3 := by rw [(w4.1 78 3 rfl).1, x78]
  have y78_9 : s2.1 78 9 = s.1 78 9 := by rw [(w4.1 78 9 rfl).1, x78]
  have y106 : s2.1 106 (ix a) = s.1 106 (ix a) := by rw [(nof_c w4 (L := [(106, 0)]) (by decide +kernel) (c := 106) rfl).1, x106]
  have z587 : t2.1 587 (ix a) = s.1 106 (ix a) := by rw [(nof_c w5 (L := [(587, 0)]) (by decide +kernel) (c := 587) rfl).1, y587]; exact e5
  obtain ⟨s3, t3, x1, x2, x3, x4, x5, x6⟩ := payx (f := cI 1) (g := s.1 106 (ix a)) (c := c) (i := a) w3 (by rw [y78_3]; exact u2) (by decide) (by omega) (by decide) (by omega) c0 (by omega) (fun q => by
    rw [w6, x78, y78_9]
    have : ¬ c = 0 := fun z => by rw [z] at q; exact absurd q (by decide)
    rw [if_neg this] at hl1
    omega) (fun q => absurd q (by decide)) (by rw [y78_3, show (cI 1).toInt = 1 from rfl]; omega) (by rw [y78_3]; omega) (fun q => by rw [← q] at a5; exact absurd a5.1 (by decide))
  rw [kc, km]
  simp (disch := decide) only [fItems_handOver_b173, hA.yes, hM.yes, bd1_some, bd2_some, i10, if_false, if_true, v1, v2, v3, w1, w2, hb, ix_0, ix_1, ix_2, ix_3, ix_4, ix_5, ix_6, ix_7, ix_8, ix_9, ix_10, ix_11, ix_12, ix_13, ix_14, ix_15, ix_16, ix_17, ix_18, ix_19, ix_20, ix_21, Nat.reduceAdd, wI_c, wI_ne, wL_1, lupd_ne, up1_eq, up1_ne, y106, z587, x1, x2, ok_some]
  refine ⟨rfl, Or.inr ⟨?_, rfl, ?_, (v4.kp w4 w5 (by decide +kernel) (by decide +kernel)).kp x4 x5 (by decide +kernel) (by decide +kernel), x3⟩⟩
  · rw [(x5.1 549 15 rfl).1, (w5.1 549 15 rfl).1, (g1.1 549 15 rfl).1]; exact h0
  · exact lgS.fr (F := F_Items_come ++ F_Money_transfer) ((v5.mono (by decide +kernel)).tr ((w4.mono (by decide +kernel)).tr (x4.mono (by decide +kernel)))) (by decide +kernel) (by decide)
theorem hand_go {a b c d : Int32} {R : Prop} [Decidable R] {fc fm : Option (ev_M × Int32)} (hA : AdmC s F A) (hM : FulM t F) (h0 : t.1 549 15 = 0) (h : RV n s t) (hm : RMo s t) (hT : RTa s t) (hcu : RCu s t) (ht : RTim s t) (hg : RBg s t) (hl : RLk s t) (hn9 : n < 2147483646) (h1 : Has a (s.1 100 5)) (hR : R → ¬ s.1 102 (ix a) = cI 2 ∧ ¬ s.1 102 (ix a) = cI 3 ∧ s.1 117 (ix a) = cI (-1)) (kc : fc = fItems_handOver s a b c d (bI R)) (km : fm = if InR b (cI 1) (cI 99) then (if InR c (cI 0) (cI 9999) then (if InR d (cI 0) (cI 1000000) then (if R then fM_handOver_b101 t a b c d else fM_handOver_b94 t) else fM_handOver_b48 t) else fM_handOver_b48 t) else fM_handOver_b48 t) : Ok fc fun q => Ok fm fun y => AP (fun s t => RV n s t ∧ RMo s t) (fun s t => RV (n + 1) s t ∧ RMo s t) F A s q y := by
  obtain ⟨⟨n1, n2, n3⟩, -, -, -, g4, -, g6, -, -, -, -, -, -, b4, -, -⟩ := id h.1.1
  obtain ⟨-, -, q3, -, -, -, -, -, -, -⟩ := id h.1.2.1
  have hb : inb a 300 = true := h1.inb n3
  have w := h1.ix
  have e4 := g4 _ w
  have e6 := g6 _ w
  have e3 := q3 _ w
  have d4 := b4 _ w
  have hn : (fun s t => RV n s t ∧ RMo s t) s (wI t 549 15 (cI 1)) := ⟨h.no, hm.kp rf_fr no_fr (by decide +kernel) (by decide +kernel)⟩
  have kc0 : fItems_handOver s a b c d (bI R) = if InR b (cI 1) (cI 99) then (if InR c (cI 0) (cI 9999) then (if InR d (cI 0) (cI 1000000) then (if R then fItems_handOver s a b c d 1 else some (s, cI (-103))) else some (s, cI (-102))) else some (s, cI (-102))) else some (s, cI (-102)) := by
    rcases Classical.propComplete (InR b (cI 1) (cI 99)) with x1 | x1 <;> rcases Classical.propComplete (InR c (cI 0) (cI 9999)) with x2 | x2 <;> rcases Classical.propComplete (InR d (cI 0) (cI 1000000)) with x3 | x3 <;> rcases Classical.propComplete (R) with x4 | x4 <;> simp only [fItems_handOver, e_itemsHas n2, outside_eq, bd1_some, ite_bI, eq_true h1, x1, x2, x3, x4, if_true, if_false, not_true_eq_false, not_false_eq_true, i10]
  rw [kc, km, kc0]
  have no2 : fM_handOver_b48 t = some (wI t 549 15 (cI 1), cI (-102)) := by simp only [fM_handOver_b48, no_eq, bd2_some]
  have no3 : fM_handOver_b94 t = some (wI t 549 15 (cI 1), cI (-103)) := by simp only [fM_handOver_b94, no_eq, bd2_some]
  by_cases x1 : InR b (cI 1) (cI 99)
  rotate_left
  · exact sim_no (c := cI (-102)) (by rw [if_neg x1]) (by rw [if_neg x1, no2]) hn
  rw [if_pos x1, if_pos x1]
  by_cases x2 : InR c (cI 0) (cI 9999)
  rotate_left
  · exact sim_no (c := cI (-102)) (by rw [if_neg x2]) (by rw [if_neg x2, no2]) hn
  rw [if_pos x2, if_pos x2]
  by_cases x3 : InR d (cI 0) (cI 1000000)
  rotate_left
  · exact sim_no (c := cI (-102)) (by rw [if_neg x3]) (by rw [if_neg x3, no2]) hn
  rw [if_pos x3, if_pos x3]
  by_cases x4 : R
  rotate_left
  · exact sim_no (c := cI (-103)) (by rw [if_neg x4]) (by rw [if_neg x4, no3]) hn
  rw [if_pos x4, if_pos x4]
  obtain ⟨r1, r2, r3⟩ := hR x4
  have L4 : (s.1 105 (ix a) &&& cI 4 ≤ 0) ↔ s.1 105 (ix a) &&& cI 4 = 0 := and_le d4 (by decide)
  have L1 : (s.1 105 (ix a) &&& cI 1 ≤ 0) ↔ s.1 105 (ix a) &&& cI 1 = 0 := and_le d4 (by decide)
  have z00 : cI 0 = 0 := rfl
  have z10 : ¬ cI 1 = 0 := by decide
  have k1 : fItems_handOver s a b c d 1 = if (¬ s.1 105 (ix a) &&& cI 4 = 0) ∧ s.1 112 (ix a) = 0 ∧ ¬ b = s.1 107 (ix a) then some (s, cI (-112)) else if (¬ s.1 105 (ix a) &&& cI 1 = 0) ∧ c = 0 then some (s, cI (-113)) else fItems_handOver_b106 s a d := by
    rcases Classical.propComplete (s.1 105 (ix a) &&& cI 4 = 0) with y1 | y1 <;> rcases Classical.propComplete (s.1 112 (ix a) = 0) with y2 | y2 <;> rcases Classical.propComplete (b = s.1 107 (ix a)) with y3 | y3 <;> rcases Classical.propComplete (s.1 105 (ix a) &&& cI 1 = 0) with y4 | y4 <;> rcases Classical.propComplete (c = 0) with y5 | y5 <;> simp only [fItems_handOver, fItems_handOver_b90, fItems_serves, e_itemsHas n2, outside_eq, bd1_some, ite_bI, eq_true h1, eq_true x1, eq_true x2, eq_true x3, hb, ix_3, ix_5, ix_10, Nat.reduceAdd, y1, y2, y3, y4, y5, eq_false z10, eq_true z00, if_true, if_false, not_true_eq_false, not_false_eq_true, i10, and_true, true_and, and_false, false_and]
  have k2 : fM_handOver_b101 t a b c d = if (¬ s.1 105 (ix a) &&& cI 4 = 0) ∧ s.1 112 (ix a) = 0 ∧ ¬ b = s.1 107 (ix a) then some (wI t 549 15 (cI 1), cI (-112)) else if (¬ s.1 105 (ix a) &&& cI 1 = 0) ∧ c = 0 then some (wI t 549 15 (cI 1), cI (-113)) else fM_handOver_b160 t a d := by
    rcases Classical.propComplete (s.1 105 (ix a) &&& cI 4 = 0) with y1 | y1 <;> rcases Classical.propComplete (s.1 112 (ix a) = 0) with y2 | y2 <;> rcases Classical.propComplete (b = s.1 107 (ix a)) with y3 | y3 <;> rcases Classical.propComplete (s.1 105 (ix a) &&& cI 1 = 0) with y4 | y4 <;> rcases Classical.propComplete (c = 0) with y5 | y5 <;> simp only [fM_handOver_b101, fM_handOver_b138, e4, e6, e3, L4, L1, hb, y1, y2, y3, y4, y5, if_true, if_false, not_true_eq_false, not_false_eq_true, no_eq, bd2_some, and_true, true_and, and_false, false_and]
  rw [k1, k2]
  by_cases y1 : (¬ s.1 105 (ix a) &&& cI 4 = 0) ∧ s.1 112 (ix a) = 0 ∧ ¬ b = s.1 107 (ix a)
  · exact sim_no (c := cI (-112)) (by rw [if_pos y1]) (by rw [if_pos y1]) hn
  rw [if_neg y1, if_neg y1]
  by_cases y2 : (¬ s.1 105 (ix a) &&& cI 1 = 0) ∧ c = 0
  · exact sim_no (c := cI (-113)) (by rw [if_pos y2]) (by rw [if_pos y2]) hn
  rw [if_neg y2, if_neg y2]
  exact hand_core hA hM h0 h hm hT hcu ht hg hl hn9 h1 r1 r2 r3
theorem a_hand {a b c d : Int32} (hA : AdmC s F A) (hM : FulM t F) (h0 : t.1 549 15 = 0) (h : RV n s t) (hm : RMo s t) (hT : RTa s t) (hcu : RCu s t) (ht : RTim s t) (hg : RBg s t) (hl : RLk s t) (hn9 : n < 2147483646) : Ok (fItems_handAtDoor s a b c d) fun q => Ok (fM_handOver t a b c d (cI 1)) fun y => AP (fun s t => RV n s t ∧ RMo s t) (fun s t => RV (n + 1) s t ∧ RMo s t) F A s q y := by
  obtain ⟨⟨n1, n2, n3⟩, g1, -⟩ := id h.1.1
  have hn : (fun s t => RV n s t ∧ RMo s t) s (wI t 549 15 (cI 1)) := ⟨h.no, hm.kp rf_fr no_fr (by decide +kernel) (by decide +kernel)⟩
  by_cases h1 : Has a (s.1 100 5)
  rotate_left
  · exact sim_no (c := cI (-101)) (by simp only [fItems_handAtDoor, fItems_handAtDoor_b27, fItems_handAtDoor_b28, fItems_handOver, e_itemsHas n2, ltM_eq, ltI_eq, ltL_eq, bd1_some, bd2_some, ite_bI, if_true, if_false, ite_true, ite_false, eq_self, not_true_eq_false, not_false_eq_true, i10, outside_eq, eq_false h1]) (by simp only [fM_handOver, e_isItem (show 0 ≤ (t.1 549 58).toInt by rw [n1]; exact n2), n1, ltM_eq, ltI_eq, ltL_eq, bd1_some, bd2_some, ite_bI, if_true, if_false, ite_true, ite_false, eq_self, not_true_eq_false, not_false_eq_true, i10, no_eq, eq_false h1]) hn
  have hb : inb a 300 = true := h1.inb n3
  have e1 := g1 _ h1.ix
  have z00 : cI 0 = 0 := rfl
  have z10 : ¬ cI 1 = 0 := by decide
  refine hand_go (b := b) (c := c) (d := d) (R := s.1 102 (ix a) = cI 4) hA hM h0 h hm hT hcu ht hg hl hn9 h1 (fun q => ⟨by rw [q]; decide, by rw [q]; decide, h.c117 h1 (by rw [q]; decide)⟩) ?_ ?_
  · by_cases q : s.1 102 (ix a) = cI 4
    · rw [bI_t q]
      simp only [fItems_handAtDoor, fItems_handAtDoor_b28, fItems_is, e_itemsHas n2, ltM_eq, ltI_eq, ltL_eq, bd1_some, bd2_some, ite_bI, if_true, if_false, ite_true, ite_false, eq_self, not_true_eq_false, not_false_eq_true, i10, hb, ix_0, Nat.add_zero, eq_true h1, eq_true q, cI_1, bd2_eta]
    · rw [bI_f q]
      simp only [fItems_handAtDoor, fItems_handAtDoor_b27, fItems_handAtDoor_b28, fItems_is, e_itemsHas n2, ltM_eq, ltI_eq, ltL_eq, bd1_some, bd2_some, ite_bI, if_true, if_false, ite_true, ite_false, eq_self, not_true_eq_false, not_false_eq_true, i10, hb, ix_0, Nat.add_zero, eq_true h1, eq_false q, eq_true z00, bd2_eta]
      rfl
  · rcases Classical.propComplete (s.1 102 (ix a) = cI 4) with q | q <;> simp only [fM_handOver, e_isItem (show 0 ≤ (t.1 549 58).toInt by rw [n1]; exact n2), n1, ltM_eq, ltI_eq, ltL_eq, bd1_some, bd2_some, ite_bI, if_true, if_false, ite_true, ite_false, eq_self, not_true_eq_false, not_false_eq_true, i10, in_eq, eq_true h1, eq_false z10, hb, e1, q]
theorem a_pickUp {a b c d : Int32} (hA : AdmC s F A) (hM : FulM t F) (h0 : t.1 549 15 = 0) (h : RV n s t) (hm : RMo s t) (hT : RTa s t) (hcu : RCu s t) (ht : RTim s t) (hg : RBg s t) (hl : RLk s t) (hn9 : n < 2147483646) : Ok (fItems_handAtPost s a b c d) fun q => Ok (fM_handOver t a b c d (cI 0)) fun y => AP (fun s t => RV n s t ∧ RMo s t) (fun s t => RV (n + 1) s t ∧ RMo s t) F A s q y := by
  obtain ⟨⟨n1, n2, n3⟩, g1, -⟩ := id h.1.1
  have hn : (fun s t => RV n s t ∧ RMo s t) s (wI t 549 15 (cI 1)) := ⟨h.no, hm.kp rf_fr no_fr (by decide +kernel) (by decide +kernel)⟩
  by_cases h1 : Has a (s.1 100 5)
  rotate_left
  · exact sim_no (c := cI (-101)) (by simp only [fItems_handAtPost, fItems_handAtPost_b26, fItems_handAtPost_b27, fItems_handOver, e_itemsHas n2, ltM_eq, ltI_eq, ltL_eq, bd1_some, bd2_some, ite_bI, if_true, if_false, ite_true, ite_false, eq_self, not_true_eq_false, not_false_eq_true, i10, outside_eq, eq_false h1]) (by simp only [fM_handOver, e_isItem (show 0 ≤ (t.1 549 58).toInt by rw [n1]; exact n2), n1, ltM_eq, ltI_eq, ltL_eq, bd1_some, bd2_some, ite_bI, if_true, if_false, ite_true, ite_false, eq_self, not_true_eq_false, not_false_eq_true, i10, no_eq, eq_false h1]) hn
  have hb : inb a 300 = true := h1.inb n3
  have e1 := g1 _ h1.ix
  have e7 := h.1.2.1.2.2.2.2.2.1 _ h1.ix
  have z00 : cI 0 = 0 := rfl
  have z10 : ¬ cI 1 = 0 := by decide
  refine hand_go (b := b) (c := c) (d := d) (R := s.1 102 (ix a) = cI 6 ∧ s.1 117 (ix a) = cI (-1)) hA hM h0 h hm hT hcu ht hg hl hn9 h1 (fun q => ⟨by rw [q.1]; decide, by rw [q.1]; decide, q.2⟩) ?_ ?_
  · by_cases q : s.1 102 (ix a) = cI 6
    · by_cases r : s.1 117 (ix a) = cI (-1)
      · rw [bI_t ⟨q, r⟩]
        simp only [fItems_handAtPost, fItems_handAtPost_b27, fItems_isHeldAtPost, fItems_is, e_itemsHas n2, ltM_eq, ltI_eq, ltL_eq, bd1_some, bd2_some, ite_bI, if_true, if_false, ite_true, ite_false, eq_self, not_true_eq_false, not_false_eq_true, i10, hb, ix_0, ix_15, Nat.add_zero, Nat.reduceAdd, eq_true h1, eq_true q, eq_true r, cI_1, bd2_eta]
      · rw [bI_f (fun z => r z.2)]
        simp only [fItems_handAtPost, fItems_handAtPost_b26, fItems_handAtPost_b27, fItems_isHeldAtPost, fItems_is, e_itemsHas n2, ltM_eq, ltI_eq, ltL_eq, bd1_some, bd2_some, ite_bI, if_true, if_false, ite_true, ite_false, eq_self, not_true_eq_false, not_false_eq_true, i10, hb, ix_0, ix_15, Nat.add_zero, Nat.reduceAdd, eq_true h1, eq_true q, eq_false r, cI_1, eq_true z00, bd2_eta]
        rfl
    · rw [bI_f (fun z => q z.1)]
      simp only [fItems_handAtPost, fItems_handAtPost_b26, fItems_handAtPost_b27, fItems_isHeldAtPost, fItems_is, e_itemsHas n2, ltM_eq, ltI_eq, ltL_eq, bd1_some, bd2_some, ite_bI, if_true, if_false, ite_true, ite_false, eq_self, not_true_eq_false, not_false_eq_true, i10, hb, ix_0, ix_15, Nat.add_zero, Nat.reduceAdd, eq_true h1, eq_false q, eq_true z00, bd2_eta]
      rfl
  · rcases Classical.propComplete (s.1 102 (ix a) = cI 6) with q | q <;> rcases Classical.propComplete (s.1 117 (ix a) = cI (-1)) with r | r <;> simp only [fM_handOver, e_isItem (show 0 ≤ (t.1 549 58).toInt by rw [n1]; exact n2), n1, ltM_eq, ltI_eq, ltL_eq, bd1_some, bd2_some, ite_bI, if_true, if_false, ite_true, ite_false, eq_self, not_true_eq_false, not_false_eq_true, i10, in_eq, eq_true h1, eq_true z00, hb, e1, e7, q, r, and_true, and_false, true_and, false_and]
end
