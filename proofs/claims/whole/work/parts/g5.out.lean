/-! ===== LEVEL 3: the act out ===== -/
/-- the rows while one goes out: of its list l the first k are gone in the reference -/
def RRs (a : Nat) (l : List Nat) (k : Nat) (s t : ev_M) : Prop := Bd (ix (s.1 100 5)) (t.1 595) (-1) ((s.1 138 3).toInt - 1) ∧ (∀ r, r < ix (s.1 138 3) → r ≠ a → ∃ l, Hol (rowsOf s 160 12 r) (s.1 144 r) l ∧ l.Pairwise (fun a b => (t.1 596 a).toInt < (t.1 596 b).toInt) ∧ ∀ i, i ∈ l ↔ i < ix (s.1 100 5) ∧ t.1 595 i = cI (r : Int)) ∧ Hol (rowsOf s 160 12 a) (s.1 144 a) l ∧ l.Pairwise (fun a b => (t.1 596 a).toInt < (t.1 596 b).toInt) ∧ ∀ i, i ∈ l.drop k ↔ i < ix (s.1 100 5) ∧ t.1 595 i = cI (a : Int)
theorem RRs.step {a k : Nat} {l : List Nat} {s t s' t' : ev_M} (h : RRs a l k s t) (hk : k < l.length) (ha : a < ix (s.1 138 3)) (h80 : (s.1 138 3).toInt ≤ 12) (e1 : s'.1 100 5 = s.1 100 5) (e2 : s'.1 138 3 = s.1 138 3) (e3 : rowsOf s' 160 12 = rowsOf s 160 12) (e4 : s'.1 144 = s.1 144) (e5 : t'.1 595 = up1 (t.1 595) l[k] (cI (-1))) (e6 : t'.1 596 = t.1 596) : RRs a l (k + 1) s' t' := by
  obtain ⟨q1, q2, q3, q4, q5⟩ := h
  have hd : l.drop k = l[k] :: l.drop (k + 1) := (List.drop_eq_getElem_cons hk)
  have nd := lt_nodup (q4.sublist (List.drop_sublist k l))
  rw [hd] at nd q5
  obtain ⟨nd1, nd2⟩ := List.nodup_cons.mp nd
  have ek := (q5 l[k]).mp (List.mem_cons.mpr (Or.inl rfl))
  have en : ix (s.1 138 3) = (s.1 138 3).toInt.toNat := ix_toNat _
  unfold RRs
  rw [e1, e2, e3, e4, e5, e6]
  refine ⟨q1.set ⟨by decide, by show (-1 : Int) ≤ _; omega⟩, fun r hr hne => ?_, q3, q4, fun i => ?_⟩
  · obtain ⟨l2, p1, p3, p4⟩ := q2 r hr hne
    refine ⟨l2, p1, p3, fun i => ?_⟩
    by_cases z : i = l[k]
    · rw [z, up1_eq, p4]
      constructor
      · intro w
        have w2 := w.2.symm.trans ek.2
        have w3 := congrArg Int32.toInt w2
        rw [cI_toInt (by omega) (by omega), cI_toInt (by omega) (by omega)] at w3
        omega
      · intro w
        exact absurd w.2 (neg1_ne (by omega))
    · rw [up1_ne z]; exact p4 i
  · by_cases z : i = l[k]
    · rw [z, up1_eq]
      constructor
      · intro w; exact absurd w nd1
      · intro w; exact absurd w.2 (neg1_ne (by omega))
    · rw [up1_ne z, ← q5 i]
      exact ⟨fun w => List.mem_cons.mpr (Or.inr w), fun w => (List.mem_cons.mp w).resolve_left z⟩
theorem RBc.lv {s t : ev_M} {k : Nat} (h : RBc s t) (h1 : t.1 593 k = cI (-1)) : RBc s (lvS t k) := by
  have e3 : (lvS t k).1 593 = t.1 593 := by unfold lvS; simp (disch := decide) only [ix_0, ix_1, ix_2, ix_3, ix_4, ix_5, ix_6, ix_7, ix_8, ix_9, ix_10, ix_11, ix_12, ix_13, ix_14, ix_15, ix_16, ix_17, ix_18, ix_19, ix_20, ix_21, Nat.reduceAdd, wI_c, wI_ne, wL_1, lupd_ne, up1_eq, up1_ne]; exact up1_id h1
  have e4 : (lvS t k).1 594 = t.1 594 := by unfold lvS; simp (disch := decide) only [ix_0, ix_1, ix_2, ix_3, ix_4, ix_5, ix_6, ix_7, ix_8, ix_9, ix_10, ix_11, ix_12, ix_13, ix_14, ix_15, ix_16, ix_17, ix_18, ix_19, ix_20, ix_21, Nat.reduceAdd, wI_c, wI_ne, wL_1, lupd_ne, up1_eq, up1_ne]
  unfold RBc at h ⊢; rw [e3, e4]; exact h
theorem out_lp {a nn : Int32} {l : List Nat} (hl : l.length ≤ 300) (hnn : nn.toInt = (l.length : Int)) : ∀ (r m m' n k : Nat) (s t : ev_M) (kk : Int32), k + r = l.length → kk.toInt = (k : Int) → r < m → r < m' → n + r < 2147483646 → RXq n s t → RN n s t → RRs (ix a) l k s t → RBc s t → RBx s t → RCu s t → RTim s t → Has a (s.1 138 3) → (s.1 138 3).toInt ≤ 12 → 0 ≤ (s.1 125 3).toInt → 0 ≤ (s.1 449 6).toInt → ∃ s' t', fRounds_sendOut_h42 m s a nn kk = some (wI s' 144 (ix a) (cI 0), nn) ∧ fM_doOut_h48 m' t a nn kk = some (t', nn) ∧ RXq (n + r) s' t' ∧ RN (n + r) s' t' ∧ RRs (ix a) l l.length s' t' ∧ RBc s' t' ∧ RBx s' t' ∧ fr F_Items_come s s' ∧ fr (F_M_leaves ++ F_M_comes) t t'
  | 0, m, m', n, k, s, t, kk, hk, hkk, hm, hm', hn, q, e, b, bc, bx, hcu, ht, ha, h80, z2, z1 => by
    obtain ⟨m, rfl⟩ : ∃ k, m = k + 1 := ⟨m - 1, by omega⟩
    obtain ⟨m', rfl⟩ : ∃ k, m' = k + 1 := ⟨m' - 1, by omega⟩
    have hb : inb a 12 = true := ha.inb h80
    have hj : ¬ kk < nn := by rw [lt_i]; omega
    have ek : k = l.length := by omega
    subst ek
    refine ⟨s, t, ?_, ?_, q, e, b, bc, bx, fr.rf, fr.rf⟩
    · simp only [fRounds_sendOut_h42, if_neg hj, if_pos hb, ltM_eq, ix_4, Nat.reduceAdd]
    · simp only [fM_doOut_h48, if_neg hj]
  | r + 1, m, m', n, k, s, t, kk, hk, hkk, hm, hm', hn, q, e, b, bc, bx, hcu, ht, ha, h80, z2, z1 => by
    obtain ⟨m, rfl⟩ : ∃ k, m = k + 1 := ⟨m - 1, by omega⟩
    obtain ⟨m', rfl⟩ : ∃ k, m' = k + 1 := ⟨m' - 1, by omega⟩
    obtain ⟨⟨n1, n2, n3⟩, -⟩ := id q.1
    have hb : inb a 12 = true := ha.inb h80
    have hj : kk < nn := by rw [lt_i]; omega
    have kl : k < l.length := by omega
    have hd : l.drop k = l[k] :: l.drop (k + 1) := List.drop_eq_getElem_cons kl
    have em := (b.2.2.2.2 l[k]).mp (by rw [hd]; exact List.mem_cons.mpr (Or.inl rfl))
    rw [cI_ix ha.1] at em
    have a80 : ix a < 12 := by have := ha.1; have := ha.2; rw [ix_toNat]; omega
    have i3 : ix (s.1 100 5) ≤ 300 := by rw [ix_toNat]; omega
    have ekk : ix kk = k := by rw [ix_toNat]; omega
    have ec : s.1 (160 + ix a) (ix kk) = cI ((l[k] : Nat) : Int) := by
      have := b.2.2.1.2 k kl
      rw [rows_at a80] at this
      rw [ekk]; exact this
    have bk : inb kk 300 = true := inb_iff.mpr ⟨by omega, by omega⟩
    have ei : ix (cI ((l[k] : Nat) : Int)) = l[k] := ix_n _ (by omega)
    have hi : Has (cI ((l[k] : Nat) : Int)) (s.1 100 5) := by
      have w := em.1
      rw [ix_toNat] at w
      exact ⟨by rw [cI_toInt (by omega) (by omega)]; omega, by rw [cI_toInt (by omega) (by omega)]; omega⟩
    have sx := q.2.2.2 l[k] em.1
    have st2 : s.1 102 l[k] = cI 3 := Classical.byContradiction (fun z => by
      have := sx.2.1 z
      rw [em.2] at this
      have := ha.1
      rw [‹a = cI (-1)›] at this
      exact absurd this (by decide))
    have t593 := sx.1 (by rw [st2]; decide)
    have t597 := (sx.2.2.1 (by rw [st2]; decide)).2
    obtain ⟨s1, t1, v1, v2, v3, v4, v5, v6, v7, -⟩ := go_o0 (i := cI ((l[k] : Nat) : Int)) (c := cI 4) q e hcu ht (by omega) hi z1 z2 (by decide) (by decide) (by decide) (by decide) (fun _ => by rw [ei]; exact sx.2.2.2.1 (Or.inl st2))
    rw [ei] at v2 v3 v7
    have fT : fr (F_M_leaves ++ F_M_comes) t t1 := (lvS_fr.mono (by decide +kernel)).tr (v7.mono (by decide +kernel))
    have w595 : t1.1 595 = up1 (t.1 595) l[k] (cI (-1)) := by
      rw [(nof_c v7 (L := [(595, 0)]) (by decide +kernel) (c := 595) rfl).1]
      unfold lvS
      simp (disch := decide) only [ix_0, ix_1, ix_2, ix_3, ix_4, ix_5, ix_6, ix_7, ix_8, ix_9, ix_10, ix_11, ix_12, ix_13, ix_14, ix_15, ix_16, ix_17, ix_18, ix_19, ix_20, ix_21, Nat.reduceAdd, wI_c, wI_ne, wL_1, lupd_ne, up1_eq, up1_ne]
    have w596 : t1.1 596 = t.1 596 := by
      rw [(nof_c v7 (L := [(596, 0)]) (by decide +kernel) (c := 596) rfl).1]
      unfold lvS
      simp (disch := decide) only [ix_0, ix_1, ix_2, ix_3, ix_4, ix_5, ix_6, ix_7, ix_8, ix_9, ix_10, ix_11, ix_12, ix_13, ix_14, ix_15, ix_16, ix_17, ix_18, ix_19, ix_20, ix_21, Nat.reduceAdd, wI_c, wI_ne, wL_1, lupd_ne, up1_eq, up1_ne]
    have x100 : s1.1 100 5 = s.1 100 5 := (v6.1 100 5 (by decide +kernel)).1
    have x138 : s1.1 138 = s.1 138 := fr_ge v6 (N := 120) (by decide +kernel) (by decide)
    have x144 : s1.1 144 = s.1 144 := fr_ge v6 (N := 120) (by decide +kernel) (by decide)
    have x125 : s1.1 125 = s.1 125 := fr_ge v6 (N := 120) (by decide +kernel) (by decide)
    have x449 : s1.1 449 = s.1 449 := fr_ge v6 (N := 120) (by decide +kernel) (by decide)
    have bs : RRs (ix a) l (k + 1) s1 t1 := b.step kl ha.ix h80 x100 (by rw [x138]) (rows_eq (fun r hr => fr_ge v6 (N := 120) (by decide +kernel) (by omega))) x144 w595 w596
    obtain ⟨s', t', u1, u2, u3, u4, u5, u6, u7, u8, u9⟩ := out_lp hl hnn r m m' (n + 1) (k + 1) s1 t1 (kk + cI 1) (by omega) (by rw [inc_i (by omega)]; omega) (by omega) (by omega) (by omega) v4 v5 bs ((bc.lv t593).keep v6 v7 (by decide +kernel) (by decide +kernel)) ((bx.lv em.1 t597).keep v6 v7 (by decide +kernel) (by decide +kernel)) (hcu.keep v6 fT (by decide +kernel) (by decide +kernel)) (ht.keep v6 fT (by decide +kernel) (by decide +kernel)) (by rw [x138]; exact ha) (by rw [x138]; exact h80) (by rw [x125]; exact z2) (by rw [x449]; exact z1)
    have en : n + 1 + r = n + (r + 1) := by omega
    rw [en] at u3 u4
    refine ⟨s', t', ?_, ?_, u3, u4, u5, u6, u7, v6.tr u8, fT.tr u9⟩
    · simp only [fRounds_sendOut_h42, if_pos hj, if_pos hb, if_pos bk, ec, v1, bd1_some]
      exact u1
    · have pw := b.2.2.2.1.sublist (List.drop_sublist k l)
      have rt : fM_rowAt t a (cI 0) = some (cI ((l[k] : Nat) : Int)) := by
        have f := rat_lp (t := t) (a := a) (x := cI 0) (l := l.drop k) (by rw [n1]; exact n3) (by rw [n1]; exact n2) pw (fun i => by
          rw [b.2.2.2.2 i, n1, cI_ix ha.1]) (ix (s.1 100 5)) 1048576 (cI 0) (by decide) (by rw [n1, ix_toNat, show (cI 0).toInt = 0 from rfl]; omega) (by omega) (fun k' h' hh => absurd hh (Nat.not_lt_zero _))
        have e0 : ratI (l.drop k) (cI 0) = cI ((l[k] : Nat) : Int) := by
          unfold ratI
          have hl0 : ix (cI 0) < (l.drop k).length := by rw [ix_0, List.length_drop]; omega
          rw [dif_pos ⟨by decide, hl0⟩]
          simp only [ix_0, List.getElem_drop, Nat.add_zero]
        rw [e0] at f
        exact f
      have v2' : fM_leaves t (cI ((l[k] : Nat) : Int)) = some (lvS t l[k]) := v2
      simp only [fM_doOut_h48, if_pos hj, rt, bd1_some, v2', v3]
      exact u2
section
variable {s t : ev_M} {F : Bool} {A : Nat → Nat → Int32} {n : Nat}
theorem a_out {a : Int32} (hA : AdmC s F A) (hM : FulM t F) (h0 : t.1 549 15 = 0) (h : RV n s t) (hr : RRo s t) (hB : RBg s t) (hcu : RCu s t) (ht : RTim s t) (hl : RLk s t) (hn9 : n + 300 < 2147483646) : Ok (fRounds_sendOut s a) fun x => Ok (fM_doOut t a) fun y => AP (RV n) (RV (n + 300)) F A s x y := by
  obtain ⟨⟨n1, n2, n3⟩, -⟩ := id h.1.1
  obtain ⟨⟨m1, m2, m3⟩, -⟩ := id hr
  have hn : RV n s (wI t 549 15 (cI 1)) := h.no
  have iM : fM_isRound t a = some (bI (Has a (s.1 138 3))) := by rw [e_isRound (by rw [m1]; exact m2), m1]
  by_cases h1 : Has a (s.1 138 3)
  rotate_left
  · refine sim_no (c := cI (-101)) ?_ ?_ hn
    · unfold fRounds_sendOut
      generalize fRounds_sendOut_h42 1048576 = H
      rw [e_roundsHas m2, bd1_some, ite_bI, if_neg h1]
    · unfold fM_doOut
      generalize fM_doOut_h48 1048576 = H
      rw [iM, bd1_some, ite_bI, if_neg h1, no_eq, bd2_some]
  have hb : inb a 12 = true := h1.inb m3
  have w := h1.ix
  obtain ⟨sz1, sz2, sz3⟩ := h.2.2.1.size (r := a) n1 n2 n3 h1
  have kC : fRounds_sendOut s a = if s.1 144 (ix a) = 0 then some (s, cI (-103)) else bd2 (fLog_admits s) fun s5 v6 => if v6 = 0 then some (s5, cI (-104)) else fRounds_sendOut_h42 1048576 s5 a (s.1 144 (ix a)) (cI 0) := by
    unfold fRounds_sendOut
    generalize fRounds_sendOut_h42 1048576 = H
    rw [e_roundsHas m2, bd1_some, ite_bI, if_pos h1, if_pos hb, ltI_eq]
    rfl
  have kM : fM_doOut t a = if s.1 144 (ix a) = 0 then some (wI t 549 15 (cI 1), cI (-103)) else bd1 (fM_full t) fun v10 => if v10 = 0 then fM_doOut_h48 1048576 t a (s.1 144 (ix a)) (cI 0) else some (wI t 549 15 (cI 1), cI (-104)) := by
    unfold fM_doOut
    generalize fM_doOut_h48 1048576 = H
    rw [iM, bd1_some, ite_bI, if_pos h1, sz1, bd1_some, no_eq, no_eq, bd2_some, bd2_some]
  by_cases h3 : s.1 144 (ix a) = 0
  · exact sim_no (c := cI (-103)) (by rw [kC, if_pos h3]) (by rw [kM, if_pos h3]) hn
  rw [if_neg h3] at kC kM
  by_cases hF : F = true
  · subst hF
    exact sim_no (c := cI (-104)) (by rw [kC, hA.no, bd2_some, if_pos rfl]) (by rw [kM, hM.no, bd1_some, if_neg (show ¬ (1 : Int32) = 0 by decide)]) hn
  have hF2 : F = false := by cases F <;> simp_all
  subst hF2
  rw [hA.yes, bd2_some, if_neg (show ¬ (1 : Int32) = 0 by decide)] at kC
  rw [hM.yes, bd1_some, if_pos rfl] at kM
  have hV := h.lu (A := A)
  have u144 : (lupd A s).1 144 = s.1 144 := lupd_ne (Or.inr (by decide))
  have u138 : (lupd A s).1 138 = s.1 138 := lupd_ne (Or.inr (by decide))
  have u125 : (lupd A s).1 125 = s.1 125 := lupd_ne (Or.inr (by decide))
  have u449 : (lupd A s).1 449 = s.1 449 := lupd_ne (Or.inr (by decide))
  obtain ⟨l, l1, l3, l4⟩ := hV.2.2.1.2 (ix a) (by rw [u138]; exact w)
  rw [u144] at l1
  have l300 : l.length ≤ 300 := by have := l1.1; omega
  have bm : RRs (ix a) l 0 (lupd A s) t := ⟨hV.2.2.1.1, fun r hr2 _ => hV.2.2.1.2 r hr2, by rw [u144]; exact l1, l3, l4⟩
  obtain ⟨s', t', v1, v2, v3, v4, v5, v6, v7, v8, v9⟩ := out_lp (a := a) (nn := s.1 144 (ix a)) l300 l1.1 l.length 1048576 1048576 n 0 (lupd A s) t (cI 0) (by omega) (by decide) (by omega) (by omega) (by omega) hV.1 hV.2.1 bm hV.2.2.2.1 hV.2.2.2.2 (hcu.keep lupd_fr rf_fr (by decide +kernel) (by decide +kernel)) (ht.keep lupd_fr rf_fr (by decide +kernel) (by decide +kernel)) (by rw [u138]; exact h1) (by rw [u138]; exact m3) (by rw [u125]; exact hl.1.2.1) (by rw [u449]; exact hB.1.2.1)
  have fE : fr [(144, 144, 0)] s' (wI s' 144 (ix a) (cI 0)) := fr.rf.wI rfl
  have hRw : RRw (wI s' 144 (ix a) (cI 0)) t' := by
    obtain ⟨y1, y2, y3, y4, y5⟩ := v5
    have er : rowsOf (wI s' 144 (ix a) (cI 0)) 160 12 = rowsOf s' 160 12 := rows_eq (fun r hr2 => by rw [wI_ne (by omega)])
    unfold RRw
    rw [er]
    simp (disch := decide) only [ix_0, ix_1, ix_2, ix_3, ix_4, ix_5, ix_6, ix_7, ix_8, ix_9, ix_10, ix_11, ix_12, ix_13, ix_14, ix_15, ix_16, ix_17, ix_18, ix_19, ix_20, ix_21, Nat.reduceAdd, wI_c, wI_ne, wL_1, lupd_ne, up1_eq, up1_ne]
    refine ⟨y1, fun r hr2 => ?_⟩
    by_cases z : r = ix a
    · rw [z, up1_eq]
      refine ⟨[], ⟨rfl, fun k hk => absurd hk (Nat.not_lt_zero _)⟩, List.Pairwise.nil, fun i => ?_⟩
      rw [← y5 i, List.drop_length]
    · rw [up1_ne z]
      exact y2 r hr2 z
  rw [kC, kM, v1, v2, ok_some, ok_some]
  refine ⟨rfl, Or.inr ⟨?_, rfl, (lgS.fr v8 (by decide +kernel) (by decide +kernel)).wI (by decide) (by decide), ⟨(v3.mono (by omega)).keep fE rf_fr (by decide +kernel) (by decide +kernel), (v4.mono (by omega)).keep fE rf_fr (by decide +kernel) (by decide +kernel), hRw, v6.keep fE rf_fr (by decide +kernel) (by decide +kernel), v7.keep fE rf_fr (by decide +kernel) (by decide +kernel)⟩⟩⟩
  rw [(v9.1 549 15 (by decide +kernel)).1]; exact h0
end
