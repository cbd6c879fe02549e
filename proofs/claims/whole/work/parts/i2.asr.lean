/-! ===== LEVEL 3: the act sort, whole ===== -/
section
variable {s t : ev_M} {F : Bool} {A : Nat → Nat → Int32} {n g : Nat}
theorem a_sort {a : Int32} (hA : AdmC s F A) (hM : FulM t F) (h0 : t.1 549 15 = 0) (h : RV n s t) (hU : RCu s t) (ho : ROr s t) (ht : RTim s t) (hP : RPo s t) (hp : RSp s t) (hr : RRo s t) (hk : RAk g s t) (hB : RBg s t) (hl : RLk s t) (hMc : RMch s t) (hS : RSy s t) (hg : g + 300 < 2147483647) (hn : n + 300 < 2147483646) : Ok (fRounds_sortItems s a) fun x => Ok (fM_doSort t a) fun y => AP (fun s t => RV n s t ∧ RAk g s t ∧ RSy s t) (fun s t => RV (n + 300) s t ∧ RAk (g + 300) s t ∧ RSy s t) F A s x y := by
  obtain ⟨⟨n1, n2, n3⟩, -⟩ := id h.1.1
  obtain ⟨⟨m1, m2, m3⟩, -⟩ := id hr
  obtain ⟨⟨-, -, p3⟩, -⟩ := id hP
  have hn : RV n s (wI t 549 15 (cI 1)) ∧ RAk g s (wI t 549 15 (cI 1)) ∧ RSy s (wI t 549 15 (cI 1)) := ⟨h.no, hk.keep rf_fr no_fr rfl rfl, hS.keep rf_fr no_fr rfl rfl⟩
  have iM : fM_isRound t a = some (bI (Has a (s.1 138 3))) := by rw [e_isRound (by rw [m1]; exact m2), m1]
  by_cases h1 : Has a (s.1 138 3)
  rotate_left
  · refine sim_no (c := cI (-101)) ?_ ?_ hn
    · unfold fRounds_sortItems
      generalize fRounds_sortItems_h56 1048576 = H
      rw [e_roundsHas m2, bd1_some, ite_bI, if_neg h1]
    · unfold fM_doSort
      generalize fM_doSort_h46 1048576 = H
      rw [iM, bd1_some, ite_bI, if_neg h1, no_eq, bd2_some]
  have hb : inb a 12 = true := h1.inb m3
  obtain ⟨sz1, sz2, sz3⟩ := h.2.2.1.size (r := a) n1 n2 n3 h1
  have kC : fRounds_sortItems s a = if s.1 144 (ix a) ≤ 0 then (bd2 (fLog_admits s) fun s6 v7 => if v7 = 0 then some (s6, cI (-104)) else bd1 (fRounds_gather s6 a) fun s8 => bd1 (fRounds_rank s8) fun s9 => ltM (wI s9 138 9 (cI 0)) fun s10 => fRounds_sortItems_h56 1048576 s10 a (cI 1) (cI 0)) else some (s, cI (-103)) := by
    unfold fRounds_sortItems
    generalize fRounds_sortItems_h56 1048576 = H
    rw [e_roundsHas m2, bd1_some, ite_bI, if_pos h1, if_pos hb, ix_4]
  have kM : fM_doSort t a = if s.1 144 (ix a) ≤ 0 then (bd1 (fM_full t) fun v17 => if v17 = 0 then fM_doSort_h46 1048576 t a (cI 0) else some (wI t 549 15 (cI 1), cI (-104))) else some (wI t 549 15 (cI 1), cI (-103)) := by
    unfold fM_doSort
    generalize fM_doSort_h46 1048576 = H
    rw [iM, bd1_some, ite_bI, if_pos h1, sz1, bd1_some, no_eq, no_eq, bd2_some, bd2_some]
  by_cases h3 : s.1 144 (ix a) ≤ 0
  rotate_left
  · exact sim_no (c := cI (-103)) (by rw [kC, if_neg h3]) (by rw [kM, if_neg h3]) hn
  rw [if_pos h3] at kC kM
  by_cases hF : F = true
  · subst hF
    exact sim_no (c := cI (-104)) (by rw [kC, hA.no, bd2_some, if_pos rfl]) (by rw [kM, hM.no, bd1_some, if_neg (show ¬ (1 : Int32) = 0 by decide)]) hn
  have hF2 : F = false := by cases F <;> simp_all
  subst hF2
  rw [hA.yes, bd2_some, if_neg (show ¬ (1 : Int32) = 0 by decide)] at kC
  rw [hM.yes, bd1_some, if_pos rfl] at kM
  have u144 : (lupd A s).1 144 = s.1 144 := lupd_ne (Or.inr (by decide))
  have u138 : (lupd A s).1 138 = s.1 138 := lupd_ne (Or.inr (by decide))
  have u30 : (lupd A s).1 30 = s.1 30 := lupd_ne (Or.inr (by decide))
  have hz : s.1 144 (ix a) = 0 := by
    have q := le_i.mp h3
    rw [i32_0] at q
    exact eq_i.mpr (by rw [i32_0]; omega)
  obtain ⟨s', t', v, v1, v2, v3, v4, v5, v6, v7⟩ := srt_core (a := a) (s := lupd A s) (t := t) h.lu (hU.keep lupd_fr rf_fr (by decide +kernel) (by decide +kernel)) (ho.keep lupd_fr rf_fr (by decide +kernel) (by decide +kernel)) (ht.keep lupd_fr rf_fr (by decide +kernel) (by decide +kernel)) (hP.keep lupd_fr rf_fr (by decide +kernel) (by decide +kernel)) (hp.keep lupd_fr rf_fr (by decide +kernel) (by decide +kernel)) (hr.keep lupd_fr rf_fr (by decide +kernel) (by decide +kernel)) (hk.keep lupd_fr rf_fr (by decide +kernel) (by decide +kernel)) (hB.keep lupd_fr rf_fr (by decide +kernel) (by decide +kernel)) (hl.keep lupd_fr rf_fr (by decide +kernel) (by decide +kernel)) (hMc.keep lupd_fr rf_fr (by decide +kernel) (by decide +kernel)) (by rw [u138]; exact h1) (by rw [u144]; exact hz) hg (by assumption) (by rw [u138]; exact m3) (by rw [u30]; exact p3)
  rw [kC, kM, v1, v2, ok_some, ok_some]
  refine ⟨rfl, Or.inr ⟨?_, rfl, lgS.fr v6 (by decide +kernel) (by decide +kernel), v3, v4, v5⟩⟩
  rw [(v7.1 549 15 (by decide +kernel)).1]; exact h0
end
