/-! ===== LEVEL 3: the ranks of a sorting, whole ===== -/
theorem rank_ok {F : List Nat} {j : Nat} {s t : ev_M} (h : RGa F j s t) (hj : j ≤ 300) (h9 : (s.1 30 9).toInt ≤ 120) : ∃ s' t', fRounds_rank s = some s' ∧ fM_findFed_h162 1048576 t (cI 0) = some t' ∧ RFd F s' t' ∧ fr [(175, 175, 0), (177, 177, 0)] s s' ∧ fr [(671, 671, 0)] t t' := by
  obtain ⟨a1, a2, a3, a4, a5, a6, a7⟩ := h
  have F3 : ∀ x, x ∈ F → x < 300 := fun x hx => by have := a2 x hx; omega
  have l300 := nodup_le a1 F3
  have pF := List.pairwise_iff_getElem.mp a1
  obtain ⟨S, s1, b1, b2, b3, b4, b5, b6⟩ := rk_lp (F := F) F3 l300 F.length 1048576 0 [] s (cI 0) (by omega) (by decide) (by omega) a3 (fun q hq => (a5 q hq).1) rfl List.Pairwise.nil (fun q => ⟨fun z => (by cases z), fun z => absurd z (Nat.not_lt_zero _)⟩) (fun q hq => absurd hq (Nat.not_lt_zero _))
  have gn : (S.map (gF F)).Nodup := List.pairwise_map.mpr (b3.imp_of_mem (fun {x y} hx hy r => by
    have hx' := (b4 x).mp hx
    have hy' := (b4 y).mp hy
    have ne : x ≠ y := fun z => by rw [z] at r; unfold rkL at r; omega
    rw [gF_at hx', gF_at hy']
    rcases Nat.lt_or_gt_of_ne ne with u | u
    · exact pF x y hx' hy' u
    · exact fun w => pF y x hy' hx' u w.symm))
  have g3 : ∀ x, x ∈ S.map (gF F) → x < 300 := fun x hx => by
    obtain ⟨q, q1, q2⟩ := List.mem_map.mp hx
    have q3 := (b4 q).mp q1
    rw [gF_at q3] at q2
    rw [← q2]
    exact F3 _ (List.getElem_mem _)
  have gl : (S.map (gF F)).length = F.length := by rw [List.length_map]; exact b2
  obtain ⟨s2, c1, c2, c3, c4⟩ := rk_wr (G := S.map (gF F)) gn g3 (S.map (gF F)).length 1048576 0 s1 (cI 0) (by omega) (by decide) (by omega) (by rw [(b6.1 138 12 rfl).1, gl]; exact a3) b5
  have pv : ∀ q (hq : q < F.length), t.1 572 (ix (t.1 670 F[q])) = s.1 177 (gF F q) := fun q hq => by
    rw [gF_at hq]
    exact (a6 _ (List.getElem_mem hq)).2.2.2.2.1.symm
  obtain ⟨t1, d1, d2, d3, d4⟩ := rf_lp (F := F) (P := fun q => s.1 177 (gF F q)) a1 F3 F.length 1048576 0 t (cI 0) (by omega) (by decide) (by omega) (by rw [a4]; exact a3) (fun q hq => (a5 q hq).2) (fun x hx => (a6 x hx).2.2.2.1.inb h9) pv
  have fC : fr [(175, 175, 0), (177, 177, 0)] s s2 := (b6.mono (by decide +kernel)).tr (c4.mono (by decide +kernel))
  refine ⟨s2, t1, ?_, d1, ⟨a1, F3, ?_, ?_, fun q hq => ?_, fun x hx => ?_, fun x hx _ => ?_⟩, fC, d4⟩
  · show fRounds_rank_h9 1048576 s 0 (cI 0) = some s2
    rw [b1]
    exact c1
  · rw [(fC.1 138 12 rfl).1]; exact a3
  · rw [(d4.1 549 166 rfl).1, (fC.1 138 12 rfl).1]; exact a4
  · rw [(nof_c fC (L := [(174, 0)]) rfl (c := 174) rfl).1, (nof_c d4 (L := [(668, 0)]) rfl (c := 668) rfl).1]; exact a5 q hq
  · rw [(nof_c fC (L := [(179, 0)]) rfl (c := 179) rfl).1, (nof_c d4 (L := [(610, 0)]) rfl (c := 610) rfl).1, (a6 x hx).2.2.1, a7 x (F3 x hx)]
    refine ⟨?_, rfl, Or.inl rfl⟩
    obtain ⟨q, hq, e⟩ := List.mem_iff_getElem.mp hx
    obtain ⟨i, hi, ei⟩ := List.mem_iff_getElem.mp ((b4 q).mpr hq)
    have il : i < (S.map (gF F)).length := by rw [List.length_map]; exact hi
    have k1 := c2 i il (Nat.zero_le _)
    rw [List.getElem_map, ei, gF_at hq, e] at k1
    have k2 := d2 q hq (Nat.zero_le _)
    rw [e] at k2
    have k3 := rk_idx (P := fun q => s.1 177 (gF F q)) b3 b4 hi
    rw [ei] at k3
    rw [k1, k2, k3]
  · rw [(nof_c d4 (L := [(610, 0)]) rfl (c := 610) rfl).1]; exact a7 x hx
