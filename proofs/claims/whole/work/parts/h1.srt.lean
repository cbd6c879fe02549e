/-! ===== LEVEL 3: items come to their row ===== -/
section
variable {s t : ev_M} {n k : Nat}
/-- an item more in a row -/
theorem RRw.put {s' t' : ev_M} {x i m : Int32} (h : RRw s t) (hx : Has x (s.1 138 3)) (h12 : (s.1 138 3).toInt ≤ 12) (hi : Has i (s.1 100 5)) (h300 : (s.1 100 5).toInt ≤ 300) (hn : t.1 595 (ix i) = cI (-1)) (hl : (s.1 144 (ix x)).toInt < 2147483647) (hm : ∀ j, j < ix (s.1 100 5) → t.1 595 j ≠ cI (-1) → (t.1 596 j).toInt < m.toInt) (e1 : s'.1 138 3 = s.1 138 3) (e2 : s'.1 144 = up1 (s.1 144) (ix x) (s.1 144 (ix x) + cI 1)) (e3 : ∀ r, r < 12 → s'.1 (160 + r) = if r = ix x then up1 (s.1 (160 + ix x)) (ix (s.1 144 (ix x))) i else s.1 (160 + r)) (e4 : s'.1 100 5 = s.1 100 5) (e5 : t'.1 595 = up1 (t.1 595) (ix i) x) (e6 : t'.1 596 = up1 (t.1 596) (ix i) m) : RRw s' t' := by
  obtain ⟨q1, q2⟩ := h
  have x1 := hx.ix
  have i1 := hi.ix
  have x12 : ix (s.1 138 3) ≤ 12 := by rw [ix_toNat]; omega
  have i300 : ix (s.1 100 5) ≤ 300 := by rw [ix_toNat]; omega
  have xc : cI ((ix x : Nat) : Int) = x := cI_ix hx.1
  have ic : cI ((ix i : Nat) : Int) = i := cI_ix hi.1
  have x0 := hx.1
  have x2 := hx.2
  have er : ∀ a, a < 12 → rowsOf s' 160 12 a = if a = ix x then up1 (rowsOf s 160 12 a) (ix (s.1 144 (ix x))) i else rowsOf s 160 12 a := fun a ha => by
    rw [rows_at ha, rows_at ha, e3 a ha]
    by_cases z : a = ix x
    · rw [if_pos z, if_pos z, z]
    · rw [if_neg z, if_neg z]
  unfold RRw
  rw [e1, e2, e4, e5, e6]
  refine ⟨q1.set ⟨by omega, by omega⟩, fun r hr => ?_⟩
  obtain ⟨l, h1, h3, h4⟩ := q2 r hr
  rw [er r (by omega)]
  have out : ∀ j, j ∈ l → j ≠ ix i := fun j hj z => by
    have := ((h4 j).mp hj).2
    rw [z, hn] at this
    exact neg1_ne (by omega) this
  have pw : ∀ l' : List Nat, (∀ j, j ∈ l' → j ∈ l) → l'.Pairwise (fun a b => (t.1 596 a).toInt < (t.1 596 b).toInt) → l'.Pairwise (fun a b => (up1 (t.1 596) (ix i) m a).toInt < (up1 (t.1 596) (ix i) m b).toInt) := fun l' hl' p => p.imp_of_mem (fun {a b} ha hb q => by
    rw [up1_ne (out a (hl' a ha)), up1_ne (out b (hl' b hb))]
    exact q)
  by_cases z : r = ix x
  · subst z
    have a1 := h1.1
    have zi : (s.1 144 (ix x) + cI 1).toInt = (s.1 144 (ix x)).toInt + 1 := inc_i (by omega)
    have hs := Hol.snoc (e := ix i) h1 zi
    rw [ic] at hs
    rw [if_pos rfl, up1_eq]
    refine ⟨l ++ [ix i], hs, List.pairwise_append.mpr ⟨pw l (fun _ h => h) h3, List.pairwise_singleton _ _, fun a ha b hb => ?_⟩, fun j => ?_⟩
    · rw [List.mem_singleton.mp hb, up1_eq, up1_ne (out a ha)]
      have ma := (h4 a).mp ha
      exact hm a ma.1 (fun w => by rw [w] at ma; exact neg1_ne (by omega) ma.2)
    · rw [List.mem_append, List.mem_singleton, xc]
      rw [xc] at h4
      by_cases w : j = ix i
      · rw [w, up1_eq]
        exact ⟨fun _ => ⟨i1, rfl⟩, fun _ => Or.inr rfl⟩
      · rw [up1_ne w, ← h4 j]
        exact ⟨fun q => q.resolve_right w, Or.inl⟩
  · rw [if_neg z, up1_ne z]
    refine ⟨l, h1, pw l (fun _ h => h) h3, fun j => ?_⟩
    by_cases w : j = ix i
    · rw [w, up1_eq]
      constructor
      · intro q; exact absurd rfl (out _ q)
      · intro q
        have q2 := q.2
        rw [← xc] at q2
        exact absurd (ix_n r (by omega) ▸ (congrArg ix q2).symm.trans (by rw [ix_n _ (by omega)])) z
    · rw [up1_ne w]
      exact h4 j
theorem RXq.rowd {x : Int32} (hx : ¬ x = cI (-1)) (h : RXq n s t) (hn : n < 2147483647) (hk : k < ix (s.1 100 5)) (ha : ¬ s.1 109 k = cI (-1)) (z1 : 0 ≤ (s.1 449 6).toInt) (z2 : 0 ≤ (s.1 125 3).toInt) : RXq (n + 1) (cmO s k (cI 3)) (wI (wI (wI (wI (lvS t k) 595 k x) 549 23 (t.1 549 23 + cI 1)) 596 k (t.1 549 23 + cI 1)) 583 k (cI 3)) := by
  obtain ⟨q1, q2, q3, q4⟩ := h
  have fT : fr [(595, 595, 0), (549, 549, 24), (596, 596, 0)] (lvS t k) (wI (wI (wI (lvS t k) 595 k x) 549 23 (t.1 549 23 + cI 1)) 596 k (t.1 549 23 + cI 1)) := ((fr.rf.wI rfl).wI rfl).wI rfl
  refine ⟨?_, ?_, ?_, ?_⟩
  · exact (q1.st (k := k) (c := cI 3) (by decide)).keep (F := [(111, 111, 0), (116, 116, 0), (117, 117, 0)]) (G := [(593, 593, 0), (595, 595, 0), (597, 597, 0), (598, 598, 0), (602, 602, 0), (549, 549, 24), (596, 596, 0)]) (((fr.rf.wI rfl).wI rfl).wI rfl) (fr.two ((((lvS_fr.mono (by decide +kernel)).wI rfl).wI rfl).wI rfl)) rfl rfl
  · exact (q2.o (k := k) (c := cI 3) z1 z2).keep rf_fr fT.two rfl rfl
  · obtain ⟨⟨⟨a1, a2⟩, ⟨a3, a4⟩⟩, g2, g3, g4, g5, g6, g7⟩ := q3
    have e1 : (t.1 549 23 + cI 1).toInt = (t.1 549 23).toInt + 1 := inc_i (by omega)
    unfold RCo cmO lvS
    simp (disch := decide) only [ix_0, ix_1, ix_2, ix_3, ix_4, ix_5, ix_6, ix_7, ix_8, ix_9, ix_10, ix_11, ix_12, ix_13, ix_14, ix_15, ix_16, ix_17, ix_18, ix_19, ix_20, ix_21, Nat.reduceAdd, wI_c, wI_ne, wL_1, lupd_ne, up1_eq, up1_ne, up1_up1]
    refine ⟨⟨⟨by omega, by omega⟩, a3, by omega⟩, g2, g3.mono (by omega) (by omega), g4, g5, fun i hi hne => ?_, fun i hi hne => ?_⟩
    · by_cases z : i = k
      · rw [z, up1_eq] at hne; exact absurd rfl hne
      · rw [up1_ne z] at hne
        have := g6 i hi hne
        omega
    · by_cases z : i = k
      · rw [z, up1_eq]; exact Int.le_refl _
      · rw [up1_ne z] at hne ⊢
        have := g7 i hi hne
        omega
  · unfold RSx at q4 ⊢
    unfold cmO lvS
    simp (disch := decide) only [ix_0, ix_1, ix_2, ix_3, ix_4, ix_5, ix_6, ix_7, ix_8, ix_9, ix_10, ix_11, ix_12, ix_13, ix_14, ix_15, ix_16, ix_17, ix_18, ix_19, ix_20, ix_21, Nat.reduceAdd, wI_c, wI_ne, wL_1, lupd_ne, up1_eq, up1_ne, up1_up1]
    intro i hi
    by_cases z : i = k
    · rw [z]
      simp only [up1_eq]
      exact ⟨fun _ => trivial, fun w => absurd rfl w, fun _ => ⟨trivial, trivial⟩, fun _ => ha, fun w => absurd w (by decide), fun _ => hx⟩
    · simp only [up1_ne z]
      exact q4 i hi
/-- an item comes to its row -/
theorem go_s {i x : Int32} (hx : ¬ x = cI (-1)) (h : RXq n s t) (e : RN n s t) (hcu : RCu s t) (ht : RTim s t) (hn : n < 2147483646) (hi : Has i (s.1 100 5)) (ha : ¬ s.1 109 (ix i) = cI (-1)) (z1 : 0 ≤ (s.1 449 6).toInt) (z2 : 0 ≤ (s.1 125 3).toInt) : ∃ s' t', fItems_come s i (cI 3) = some s' ∧ fM_comes (wI (wI (wI (lvS t (ix i)) 595 (ix i) x) 549 23 (t.1 549 23 + cI 1)) 596 (ix i) (t.1 549 23 + cI 1)) i (cI 3) = some t' ∧ RXq (n + 1) s' t' ∧ RN (n + 1) s' t' ∧ fr F_Items_come s s' ∧ fr F_M_comes (wI (wI (wI (lvS t (ix i)) 595 (ix i) x) 549 23 (t.1 549 23 + cI 1)) 596 (ix i) (t.1 549 23 + cI 1)) t' ∧ s'.1 102 = up1 (s.1 102) (ix i) (cI 3) := by
  have hb : inb i 300 = true := hi.inb h.1.1.2.2
  have f1 : fr [(102, 102, 0), (111, 111, 0), (116, 116, 0), (117, 117, 0)] s (cmO s (ix i) (cI 3)) := (((fr.rf.wI rfl).wI rfl).wI rfl).wI rfl
  have f2 : fr [(593, 593, 0), (595, 595, 0), (597, 597, 0), (598, 598, 0), (602, 602, 0), (549, 549, 24), (596, 596, 0)] t (wI (wI (wI (lvS t (ix i)) 595 (ix i) x) 549 23 (t.1 549 23 + cI 1)) 596 (ix i) (t.1 549 23 + cI 1)) := (((lvS_fr.mono (by decide +kernel)).wI rfl).wI rfl).wI rfl
  obtain ⟨s', t', w1, w2, w3, w4, w5, w6⟩ := hapQ (n := n) (m := n + 1) (c := cI 3) (i := i) (s := cmO s (ix i) (cI 3)) (t := wI (wI (wI (lvS t (ix i)) 595 (ix i) x) 549 23 (t.1 549 23 + cI 1)) 596 (ix i) (t.1 549 23 + cI 1)) (RXq.rowd hx h (by omega) hi.ix ha z1 z2) (e.keep f1 f2 rfl rfl) (hcu.keep f1 f2 rfl rfl) (ht.keep f1 f2 rfl rfl) hn (by
    have : (cmO s (ix i) (cI 3)).1 100 5 = s.1 100 5 := by unfold cmO; simp (disch := decide) only [ix_0, ix_1, ix_2, ix_3, ix_4, ix_5, ix_6, ix_7, ix_8, ix_9, ix_10, ix_11, ix_12, ix_13, ix_14, ix_15, ix_16, ix_17, ix_18, ix_19, ix_20, ix_21, Nat.reduceAdd, wI_c, wI_ne, wL_1, lupd_ne, up1_eq, up1_ne]
    rw [this]; exact hi) (by decide)
  have c1 : fItems_come s i (cI 3) = some s' := by rw [e_comeO hb (by decide) (by decide) (by decide)]; exact w1
  refine ⟨s', t', c1, w2, w3, w4, fr_fItems_come c1, fr_fM_comes w2, ?_⟩
  rw [(nof_c w5 (L := [(102, 0)]) rfl (c := 102) rfl).1]
  unfold cmO
  simp (disch := decide) only [ix_0, ix_1, ix_2, ix_3, ix_4, ix_5, ix_6, ix_7, ix_8, ix_9, ix_10, ix_11, ix_12, ix_13, ix_14, ix_15, ix_16, ix_17, ix_18, ix_19, ix_20, ix_21, Nat.reduceAdd, wI_c, wI_ne, wL_1, lupd_ne, up1_eq, up1_ne]
end
