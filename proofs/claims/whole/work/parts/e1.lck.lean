/-! ===== LEVEL 3: the act locker ===== -/
theorem lgS.wR {s x : ev_M} {c lo hi : Nat} {f : Nat → Int32} (h : lgS s x) (hc : 14 < c) (hc2 : c < 1000) : lgS s (wR x c lo hi f) := ⟨fun a h1 h2 => (wR_ne (by omega)).trans (h.1 a h1 h2), (congrFun (wR_ne (by omega)) 1).trans h.2.1, (wR_ne (by omega)).trans h.2.2.1, fun a h1 => (wR_ne (by omega)).trans (h.2.2.2 a h1)⟩
/-- a new locker, all its boxes empty -/
theorem RBx.newL {s t s' t' : ev_M} {b : Int32} (h : RBx s t) (h0 : 0 ≤ (s.1 125 3).toInt) (hl : (s.1 125 3).toInt < 8) (h5 : (s.1 100 5).toInt ≤ 300) (hb : 1 ≤ b.toInt ∧ b.toInt ≤ 10) (e1 : s'.1 125 3 = s.1 125 3 + cI 1) (e2 : s'.1 127 = up1 (s.1 127) (ix (s.1 125 3)) b) (e3 : ∀ l, l < 8 → l ≠ ix (s.1 125 3) → s'.1 (130 + l) = s.1 (130 + l)) (e4 : ∀ k, k < 10 → s'.1 (130 + ix (s.1 125 3)) k = cI (-1)) (e5 : s'.1 100 5 = s.1 100 5) (e6 : t'.1 597 = t.1 597) (e7 : t'.1 598 = t.1 598) : RBx s' t' := by
  obtain ⟨q1, q2, q3⟩ := h
  have ex : ix (s.1 125 3 + cI 1) = ix (s.1 125 3) + 1 := ix_inc h0 (by omega)
  have xi : (s.1 125 3 + cI 1).toInt = (s.1 125 3).toInt + 1 := inc_i (by omega)
  have en : ix (s.1 125 3) = (s.1 125 3).toInt.toNat := ix_toNat _
  have e3' : ∀ l, l < ix (s.1 125 3) → rowsOf s' 130 8 l = rowsOf s 130 8 l := fun l hl2 => by
    rw [rows_at (by omega), rows_at (by omega), e3 l (by omega) (by omega)]
  have e4' : ∀ k, k < 10 → rowsOf s' 130 8 (ix (s.1 125 3)) k = cI (-1) := fun k hk => by
    rw [rows_at (by omega), e4 k hk]
  have hb10 : ix b ≤ 10 := by rw [ix_toNat]; omega
  unfold RBx
  rw [e1, e2, e5, e6, e7, ex]
  refine ⟨fun l k hl2 hk => ?_, fun i hi => ?_, fun i l k hi hl2 hk => ?_⟩
  · by_cases z : l = ix (s.1 125 3)
    · rw [z] at hk ⊢
      rw [up1_eq] at hk
      exact Or.inl (e4' k (by omega))
    · rw [up1_ne z] at hk
      rw [e3' l (by omega)]
      exact q1 l k (by omega) hk
  · rcases q2 i hi with z | ⟨z1, z2⟩
    · exact Or.inl z
    · refine Or.inr ?_
      have := z1.ix
      rw [up1_ne (by omega)]
      exact ⟨⟨z1.1, by have := z1.2; omega⟩, z2⟩
  · have i3 : i < 300 := by
      have : ix (s.1 100 5) = (s.1 100 5).toInt.toNat := ix_toNat _
      omega
    by_cases z : l = ix (s.1 125 3)
    · rw [z] at hk ⊢
      rw [up1_eq] at hk
      rw [e4' k (by omega)]
      constructor
      · intro g; exact absurd g (neg1_ne (by omega))
      · rintro ⟨g, -⟩
        rcases q2 i hi with y | ⟨y1, -⟩
        · rw [y.1] at g; exact absurd g (neg1_ne (by omega))
        · have y2 := y1.ix
          rw [g, ix_n _ (by omega)] at y2
          omega
    · rw [up1_ne z] at hk
      rw [e3' l (by omega)]
      exact q3 i l k hi (by omega) hk
section
variable {s t : ev_M} {F : Bool} {A : Nat → Nat → Int32}
theorem a_locker {a b : Int32} (hA : AdmC s F A) (hM : FulM t F) (h0 : t.1 549 15 = 0) (h : RLk s t) (hx : RBx s t) (hp : RPl s t) (hi : RIt s t) : Ok (fLock_make s a b) fun x => Ok (fM_doLocker t a b) fun y => AP (fun s' t' => (RLk s' t' ∧ RBx s' t') ∧ s' = s) (fun s' t' => (RLk s' t' ∧ RBx s' t') ∧ (s.1 125 3).toInt ≤ (s'.1 125 3).toInt) F A s x y := by
  obtain ⟨⟨n1, n2, n3⟩, g1, g2, g3, b1, b2, b3⟩ := id h
  obtain ⟨⟨p1, p2⟩, -⟩ := id hp
  obtain ⟨⟨-, -, i3⟩, -⟩ := id hi
  have hn : (fun s' t' => (RLk s' t' ∧ RBx s' t') ∧ s' = s) s (wI t 549 15 (cI 1)) := ⟨⟨h.keep rf_fr no_fr rfl rfl, hx.keep rf_fr no_fr rfl rfl⟩, rfl⟩
  by_cases h1 : Has a (s.1 30 2)
  rotate_left
  · exact sim_no (c := cI (-101)) (by simp only [fLock_make, fM_doLocker_b48, fM_doLocker, e_hasPlace p2.1, e_isPlace (by rw [p1]; exact p2.1), p1, n1, ltM_eq, ltI_eq, ltL_eq, bd1_some, bd2_some, ite_bI, if_true, if_false, ite_true, ite_false, eq_self, not_true_eq_false, not_false_eq_true, i10, outside_eq, in_eq, no_eq, eq_false h1]) (by simp only [fLock_make, fM_doLocker_b48, fM_doLocker, e_hasPlace p2.1, e_isPlace (by rw [p1]; exact p2.1), p1, n1, ltM_eq, ltI_eq, ltL_eq, bd1_some, bd2_some, ite_bI, if_true, if_false, ite_true, ite_false, eq_self, not_true_eq_false, not_false_eq_true, i10, outside_eq, in_eq, no_eq, eq_false h1]) hn
  by_cases h2 : InR b (cI 1) (cI 10)
  rotate_left
  · exact sim_no (c := cI (-102)) (by simp only [fLock_make, fM_doLocker_b48, fM_doLocker, e_hasPlace p2.1, e_isPlace (by rw [p1]; exact p2.1), p1, n1, ltM_eq, ltI_eq, ltL_eq, bd1_some, bd2_some, ite_bI, if_true, if_false, ite_true, ite_false, eq_self, not_true_eq_false, not_false_eq_true, i10, outside_eq, in_eq, no_eq, eq_true h1, eq_false h2]) (by simp only [fLock_make, fM_doLocker_b48, fM_doLocker, e_hasPlace p2.1, e_isPlace (by rw [p1]; exact p2.1), p1, n1, ltM_eq, ltI_eq, ltL_eq, bd1_some, bd2_some, ite_bI, if_true, if_false, ite_true, ite_false, eq_self, not_true_eq_false, not_false_eq_true, i10, outside_eq, in_eq, no_eq, eq_true h1, eq_false h2]) hn
  by_cases h7 : (s.1 125 3) < cI 8
  rotate_left
  · have h79 : (s.1 125 3) = cI 8 := cap_eq h7 (n3)
    exact sim_no (c := cI (-104)) (by simp only [fLock_make, fM_doLocker_b48, fM_doLocker, e_hasPlace p2.1, e_isPlace (by rw [p1]; exact p2.1), p1, n1, ltM_eq, ltI_eq, ltL_eq, bd1_some, bd2_some, ite_bI, if_true, if_false, ite_true, ite_false, eq_self, not_true_eq_false, not_false_eq_true, i10, outside_eq, in_eq, no_eq, eq_true h1, eq_true h2, eq_false h7, eq_true h79]) (by simp only [fLock_make, fM_doLocker_b48, fM_doLocker, e_hasPlace p2.1, e_isPlace (by rw [p1]; exact p2.1), p1, n1, ltM_eq, ltI_eq, ltL_eq, bd1_some, bd2_some, ite_bI, if_true, if_false, ite_true, ite_false, eq_self, not_true_eq_false, not_false_eq_true, i10, outside_eq, in_eq, no_eq, eq_true h1, eq_true h2, eq_false h7, eq_true h79]) hn
  have h79 : ¬ (s.1 125 3) = cI 8 := cap_ne h7
  by_cases hF : F = true
  · subst hF
    exact sim_no (c := cI (-104)) (by simp only [fLock_make, fM_doLocker_b48, fM_doLocker, e_hasPlace p2.1, e_isPlace (by rw [p1]; exact p2.1), p1, n1, ltM_eq, ltI_eq, ltL_eq, bd1_some, bd2_some, ite_bI, if_true, if_false, ite_true, ite_false, eq_self, not_true_eq_false, not_false_eq_true, i10, outside_eq, in_eq, no_eq, eq_true h1, eq_true h2, eq_true h7, eq_false h79, hA.no]) (by simp only [fLock_make, fM_doLocker_b48, fM_doLocker, e_hasPlace p2.1, e_isPlace (by rw [p1]; exact p2.1), p1, n1, ltM_eq, ltI_eq, ltL_eq, bd1_some, bd2_some, ite_bI, if_true, if_false, ite_true, ite_false, eq_self, not_true_eq_false, not_false_eq_true, i10, outside_eq, in_eq, no_eq, eq_true h1, eq_true h2, eq_true h7, eq_false h79, hM.no]) hn
  have hF2 : F = false := by cases F <;> simp_all
  subst hF2
  have hk7 : (s.1 125 3).toInt < 8 := lt_n h7
  have hb : inb (s.1 125 3) 8 = true := inb_iff.mpr ⟨n2, hk7⟩
  have k8 : ix (s.1 125 3) < 8 := by rw [ix_toNat]; omega
  have ei : ix (s.1 125 3 + cI 1) = ix (s.1 125 3) + 1 := ix_inc n2 (by omega)
  have e4 : (s.1 125 3 + cI 1).toInt = (s.1 125 3).toInt + 1 := inc_i (by omega)
  have wn : ∀ c, c < 130 → ∀ (m : ev_M), (wR m (130 + ix (s.1 125 3)) 0 10 (fun _ => cI (-1))).1 c = m.1 c := fun c hc m => wR_ne (by omega)
  have w125 : ∀ (m : ev_M), (wR m (130 + ix (s.1 125 3)) 0 10 (fun _ => cI (-1))).1 125 = m.1 125 := wn 125 (by decide)
  have b2' : 1 ≤ b.toInt ∧ b.toInt ≤ 10 := h2
  have a1 := h1.1
  have a2 := h1.2
  simp (maxSteps := 2000000) (disch := decide) only [fLock_make, fM_doLocker_b48, fM_doLocker, e_hasPlace p2.1, e_isPlace (by rw [p1]; exact p2.1), p1, n1, ltM_eq, ltI_eq, ltL_eq, bd1_some, bd2_some, ite_bI, if_true, if_false, ite_true, ite_false, eq_self, not_true_eq_false, not_false_eq_true, i10, outside_eq, in_eq, no_eq, eq_true h1, eq_true h2, eq_true h7, eq_false h79, hb, hA.yes, hM.yes, e_fArr_fillI_130, ix_0, ix_1, ix_2, ix_3, ix_4, ix_5, ix_6, ix_7, ix_8, ix_9, ix_10, ix_11, ix_12, ix_13, ix_14, ix_15, ix_16, ix_17, ix_18, ix_19, ix_20, ix_21, Nat.reduceAdd, wI_c, wI_ne, wL_1, lupd_ne, up1_eq, up1_ne, w125, ok_some]
  refine ⟨?_, Or.inr ⟨?_, rfl, ?_, ⟨?_, ?_⟩, ?_⟩⟩
  · rw [Int32.add_sub_cancel]
  · simp (disch := decide) only [ix_0, ix_1, ix_2, ix_3, ix_4, ix_5, ix_6, ix_7, ix_8, ix_9, ix_10, ix_11, ix_12, ix_13, ix_14, ix_15, ix_16, ix_17, ix_18, ix_19, ix_20, ix_21, Nat.reduceAdd, wI_c, wI_ne, wL_1, lupd_ne, up1_eq, up1_ne]; exact h0
  · exact ((((lgS.rf.wI (by decide) (by decide)).wI (by decide) (by decide)).wI (by decide) (by decide)).wR (by omega) (by omega)).wI (by decide) (by decide)
  · unfold RLk
    simp (disch := decide) only [ix_0, ix_1, ix_2, ix_3, ix_4, ix_5, ix_6, ix_7, ix_8, ix_9, ix_10, ix_11, ix_12, ix_13, ix_14, ix_15, ix_16, ix_17, ix_18, ix_19, ix_20, ix_21, Nat.reduceAdd, wI_c, wI_ne, wL_1, lupd_ne, up1_eq, up1_ne, wn]
    exact ⟨⟨trivial, by omega, by omega⟩, g1.ext rfl ei, g2.ext rfl ei, g3.ext rfl ei, b1.ext ⟨a1, by omega⟩ ei, b2.ext b2' ei, b3.ext ⟨by decide, by decide⟩ ei⟩
  · refine hx.newL n2 hk7 i3 b2' ?_ ?_ (fun l hl hl2 => ?_) (fun k hk => ?_) ?_ ?_ ?_
    · simp (disch := decide) only [ix_0, ix_1, ix_2, ix_3, ix_4, ix_5, ix_6, ix_7, ix_8, ix_9, ix_10, ix_11, ix_12, ix_13, ix_14, ix_15, ix_16, ix_17, ix_18, ix_19, ix_20, ix_21, Nat.reduceAdd, wI_c, wI_ne, wL_1, lupd_ne, up1_eq, up1_ne]
    · simp (disch := decide) only [ix_0, ix_1, ix_2, ix_3, ix_4, ix_5, ix_6, ix_7, ix_8, ix_9, ix_10, ix_11, ix_12, ix_13, ix_14, ix_15, ix_16, ix_17, ix_18, ix_19, ix_20, ix_21, Nat.reduceAdd, wI_c, wI_ne, wL_1, lupd_ne, up1_eq, up1_ne, wn]
    · rw [wI_ne (by omega), wR_ne (by omega), wI_ne (by omega), wI_ne (by omega), wI_ne (by omega), lupd_ne (by omega)]
    · rw [wI_ne (by omega), wR_1, if_pos ⟨rfl, by omega, hk⟩]
    · simp (disch := decide) only [ix_0, ix_1, ix_2, ix_3, ix_4, ix_5, ix_6, ix_7, ix_8, ix_9, ix_10, ix_11, ix_12, ix_13, ix_14, ix_15, ix_16, ix_17, ix_18, ix_19, ix_20, ix_21, Nat.reduceAdd, wI_c, wI_ne, wL_1, lupd_ne, up1_eq, up1_ne, wn]
    · simp (disch := decide) only [ix_0, ix_1, ix_2, ix_3, ix_4, ix_5, ix_6, ix_7, ix_8, ix_9, ix_10, ix_11, ix_12, ix_13, ix_14, ix_15, ix_16, ix_17, ix_18, ix_19, ix_20, ix_21, Nat.reduceAdd, wI_c, wI_ne, wL_1, lupd_ne, up1_eq, up1_ne]
    · simp (disch := decide) only [ix_0, ix_1, ix_2, ix_3, ix_4, ix_5, ix_6, ix_7, ix_8, ix_9, ix_10, ix_11, ix_12, ix_13, ix_14, ix_15, ix_16, ix_17, ix_18, ix_19, ix_20, ix_21, Nat.reduceAdd, wI_c, wI_ne, wL_1, lupd_ne, up1_eq, up1_ne]
  · simp (disch := decide) only [ix_0, ix_1, ix_2, ix_3, ix_4, ix_5, ix_6, ix_7, ix_8, ix_9, ix_10, ix_11, ix_12, ix_13, ix_14, ix_15, ix_16, ix_17, ix_18, ix_19, ix_20, ix_21, Nat.reduceAdd, wI_c, wI_ne, wL_1, lupd_ne, up1_eq, up1_ne]
    omega
end
