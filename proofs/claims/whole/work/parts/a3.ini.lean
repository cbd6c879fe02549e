/-! ===== LEVEL 3: the memory behind the constructors: the reference's powers ===== -/
def rootsL : List Int := [2, 4, 8, 3]
def powsL : List Int := [9, 13, 15, 14, 7, 10, 5, 11, 12, 6, 3, 8, 4, 2, 1, 13, 14, 10, 11, 6, 8, 2, 9, 15, 7, 5, 12, 3, 4, 1, 15, 10, 12, 8, 1, 15, 10, 12, 8, 1, 15, 10, 12, 8, 1, 14, 11, 8, 9, 7, 12, 4, 13, 10, 6, 2, 15, 5, 3, 1]
theorem tim_ind {s : ev_M} : ∀ (n : Nat) (a b c d : Int32), gM_times_h4 s n a b c d = gM_times_h4 e_mem n a b c d
  | 0, _, _, _, _ => rfl
  | n + 1, a, b, c, d => by
    have ih : gM_times_h4 s n = gM_times_h4 e_mem n := by
      funext a b c d; exact tim_ind n a b c d
    unfold gM_times_h4 gM_times_b26 gM_times_b43
    rw [ih]
theorem pow_ind {s : ev_M} : ∀ (n : Nat) (a b c d : Int32), gM_power_h4 s n a b c d = gM_power_h4 e_mem n a b c d
  | 0, _, _, _, _ => rfl
  | n + 1, a, b, c, d => by
    have ih : gM_power_h4 s n = gM_power_h4 e_mem n := by
      funext a b c d; exact pow_ind n a b c d
    have it : ∀ x y, gM_times s x y = gM_times e_mem x y := fun x y => tim_ind _ _ _ _ _
    unfold gM_power_h4
    rw [ih]
    simp only [it]
theorem pow_all : ((List.range 60).all fun j => decide (gM_power e_mem (cI (rootsL.getD (ix (cI (j : Nat) / cI 15)) 0)) (cI 14 - irem (cI (j : Nat)) (cI 15)) = some (cI (powsL.getD j 0))) && (inb (cI (j : Nat) / cI 15) 4)) = true := by decide +kernel
theorem pow_at {s : ev_M} {x : Int32} (h0 : 0 ≤ x.toInt) (h1 : x.toInt < 60) (hr : ∀ k, k < 4 → s.1 661 k = cI (rootsL.getD k 0)) : inb (x / cI 15) 4 = true ∧ gM_power s (s.1 661 (ix (x / cI 15))) (cI 14 - irem x (cI 15)) = some (cI (powsL.getD (ix x) 0)) := by
  have h := List.all_eq_true.mp pow_all (ix x) (List.mem_range.mpr (by rw [ix_toNat]; omega))
  have e : cI ((ix x : Nat) : Int) = x := by rw [ix_int h0]; exact of_toInt x
  rw [e] at h
  obtain ⟨h2, h3⟩ := (Bool.and_eq_true _ _).mp h
  refine ⟨h3, ?_⟩
  rw [hr _ (inb_lt h3)]
  show gM_power_h4 s _ _ _ _ _ = _
  rw [pow_ind]
  exact of_decide_eq_true h2
theorem ini_pows {s : ev_M} (f1 : s.2.2.2.1 549 160 = true) (f2 : s.2.2.2.1 549 158 = true) (hr : ∀ k, k < 4 → s.1 661 k = cI (rootsL.getD k 0)) : gM_init_h1384 1048576 s (cI 0) = bd1 (gM_empty (wR s 663 0 60 (fun j => cI (powsL.getD j 0)))) fun q => some q := by
  have h := fill_gen gM_init_h1384 663 0 60 (fun j => cI (powsL.getD j 0)) (fun s => bd1 (gM_empty s) fun q => some q) (fun s => s.2.2.2.1 549 160 = true ∧ s.2.2.2.1 549 158 = true ∧ ∀ k, k < 4 → s.1 661 k = cI (rootsL.getD k 0)) (by decide) (fun n s x hp h0 h1 => ?_) (fun n s x hp h1 => ?_) (fun s k v hp => ⟨hp.1, hp.2.1, fun k hk => (congrFun (wI_ne (by decide)) k).trans (hp.2.2 k hk)⟩) 1048576 s (cI 0) ⟨f1, f2, hr⟩ (by decide) (by decide) (by decide)
  · exact h
  · obtain ⟨p1, p2, p3⟩ := hp
    obtain ⟨q1, q2⟩ := pow_at (s := s) h0 (by omega) p3
    have hlt : x < cI 60 := by rw [lt_i]; exact h1
    have hb : inb x 60 = true := inb_iff.mpr ⟨h0, by omega⟩
    simp only [gM_init_h1384, if_pos hlt, p1, p2, cond_true, if_neg (show ¬ cI 15 = 0 by decide), if_pos q1, q2, bd1_some, if_pos hb, ltM_eq, Nat.zero_add]
  · have hlt : ¬ x < cI 60 := by
      rw [lt_i, h1]
      exact Int.lt_irrefl _
    simp only [gM_init_h1384, if_neg hlt]
theorem ini_empty {s : ev_M} (f1 : s.2.2.2.1 549 92 = true) (f2 : s.2.2.2.1 549 138 = true) : ∃ q, gM_empty s = some q ∧ q.2 = s.2 ∧ (∀ c, c ≠ 549 → c ≠ 610 → c ≠ 647 → q.1 c = s.1 c) ∧ (∀ k, k < 300 → q.1 610 k = 0) ∧ (∀ k, 300 ≤ k → q.1 610 k = s.1 610 k) ∧ (∀ k, k < 8 → q.1 647 k = 0) ∧ (∀ k, 8 ≤ k → q.1 647 k = s.1 647 k) ∧ (∀ k, [22, 23, 24, 27, 33, 38, 43, 48, 49, 51, 58, 87, 91, 93, 101, 107, 111, 114, 119, 125, 129, 134].contains k = true → q.1 549 k = 0) ∧ q.1 549 50 = cI (-1) ∧ q.1 549 83 = cI 4 ∧ q.1 549 84 = cI 100 ∧ q.1 549 85 = cI 50 ∧ q.1 549 86 = cI 80 ∧ ∀ k, [22, 23, 24, 27, 33, 38, 43, 48, 49, 51, 58, 87, 91, 93, 101, 107, 111, 114, 119, 125, 129, 134, 50, 83, 84, 85, 86].contains k = false → q.1 549 k = s.1 549 k := by
  have h162 : ∀ u : ev_M, u.2.2.2.1 549 138 = true → gM_empty_h162 1048576 u (cI 0) = some (wR u 647 0 8 (fun _ => cI 0)) := fun u hu =>
    fill_gen gM_empty_h162 647 0 8 (fun _ => cI 0) some (fun s => s.2.2.2.1 549 138 = true) (by decide) (fun n s x hp h0 h1 => by
      have hlt : x < cI 8 := by rw [lt_i]; exact h1
      have hb : inb x 8 = true := inb_iff.mpr ⟨h0, by omega⟩
      simp only [gM_empty_h162, if_pos hlt, hp, cond_true, if_pos hb, ltM_eq, Nat.zero_add]) (fun n s x hp h1 => by
      have hlt : ¬ x < cI 8 := by
        rw [lt_i, h1]
        exact Int.lt_irrefl _
      simp only [gM_empty_h162, if_neg hlt]) (fun s k v hp => hp) 1048576 u (cI 0) hu (by decide) (by decide) (by decide)
  have h140 : ∀ u : ev_M, u.2.2.2.1 549 92 = true → u.2.2.2.1 549 138 = true → gM_empty_h140 1048576 u (cI 0) = some (wR (wR u 610 0 300 (fun _ => cI 0)) 647 0 8 (fun _ => cI 0)) := fun u hu hu2 => by
    have h := fill_gen gM_empty_h140 610 0 300 (fun _ => cI 0) (fun u => gM_empty_h162 1048576 u (cI 0)) (fun s => s.2.2.2.1 549 92 = true) (by decide) (fun n s x hp h0 h1 => by
      have hlt : x < cI 300 := by rw [lt_i]; exact h1
      have hb : inb x 300 = true := inb_iff.mpr ⟨h0, by omega⟩
      simp only [gM_empty_h140, if_pos hlt, hp, cond_true, if_pos hb, ltM_eq, Nat.zero_add]
      rfl) (fun n s x hp h1 => by
      have hlt : ¬ x < cI 300 := by
        rw [lt_i, h1]
        exact Int.lt_irrefl _
      simp only [gM_empty_h140, if_neg hlt]) (fun s k v hp => hp) 1048576 u (cI 0) hu (by decide) (by decide) (by decide)
    rw [h]
    exact h162 _ hu2
  refine ⟨_, by unfold gM_empty; simp only [ltM_eq]; exact h140 _ f1 f2, ?_, ?_, ?_, ?_, ?_, ?_, ?_, ?_, ?_, ?_, ?_, ?_, ?_⟩
  · rfl
  · intro c h1 h2 h3
    rw [wR_ne h3, wR_ne h2]
    simp only [wI_ne h1]
  · intro k hk
    rw [wR_ne (by decide), wR_1, if_pos ⟨rfl, by omega, by omega⟩]
    rfl
  · intro k hk
    rw [wR_ne (by decide), wR_1, if_neg (by omega)]
    simp (disch := decide) only [wI_ne]
  · intro k hk
    rw [wR_1, if_pos ⟨rfl, by omega, by omega⟩]
    rfl
  · intro k hk
    rw [wR_1, if_neg (by omega), wR_ne (by decide)]
    simp (disch := decide) only [wI_ne]
  · intro k hk
    rw [wR_ne (by decide), wR_ne (by decide)]
    have hm : k ∈ [22, 23, 24, 27, 33, 38, 43, 48, 49, 51, 58, 87, 91, 93, 101, 107, 111, 114, 119, 125, 129, 134] := by simpa using hk
    simp only [List.mem_cons, List.not_mem_nil, or_false] at hm
    rcases hm with rfl | rfl | rfl | rfl | rfl | rfl | rfl | rfl | rfl | rfl | rfl | rfl | rfl | rfl | rfl | rfl | rfl | rfl | rfl | rfl | rfl | rfl <;> (simp (disch := decide) only [wI_c, up1_eq, up1_ne]; rfl)
  · rw [wR_ne (by decide), wR_ne (by decide)]
    simp (disch := decide) only [wI_c, up1_eq, up1_ne]
  · rw [wR_ne (by decide), wR_ne (by decide)]
    simp (disch := decide) only [wI_c, up1_eq, up1_ne]
  · rw [wR_ne (by decide), wR_ne (by decide)]
    simp (disch := decide) only [wI_c, up1_eq, up1_ne]
  · rw [wR_ne (by decide), wR_ne (by decide)]
    simp (disch := decide) only [wI_c, up1_eq, up1_ne]
  · rw [wR_ne (by decide), wR_ne (by decide)]
    simp (disch := decide) only [wI_c, up1_eq, up1_ne]
  · intro k hk
    rw [wR_ne (by decide), wR_ne (by decide)]
    have hm : ¬ k ∈ [22, 23, 24, 27, 33, 38, 43, 48, 49, 51, 58, 87, 91, 93, 101, 107, 111, 114, 119, 125, 129, 134, 50, 83, 84, 85, 86] := by simpa using hk
    simp only [List.mem_cons, List.not_mem_nil, or_false, not_or] at hm
    obtain ⟨n0, n1, n2, n3, n4, n5, n6, n7, n8, n9, n10, n11, n12, n13, n14, n15, n16, n17, n18, n19, n20, n21, n22, n23, n24, n25, n26⟩ := hm
    simp only [wI_c]
    simp only [up1_ne, n0, n1, n2, n3, n4, n5, n6, n7, n8, n9, n10, n11, n12, n13, n14, n15, n16, n17, n18, n19, n20, n21, n22, n23, n24, n25, n26, ne_eq, not_false_eq_true]
