/-! ===== LEVEL 3: the memory at the start ===== -/
/-- the memory behind the constructors -/
def I0 (xs : Nat → Int32) (L : Nat) (y : ev_M) : Prop := y.2.2.1 = 682 ∧ (y.2.2.2.2.1 ≤ 2000 ∧ y.2.2.2.2.2 ≤ 4000000) ∧ (∀ c k, c < 682 → inF Fc_PH_init c k = false → inF Fc_M_init c k = false → y.1 c k = 0 ∧ y.2.1 c k = 0) ∧ (∀ c, 1000 ≤ c → y.1 c = stcT xs L c) ∧
  (y.1 15 1 = 0 ∧ y.1 15 2 = 0 ∧ y.1 15 7 = 0 ∧ y.1 52 2 = 0 ∧ y.1 52 13 = 0 ∧ y.1 138 3 = 0 ∧ y.1 138 9 = 0 ∧ y.1 138 10 = 0 ∧ y.1 52 3 = -1 ∧ y.1 7 1 = -1 ∧ y.1 9 10 = -1 ∧ y.1 172 0 = 4 ∧ y.1 172 1 = 100 ∧ y.1 172 2 = 50 ∧ y.1 172 3 = 80 ∧ (∀ k, k < 300 → y.1 20 k = -1) ∧ (∀ k, k < 300 → y.1 21 k = -1) ∧ (∀ k, k < 34 → y.1 28 k = 0) ∧ (∀ k, k < 8 → y.1 29 k = 0) ∧ (∀ k, k < 120 → y.1 158 k = -1)) ∧
  ((∀ k, k < 36 → y.1 657 k = cI (symL.getD k 0)) ∧ (∀ k, k < 4 → y.1 661 k = cI (rootsL.getD k 0)) ∧ (∀ k, k < 60 → y.1 663 k = cI (powsL.getD k 0)) ∧ y.1 549 6 = cI (-1) ∧ y.1 549 161 = cI (-1) ∧ (∀ k, k < 300 → y.1 610 k = 0) ∧ (∀ k, k < 8 → y.1 647 k = 0) ∧ (∀ k, [22, 23, 24, 27, 33, 38, 43, 48, 49, 51, 58, 87, 91, 93, 101, 107, 111, 114, 119, 125, 129, 134].contains k = true → y.1 549 k = 0) ∧ y.1 549 50 = cI (-1) ∧ y.1 549 83 = cI 4 ∧ y.1 549 84 = cI 100 ∧ y.1 549 85 = cI 50 ∧ y.1 549 86 = cI 80)
theorem mk_start {xs : Nat → Int32} {L : Nat} : s_make 1 12 (x_start xs L) = mkS (z_row 0 0 1 (stcT xs L)) (z_row 0 0 1 (fun _ _ => 0)) 1 (z_row false 0 1 (fun _ _ => false)) 1 12 := rfl
theorem l3_ini (xs : Nat → Int32) (L : Nat) : ∃ y, x_init xs L y := by
  obtain ⟨y1, e1, -⟩ := inv_C (z_row 0 0 1 (stcT xs L)) (z_row 0 0 1 (fun _ _ => 0)) (z_row false 0 1 (fun _ _ => false)) 1 12
  have e1 : gPH_init (s_make 1 12 (x_start xs L)) = some y1 := e1
  have n1 := (zi_gPH_init e1).2
  obtain ⟨y2, e2, -⟩ := inv_M (s := s_make 1 180 y1) (by show y1.2.2.1 + 1 = 550; rw [n1])
  exact ⟨_, y1, y2, e1, e2, rfl⟩
theorem fP_lt {c k : Nat} (h : 549 ≤ c) : inF Fc_PH_init c k = false := by
  apply Classical.byContradiction
  intro h1
  have h1 : inF Fc_PH_init c k = true := by simpa using h1
  obtain ⟨q, hq, h2⟩ := List.any_eq_true.mp h1
  have h3 : Fc_PH_init.all (fun q => Nat.ble q.2.1 548) = true := by decide +kernel
  have h4 := Nat.le_of_ble_eq_true (List.all_eq_true.mp h3 q hq)
  obtain ⟨h5, -⟩ := (Bool.and_eq_true _ _).mp h2
  have h6 := Nat.le_of_ble_eq_true ((Bool.and_eq_true _ _).mp h5).2
  omega
theorem fM_ge {c k : Nat} (h : c < 549) : inF Fc_M_init c k = false := by
  apply Classical.byContradiction
  intro h1
  have h1 : inF Fc_M_init c k = true := by simpa using h1
  obtain ⟨q, hq, h2⟩ := List.any_eq_true.mp h1
  have h3 : Fc_M_init.all (fun q => Nat.ble 549 q.1) = true := by decide +kernel
  have h4 := Nat.le_of_ble_eq_true (List.all_eq_true.mp h3 q hq)
  obtain ⟨h5, -⟩ := (Bool.and_eq_true _ _).mp h2
  have h6 := Nat.le_of_ble_eq_true ((Bool.and_eq_true _ _).mp h5).1
  omega
theorem fM_hi {c k : Nat} (h : 680 ≤ c) : inF Fc_M_init c k = false := by
  apply Classical.byContradiction
  intro h1
  have h1 : inF Fc_M_init c k = true := by simpa using h1
  obtain ⟨q, hq, h2⟩ := List.any_eq_true.mp h1
  have h3 : Fc_M_init.all (fun q => Nat.ble q.2.1 679) = true := by decide +kernel
  have h4 := Nat.le_of_ble_eq_true (List.all_eq_true.mp h3 q hq)
  obtain ⟨h5, -⟩ := (Bool.and_eq_true _ _).mp h2
  have h6 := Nat.le_of_ble_eq_true ((Bool.and_eq_true _ _).mp h5).2
  omega
theorem x_I0 {xs : Nat → Int32} {L : Nat} {y : ev_M} (h : x_init xs L y) : I0 xs L y := by
  obtain ⟨y1, y2, h1, h2, rfl⟩ := h
  obtain ⟨q1, e1, ⟨k1, k2⟩, hC⟩ := inv_C (z_row 0 0 1 (stcT xs L)) (z_row 0 0 1 (fun _ _ => 0)) (z_row false 0 1 (fun _ _ => false)) 1 12
  have e1 : gPH_init (s_make 1 12 (x_start xs L)) = some q1 := e1
  obtain rfl : y1 = q1 := Option.some.inj (h1.symm.trans e1)
  obtain ⟨⟨-, z1, -⟩, n1⟩ := zi_gPH_init e1
  have n2 : (s_make 1 180 y1).2.2.1 = 550 := by show y1.2.2.1 + 1 = 550; rw [n1]
  obtain ⟨q2, e2, hM⟩ := inv_M n2
  obtain rfl : y2 = q2 := Option.some.inj (h2.symm.trans e2)
  obtain ⟨⟨-, z2, -⟩, n3⟩ := zi_gM_init e2
  have c1 : y2.2.2.2.2.1 = (s_make 1 180 y1).2.2.2.2.1 + 131 := hM.2.2.2.2.2.2.2.2.2.2.2.2.2.1
  have c2 : y2.2.2.2.2.2 = (s_make 1 180 y1).2.2.2.2.2 + _ := hM.2.2.2.2.2.2.2.2.2.2.2.2.2.2
  have s1 : (s_make 1 12 (x_start xs L)).2.2.1 = 1 := rfl
  have y3 : ∀ c k, c < 681 ∨ 682 ≤ c → (s_make 1 1 y2).1 c k = y2.1 c k ∧ (s_make 1 1 y2).2.1 c k = y2.2.1 c k := fun c k hc => ⟨if_neg (by rw [n3]; omega), if_neg (by rw [n3]; omega)⟩
  have y3z : ∀ k, (s_make 1 1 y2).1 681 k = 0 ∧ (s_make 1 1 y2).2.1 681 k = 0 := fun k => ⟨if_pos (by rw [n3]; omega), if_pos (by rw [n3]; omega)⟩
  have y2l : ∀ c k, c < 549 → y2.1 c k = y1.1 c k ∧ y2.2.1 c k = y1.2.1 c k := fun c k hc => by
    obtain ⟨-, b⟩ := z2 c k (fM_ge hc)
    obtain ⟨b1, b2⟩ := b (Or.inl (by rw [n2]; omega))
    exact ⟨b1.trans (if_neg (by rw [n1]; omega)), b2.trans (if_neg (by rw [n1]; omega))⟩
  have yl : ∀ c k, c < 549 → (s_make 1 1 y2).1 c k = y1.1 c k := fun c k hc => (y3 c k (by omega)).1.trans (y2l c k hc).1
  have yh : ∀ c k, c < 681 → (s_make 1 1 y2).1 c k = y2.1 c k := fun c k hc => (y3 c k (by omega)).1
  refine ⟨by show y2.2.2.1 + 1 = 682; rw [n3], ⟨?_, ?_⟩, ?_, ?_, ?_, ?_⟩
  · show y2.2.2.2.2.1 + 1 ≤ 2000
    have a : (s_make 1 180 y1).2.2.2.2.1 = y1.2.2.2.2.1 + 1 := rfl
    omega
  · show y2.2.2.2.2.2 + 1 ≤ 4000000
    have a : (s_make 1 180 y1).2.2.2.2.2 = y1.2.2.2.2.2 + 180 := rfl
    omega
  · intro c k hc hP hMf
    by_cases g1 : c = 681
    · rw [g1]; exact y3z k
    · obtain ⟨a1, a2⟩ := y3 c k (by omega)
      rw [a1, a2]
      by_cases g2 : c < 549
      · obtain ⟨b1, b2⟩ := y2l c k g2
        rw [b1, b2]
        by_cases g3 : c = 0
        · obtain ⟨-, d⟩ := z1 c k hP
          obtain ⟨d1, d2⟩ := d (Or.inl (by rw [s1]; omega))
          exact ⟨d1.trans (if_pos (by rw [g3]; exact ⟨Nat.le_refl _, Nat.zero_lt_succ _⟩)), d2.trans (if_pos (by rw [g3]; exact ⟨Nat.le_refl _, Nat.zero_lt_succ _⟩))⟩
        · exact (z1 c k hP).1 (by rw [s1]; omega) (by rw [n1]; exact g2)
      · by_cases g3 : c = 549
        · obtain ⟨-, d⟩ := z2 c k hMf
          obtain ⟨d1, d2⟩ := d (Or.inl (by rw [n2]; omega))
          exact ⟨d1.trans (if_pos (by rw [n1]; omega)), d2.trans (if_pos (by rw [n1]; omega))⟩
        · exact (z2 c k hMf).1 (by rw [n2]; omega) (by rw [n3]; omega)
  · intro c hc
    funext k
    rw [(y3 c k (by omega)).1, ((z2 c k (fM_hi (by omega))).2 (Or.inr (by rw [n3]; omega))).1]
    rw [show (s_make 1 180 y1).1 c k = y1.1 c k from if_neg (by rw [n1]; omega), ((z1 c k (fP_lt (by omega))).2 (Or.inr (by rw [n1]; omega))).1]
    exact if_neg (by show ¬ (0 ≤ c ∧ c < 0 + 1); omega)
  · obtain ⟨v1, v2, v3, v4, v5, v6, v7, v8, v9, v10, v11, v12, v13, v14, v15, v16, v17, v18, v19, v20⟩ := hC
    exact ⟨(yl _ _ (by decide)).trans v1, (yl _ _ (by decide)).trans v2, (yl _ _ (by decide)).trans v3, (yl _ _ (by decide)).trans v4, (yl _ _ (by decide)).trans v5, (yl _ _ (by decide)).trans v6, (yl _ _ (by decide)).trans v7, (yl _ _ (by decide)).trans v8, (yl _ _ (by decide)).trans v9, (yl _ _ (by decide)).trans v10, (yl _ _ (by decide)).trans v11, (yl _ _ (by decide)).trans v12, (yl _ _ (by decide)).trans v13, (yl _ _ (by decide)).trans v14, (yl _ _ (by decide)).trans v15, fun k hk => (yl _ _ (by decide)).trans (v16 k hk), fun k hk => (yl _ _ (by decide)).trans (v17 k hk), fun k hk => (yl _ _ (by decide)).trans (v18 k hk), fun k hk => (yl _ _ (by decide)).trans (v19 k hk), fun k hk => (yl _ _ (by decide)).trans (v20 k hk)⟩
  · obtain ⟨v1, v2, v3, v4, v5, v6, v7, v8, v9, v10, v11, v12, v13, -, -⟩ := hM
    exact ⟨fun k hk => (yh _ _ (by decide)).trans (v1 k hk), fun k hk => (yh _ _ (by decide)).trans (v2 k hk), fun k hk => (yh _ _ (by decide)).trans (v3 k hk), (yh _ _ (by decide)).trans v4, (yh _ _ (by decide)).trans v5, fun k hk => (yh _ _ (by decide)).trans (v6 k hk), fun k hk => (yh _ _ (by decide)).trans (v7 k hk), fun k hk => (yh _ _ (by decide)).trans (v8 k hk), (yh _ _ (by decide)).trans v9, (yh _ _ (by decide)).trans v10, (yh _ _ (by decide)).trans v11, (yh _ _ (by decide)).trans v12, (yh _ _ (by decide)).trans v13⟩
