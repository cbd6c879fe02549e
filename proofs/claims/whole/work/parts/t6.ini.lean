/-! ===== LEVEL 3: the beginning, and the end ===== -/
section
variable {xs : Nat → Int32} {L : Nat} {y : ev_M}
theorem I0_ZC (h : I0 xs L y) : ZC y := by
  obtain ⟨n1, n2, n3, n4, ⟨a1, a2, a3, a4, a5, a6, a7, a8, a9, -, -, b0, b1, b2, b3, b4, b5, b6, b7, b8⟩, -⟩ := id h
  refine ⟨a1, a2, a3, fun i hi => b4 i hi, fun i hi => b5 i hi, b6, b7, I0_z h (by decide) rfl rfl, I0_z h (by decide) rfl rfl, I0_z h (by decide) rfl rfl, I0_z h (by decide) rfl rfl, I0_z h (by decide) rfl rfl, a4, a9, a5, I0_z h (by decide) rfl rfl, I0_z h (by decide) rfl rfl, I0_z h (by decide) rfl rfl, I0_z h (by decide) rfl rfl, I0_z h (by decide) rfl rfl, fun i _ => (n3 80 i (by decide) rfl rfl).2, I0_z h (by decide) rfl rfl, I0_z h (by decide) rfl rfl, I0_z h (by decide) rfl rfl, a6, a7, a8, fun i hi => b8 i hi, b0, b1, b2, b3, I0_z h (by decide) rfl rfl, I0_z h (by decide) rfl rfl⟩
theorem I0_ZM (h : I0 xs L y) : ZM y := by
  obtain ⟨n1, n2, n3, n4, -, m1, m2, m3, m4, m5, m6, m7, m8, m9, m10, m11, m12, m13⟩ := id h
  refine ⟨fun k hk => m8 k ?_, m10, m11, m12, m13, m6, m7⟩
  rcases hk with rfl | rfl | rfl | rfl | rfl | rfl | rfl | rfl | rfl | rfl | rfl | rfl | rfl | rfl | rfl | rfl | rfl | rfl | rfl | rfl | rfl <;> rfl
theorem I0_RH (h : I0 xs L y) : RH 0 y y := by
  have s4 := h.2.2.2.1 1004 (by decide)
  refine RH_0 (I0_ZC h) (I0_ZM h) ⟨fun i _ => ?_, ?_⟩ (fun k hk => ?_) ?_ ?_
  · rw [I0_z h (c := 51) (by decide) rfl rfl, I0_z h (c := 30) (k := 14) (by decide) rfl rfl]; decide
  · rw [I0_z h (c := 30) (k := 14) (by decide) rfl rfl]; exact ⟨by decide, by decide⟩
  · have e : ∀ k, k < 36 → cI (l1004.getD k 0) = cI (symL.getD k 0) ∧ (cI (symL.getD k 0)).toBitVec.toNat < 2 ^ 15 := by decide +kernel
    obtain ⟨e1, e2⟩ := e k hk
    have m : y.1 657 k = cI (symL.getD k 0) := h.2.2.2.2.2.1 k hk
    rw [s4, m]
    exact ⟨e1, e2⟩
  · show y.1 549 161 = y.1 7 1
    rw [h.2.2.2.2.2.2.2.2.2.1, h.2.2.2.2.1.2.2.2.2.2.2.2.2.2.1]
    rfl
  · exact I0_z h (c := 577) (by decide) rfl rfl
theorem I0_Cn (h : I0 xs L y) : Cn y y := by
  have e0 : ∀ k : Nat, k < 4 → cI (l1000.getD k 0) = cI ((DVn.getD k 0 : Nat) : Int) := by decide +kernel
  have e1 : ∀ k : Nat, k < 16 → cI (l1001.getD k 0) = cI ((LGn.getD k 0 : Nat) : Int) := by decide +kernel
  have e2 : ∀ k : Nat, k < 15 → cI (l1002.getD k 0) = cI ((PWn.getD k 0 : Nat) : Int) := by decide +kernel
  have e3 : ∀ k : Nat, k < 4 → cI (rootsL.getD k 0) = cI ((RTn.getD k 0 : Nat) : Int) := by decide +kernel
  have e4 : ∀ k : Nat, k < 60 → cI (powsL.getD k 0) = cI ((PSn.getD k 0 : Nat) : Int) := by decide +kernel
  refine ⟨fun k hk => ?_, fun k hk => ?_, fun k hk => ?_, fun k hk => ?_, fun k hk => ?_⟩
  · rw [h.2.2.2.1 1000 (by decide)]; exact e0 k hk
  · rw [h.2.2.2.1 1001 (by decide)]; exact e1 k hk
  · rw [h.2.2.2.1 1002 (by decide)]; exact e2 k hk
  · rw [h.2.2.2.2.2.2.1 k hk]; exact e3 k hk
  · rw [h.2.2.2.2.2.2.2.1 k hk]; exact e4 k hk
theorem I0_II (h : I0 xs L y) (hL : y.1 1021 0 = cI (L : Int)) : II L 0 y := by
  refine ⟨⟨0, by omega, I0_RH h, I0_Cn h, I0_log h, ?_, fun k _ => ?_⟩, hL, h.2.1.1, h.2.1.2⟩
  · refine ⟨by rw [(I0_t h).1, (I0_t h).2], by rw [(I0_t h).1]; decide, by rw [(I0_t h).1]; decide, fun k hk => ?_⟩
    rw [(I0_t h).1] at hk
    exact absurd hk (Nat.not_lt_zero _)
  · rw [I0_z h (c := 2) (by decide) rfl rfl]; rfl
end
