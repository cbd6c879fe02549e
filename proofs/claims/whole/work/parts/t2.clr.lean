/-! ===== LEVEL 3: the house cleared ===== -/
section
variable {s t s' t' : ev_M}
/-- an empty house -/
def ZC (s : ev_M) : Prop := s.1 15 1 = 0 ∧ s.1 15 2 = 0 ∧ s.1 15 7 = 0 ∧ (∀ i, i < 300 → s.1 20 i = cI (-1)) ∧ (∀ i, i < 300 → s.1 21 i = cI (-1)) ∧ (∀ i, i < 34 → s.1 28 i = 0) ∧ (∀ i, i < 8 → s.1 29 i = 0) ∧ s.1 30 2 = 0 ∧ s.1 30 4 = 0 ∧ s.1 30 7 = 0 ∧ s.1 30 9 = 0 ∧ s.1 30 11 = 0 ∧ s.1 52 2 = 0 ∧ s.1 52 3 = cI (-1) ∧ s.1 52 13 = 0 ∧ s.1 78 3 = 0 ∧ s.1 78 6 = 0 ∧ s.1 78 8 = 0 ∧ s.1 78 9 = 0 ∧ s.1 78 11 = 0 ∧ (∀ i, i < 34 → s.2.1 80 i = 0) ∧ s.1 100 5 = 0 ∧ s.1 100 6 = 0 ∧ s.1 125 3 = 0 ∧ s.1 138 3 = 0 ∧ s.1 138 9 = 0 ∧ s.1 138 10 = 0 ∧ (∀ i, i < 120 → s.1 158 i = cI (-1)) ∧ s.1 172 0 = cI 4 ∧ s.1 172 1 = cI 100 ∧ s.1 172 2 = cI 50 ∧ s.1 172 3 = cI 80 ∧ s.1 449 4 = 0 ∧ s.1 449 6 = 0
def ZM (t : ev_M) : Prop := (∀ k, k = 22 ∨ k = 23 ∨ k = 24 ∨ k = 27 ∨ k = 33 ∨ k = 38 ∨ k = 43 ∨ k = 48 ∨ k = 51 ∨ k = 58 ∨ k = 87 ∨ k = 91 ∨ k = 93 ∨ k = 101 ∨ k = 107 ∨ k = 111 ∨ k = 114 ∨ k = 119 ∨ k = 125 ∨ k = 129 ∨ k = 134 → t.1 549 k = 0) ∧ t.1 549 83 = cI 4 ∧ t.1 549 84 = cI 100 ∧ t.1 549 85 = cI 50 ∧ t.1 549 86 = cI 80 ∧ (∀ i, i < 300 → t.1 610 i = cI 0) ∧ ∀ i, i < 8 → t.1 647 i = 0
theorem isum_0 {f : Nat → Int64} : ∀ n, (∀ i, i < n → f i = 0) → isum f n = 0
  | 0, _ => rfl
  | n + 1, h => by
    have := isum_0 (f := f) n (fun i hi => h i (by omega))
    simp only [isum, this, h n (Nat.lt_succ_self _)]
    rfl
theorem RH_0 {q : Nat} (C : ZC s) (M : ZM t) (ak : RAk (300 * q) s t) (sy : Sym s t) (md : RMd s t) (h577 : t.1 577 0 = cI 0) : RH q s t := by
  obtain ⟨c1, c2, c3, c4, c5, c6, c7, c8, c9, c10, c11, c12, c13, c14, c15, c16, c17, c18, c19, c20, c21, c22, c23, c24, c25, c26, c27, c28, c29, c30, c31, c32, c33, c34⟩ := C
  obtain ⟨m0, m1, m2, m3, m4, m5, m6⟩ := M
  have z : ∀ {P : Nat → Prop}, ∀ i, i < ix (0 : Int32) → P i := fun i hi => absurd hi (Nat.not_lt_zero _)
  have r0 : ∀ {h : Int}, 0 ≤ h → Rg 0 (0 : Int32) h := fun hh => ⟨Int.le_refl _, hh⟩
  have ag : ∀ {f g : Nat → Int32}, Ag (ix (0 : Int32)) f g := fun i hi => absurd hi (Nat.not_lt_zero _)
  have bd : ∀ {f : Nat → Int32} {a b : Int}, Bd (ix (0 : Int32)) f a b := fun i hi => absurd hi (Nat.not_lt_zero _)
  have mz : ∀ k, k = 22 ∨ k = 23 ∨ k = 24 ∨ k = 27 ∨ k = 33 ∨ k = 38 ∨ k = 43 ∨ k = 48 ∨ k = 51 ∨ k = 58 ∨ k = 87 ∨ k = 91 ∨ k = 93 ∨ k = 101 ∨ k = 107 ∨ k = 111 ∨ k = 114 ∨ k = 119 ∨ k = 125 ∨ k = 129 ∨ k = 134 → t.1 549 k = 0 := m0
  refine ⟨?_, ?_, ⟨?_, ?_, ?_, ?_⟩, ?_, ?_, ak, ?_, ⟨?_, ?_, ?_⟩, ⟨⟨?_, ?_, ?_, ?_⟩, ⟨?_, ?_⟩, ⟨?_, ?_, ?_⟩⟩, ?_, ?_, ?_, ?_, ⟨?_, ?_, sy, fun _ => c14⟩, ?_, ?_, ?_, ?_, md⟩
  · -- time
    refine ⟨⟨by rw [m0 22 (by simp), c1], by rw [c1]; exact r0 (by decide)⟩, fun i hi => by rw [m6 i hi, c7 i hi], fun i hi => ?_⟩
    rw [c7 i hi]; decide
  · refine ⟨⟨by rw [m1, c29], by rw [c29]; decide, by rw [c29]; decide⟩, ⟨by rw [m2, c30], by rw [c30]; decide, by rw [c30]; decide⟩, by rw [m3, c31], by rw [m4, c32], by rw [c32]; decide, by rw [c32]; decide⟩
  · unfold RPl; rw [m0 24 (by simp), c8]
    exact ⟨⟨rfl, r0 (by decide)⟩, ag, fun i j _ hj => absurd hj (Nat.not_lt_zero _)⟩
  · unfold RSt; rw [m0 27 (by simp), c9]
    exact ⟨⟨rfl, r0 (by decide)⟩, ag, ag, ag, ag, z, bd, bd, bd, bd, z, fun i j _ hj => absurd hj (Nat.not_lt_zero _)⟩
  · unfold RRn; rw [m0 33 (by simp), c10]
    exact ⟨⟨rfl, r0 (by decide)⟩, ag, ag, ag, ag, bd, bd, bd, bd⟩
  · unfold RPo; rw [m0 38 (by simp), c11]
    exact ⟨⟨rfl, r0 (by decide)⟩, ag, ag, bd, bd, fun i j _ hj => absurd hj (Nat.not_lt_zero _)⟩
  · unfold ROr; rw [m0 43 (by simp), c12]
    exact ⟨⟨rfl, r0 (by decide)⟩, ag, ag, ag, ag, bd, bd, bd⟩
  · unfold RLn; rw [m0 93 (by simp), c33]
    exact ⟨⟨rfl, r0 (by decide)⟩, ag, ag, ag, ag, ag, ag, ag, bd, bd, bd, bd, bd, bd, bd⟩
  · unfold RCu; rw [m0 111 (by simp), c16]
    refine ⟨⟨rfl, r0 (by decide)⟩, z, z, fun i _ hi => c6 _ (by omega), z, fun i hi => ?_⟩
    rw [c6 i hi]; decide
  · unfold RLg; rw [m0 114 (by simp), c17, c16]
    refine ⟨⟨rfl, r0 (by decide)⟩, ag, ag, ag, ag, fun k hk => c21 k hk, fun k hk => ?_, isum_0 34 c21, fun k _ hk => ?_, fun k _ hk => c21 k hk⟩
    · rw [c21 k hk]; decide
    · rw [c21 k hk]; decide
  · unfold ROm; rw [m0 119 (by simp), c18, c19]
    exact ⟨⟨rfl, r0 (by decide)⟩, ag, ag, ag, ag, ag, rfl, bd, bd, bd, bd⟩
  · unfold RRm; rw [c17, c19]; decide
  · unfold RIt; rw [m0 58 (by simp), c22]
    exact ⟨⟨rfl, r0 (by decide)⟩, ag, ag, ag, ag, ag, ag, ag, ag, ag, bd, bd, bd, bd, bd, bd, bd, bd, bd⟩
  · unfold RIr; rw [c22]
    exact ⟨ag, ag, ag, ag, ag, ag, ag, bd, bd, bd, bd, bd, bd, bd⟩
  · unfold RCo; rw [m0 23 (by simp), c22, c23]
    exact ⟨⟨r0 (by omega), r0 (by omega)⟩, bd, bd, z, fun i j hi _ => absurd hi (Nat.not_lt_zero _), z, z⟩
  · unfold RSx; rw [c22]; exact z
  · unfold REv; rw [m0 129 (by simp), c2]
    refine ⟨⟨rfl, r0 (by omega)⟩, fun i hi => absurd hi (Nat.not_lt_zero _), fun i hi => absurd hi (Nat.not_lt_zero _), fun i hi => absurd hi (Nat.not_lt_zero _), fun i hi => ⟨[], ?_, ?_, List.Pairwise.nil, Nat.zero_le _, fun e => ⟨fun u => absurd u (List.not_mem_nil), fun u => absurd u.1 (Nat.not_lt_zero _)⟩⟩⟩
    · rw [c4 i hi]; exact rfl
    · rw [c5 i hi]; exact rfl
  · unfold RNt; rw [m0 134 (by simp), c3]
    exact ⟨⟨rfl, r0 (by omega)⟩, fun i hi => absurd hi (Nat.not_lt_zero _), fun i hi => absurd hi (Nat.not_lt_zero _), fun i hi => absurd hi (Nat.not_lt_zero _), fun i hi => absurd hi (Nat.not_lt_zero _)⟩
  · unfold RRw; rw [c22, c25]; exact ⟨bd, z⟩
  · unfold RBc; rw [c22, c34]; exact ⟨bd, z⟩
  · unfold RBx; rw [c22, c24]
    exact ⟨fun l b hl _ => absurd hl (Nat.not_lt_zero _), z, fun i l b hi _ _ => absurd hi (Nat.not_lt_zero _)⟩
  · unfold RRo; rw [m0 87 (by simp), c25]
    exact ⟨⟨rfl, r0 (by decide)⟩, ag, ag, ag, bd, bd, bd⟩
  · unfold RSp; rw [c25, c11]
    exact ⟨z, bd, ag, fun p _ hp => c28 p hp, z, fun r k hr _ => absurd hr (Nat.not_lt_zero _)⟩
  · unfold RLk; rw [m0 107 (by simp), c24]
    exact ⟨⟨rfl, r0 (by decide)⟩, ag, ag, ag, bd, bd, bd⟩
  · unfold RBg; rw [m0 101 (by simp), c34]
    exact ⟨⟨rfl, r0 (by decide)⟩, ag, ag, ag, ag, z, bd, bd, bd, bd⟩
  · unfold RSg; rw [m0 48 (by simp), c13]; exact ⟨rfl, Or.inl rfl⟩
  · refine ⟨0, fun _ => 0, by decide, by rw [c15]; rfl, by rw [m0 51 (by simp)]; rfl, rfl, fun l hl => absurd hl (Nat.not_lt_zero _), by decide, fun l hl => ?_, fun l hl => absurd hl (Nat.not_lt_zero _), fun l hl => absurd hl (Nat.not_lt_zero _)⟩
    obtain rfl : l = 0 := by omega
    exact h577
  · unfold RCk; rw [c22]; exact z
  · unfold RTa; rw [m0 125 (by simp), c20]
    exact ⟨⟨rfl, r0 (by decide)⟩, z, ag, ag, bd, bd⟩
  · unfold RSy; rw [m0 91 (by simp), c26, c27, c22]
    refine ⟨⟨rfl, r0 (by decide)⟩, [], ?_, List.Pairwise.nil, fun x hx => absurd hx (List.not_mem_nil), fun x hx => ⟨Or.inl (m5 x hx), fun u => absurd u (List.not_mem_nil), fun u => ?_⟩⟩
    · unfold Hol
      exact ⟨rfl, fun k hk => absurd hk (Nat.not_lt_zero _)⟩
    · rw [m5 x hx] at u; exact absurd u (by decide)
  · unfold RAv; rw [c33, c34]; exact ⟨z, z⟩
end
