/-! ===== LEVEL 3: bars: one wrong sign, class and reference ===== -/
def Sol (S : Nat → Nat) (p v : Nat) : Prop := p < 15 ∧ 1 ≤ v ∧ v < 16 ∧ ∀ j : Nat, j < 4 → eS p v j = S j
def ceN (a b : Nat) : Nat := (LGn.getD b 0 + 15 - LGn.getD a 0) % 15
def cvN (a b : Nat) : Nat := PWn.getD ((LGn.getD a 0 + 15 - ceN a b) % 15) 0
theorem cand_ok : ∀ p : Nat, p < 15 → ∀ v : Nat, v < 16 → 1 ≤ v → eS p v 0 ≠ 0 ∧ eS p v 1 ≠ 0 ∧ ceN (eS p v 0) (eS p v 1) = 14 - p ∧ cvN (eS p v 0) (eS p v 1) = v := by decide +kernel
theorem Sol.un {S : Nat → Nat} {p v p' v' : Nat} (h : Sol S p v) (h' : Sol S p' v') : p = p' ∧ v = v' := by
  obtain ⟨a1, a2, a3, a4⟩ := h
  obtain ⟨b1, b2, b3, b4⟩ := h'
  obtain ⟨-, -, c1, c2⟩ := cand_ok p a1 v a3 a2
  obtain ⟨-, -, e1, e2⟩ := cand_ok p' b1 v' b3 b2
  rw [a4 0 (by decide), a4 1 (by decide)] at c1 c2
  rw [b4 0 (by decide), b4 1 (by decide)] at e1 e2
  omega
theorem PW_1 : ∀ k : Nat, k < 15 → 1 ≤ PWn.getD k 0 := by decide +kernel
theorem fl_t : ∀ a : Nat, a < 15 → ∀ b : Nat, b < 15 → (if cI 15 = 0 then none else ltI (irem (cI (a : Int) - cI (b : Int)) (cI 15)) fun v1 => if ((cI (a : Int) - cI (b : Int)) ^^^ cI 15) < 0 then (if v1 = 0 then some v1 else some (v1 + cI 15)) else some v1) = some (cI (((a + 15 - b) % 15 : Nat) : Int)) := by decide +kernel
theorem fl_ok {s : ev_M} {a b : Nat} (ha : a < 15) (hb : b < 15) : fMath_floorMod s (cI (a : Int) - cI (b : Int)) (cI 15) = some (cI (((a + 15 - b) % 15 : Nat) : Int)) := fl_t a ha b hb
theorem sr_cI {W k : Nat} (hW : W < 65536) (hk : k < 31) : cI (W : Int) >>> (cI (k : Int) &&& 31) = cI ((W / 2 ^ k : Nat) : Int) := by
  have lt : W / 2 ^ k ≤ W := Nat.div_le_self _ _
  refine q_bv ?_ (by omega)
  have e : ((cI (k : Int) &&& 31).toBitVec.smod 32).toNat = k := by
    have : ∀ k : Nat, k < 31 → ((cI (k : Int) &&& 31).toBitVec.smod 32).toNat = k := by decide +kernel
    exact this k hk
  rw [Int32.toBitVec_shiftRight, BitVec.sshiftRight_eq', e, BitVec.sshiftRight_eq_of_msb_false (BitVec.msb_eq_false_iff_two_mul_lt.mpr (by rw [cI_bv (by omega)]; omega)), BitVec.toNat_ushiftRight, cI_bv (by omega), Nat.shiftRight_eq_div_pow]
section
variable {s t : ev_M} {S : Nat → Nat}
theorem mo_C (h : Cn s t) (hS : ∀ j : Nat, j < 4 → S j < 16) : (∃ p v, Sol S p v ∧ fBars_mendsOne s (cI ((w4 S : Nat) : Int)) = some (wI s 8 p (s.1 8 p ^^^ cI (v : Int)), cI 1)) ∨ ((∀ p v, ¬ Sol S p v) ∧ fBars_mendsOne s (cI ((w4 S : Nat) : Int)) = some (s, cI 0)) := by
  have lw := w4_lt hS
  have s0 := hS 0 (by decide)
  have s1 := hS 1 (by decide)
  have s2 := hS 2 (by decide)
  have s3 := hS 3 (by decide)
  have e1 : (cI ((w4 S : Nat) : Int) >>> (cI 12 &&& 31)) &&& cI 15 = cI (S 0 : Int) := by
    have := sr_cI (k := 12) lw (by decide)
    rw [show cI 12 = cI ((12 : Nat) : Int) from rfl, this, n_cI (by omega)]
    congr 2
    unfold w4
    omega
  have e2 : (cI ((w4 S : Nat) : Int) >>> (cI 8 &&& 31)) &&& cI 15 = cI (S 1 : Int) := by
    have := sr_cI (k := 8) lw (by decide)
    rw [show cI 8 = cI ((8 : Nat) : Int) from rfl, this, n_cI (by omega)]
    congr 2
    unfold w4
    omega
  unfold fBars_mendsOne
  rw [e1, e2, ltI_eq, ltI_eq]
  by_cases z0 : S 0 = 0
  · refine Or.inr ⟨fun p v u => ?_, by rw [if_pos ((c0_n (by omega)).mpr z0)]⟩
    obtain ⟨c, -⟩ := cand_ok p u.1 v u.2.2.1 u.2.1
    exact c ((u.2.2.2 0 (by decide)).trans z0)
  rw [if_neg (fun u => z0 ((c0_n (by omega)).mp u))]
  by_cases z1 : S 1 = 0
  · refine Or.inr ⟨fun p v u => ?_, by rw [if_pos ((c0_n (by omega)).mpr z1)]⟩
    obtain ⟨-, c, -⟩ := cand_ok p u.1 v u.2.2.1 u.2.1
    exact c ((u.2.2.2 1 (by decide)).trans z1)
  rw [if_neg (fun u => z1 ((c0_n (by omega)).mp u))]
  have l0 := LG_lt _ s0
  have l1 := LG_lt _ s1
  have m1 := Nat.mod_lt (LGn.getD (S 1) 0 + 15 - LGn.getD (S 0) 0) (show 0 < 15 by decide)
  have m2 := Nat.mod_lt (LGn.getD (S 0) 0 + 15 - ceN (S 0) (S 1)) (show 0 < 15 by decide)
  have m1' : ceN (S 0) (S 1) < 15 := m1
  have hv := PW_lt _ m2
  have hv1 := PW_1 _ m2
  have e14 : cI 14 - cI ((ceN (S 0) (S 1) : Nat) : Int) = cI ((14 - ceN (S 0) (S 1) : Nat) : Int) := q_sb (a := 14) (by omega) (by decide)
  have f1 : fMath_floorMod s (cI ((LGn.getD (S 1) 0 : Nat) : Int) - cI ((LGn.getD (S 0) 0 : Nat) : Int)) (cI 15) = some (cI ((ceN (S 0) (S 1) : Nat) : Int)) := fl_ok l1 l0
  have f2 : fMath_floorMod s (cI ((LGn.getD (S 0) 0 : Nat) : Int) - cI ((ceN (S 0) (S 1) : Nat) : Int)) (cI 15) = some (cI (((LGn.getD (S 0) 0 + 15 - ceN (S 0) (S 1)) % 15 : Nat) : Int)) := fl_ok l0 m1'
  have sm := sm_C h (p := 14 - ceN (S 0) (S 1)) (by omega) hv
  have leS : ∀ j : Nat, j < 4 → eS (14 - ceN (S 0) (S 1)) (PWn.getD ((LGn.getD (S 0) 0 + 15 - ceN (S 0) (S 1)) % 15) 0) j < 16 := fun j _ => eS_lt hv j
  have le := w4_lt leS
  rw [if_pos (q_in s1 (by decide)), if_pos (q_in s0 (by decide)), q_ix (by omega), q_ix (by omega), h.2.1 _ s1, h.2.1 _ s0, f1, bd1_some, if_pos (q_in s0 (by decide)), f2, bd1_some, if_pos (q_in m2 (by decide)), q_ix (by omega), h.2.2.1 _ m2, ltI_eq, e14, ltI_eq, sm, bd1_some]
  by_cases w : ∀ j : Nat, j < 4 → eS (14 - ceN (S 0) (S 1)) (PWn.getD ((LGn.getD (S 0) 0 + 15 - ceN (S 0) (S 1)) % 15) 0) j = S j
  · refine Or.inl ⟨_, _, ⟨by omega, hv1, hv, w⟩, ?_⟩
    rw [if_pos (by rw [(w4_in leS hS).mpr w]), if_pos (q_in (by omega) (by decide)), if_pos (q_in (by omega) (by decide)), ltM_eq, q_ix (by omega)]
  · refine Or.inr ⟨fun p v u => w ?_, ?_⟩
    · obtain ⟨-, -, c1, c2⟩ := cand_ok p u.1 v u.2.2.1 u.2.1
      rw [u.2.2.2 0 (by decide), u.2.2.2 1 (by decide)] at c1 c2
      have c2' : PWn.getD ((LGn.getD (S 0) 0 + 15 - ceN (S 0) (S 1)) % 15) 0 = v := c2
      have u1 := u.1
      rw [c2', show 14 - ceN (S 0) (S 1) = p by omega]
      exact u.2.2.2
    · rw [if_neg]
      intro e
      rw [eq_i, q_ti (by omega), q_ti (by omega)] at e
      exact w ((w4_in leS hS).mp (by omega))
/-- does one sign explain the sums? -/
theorem mds_M (h : Cn s t) (hS : ∀ j : Nat, j < 4 → t.1 662 j = cI (S j : Int) ∧ S j < 16) {p v : Nat} (hp : p < 15) (hv : v < 16) : ((∀ j : Nat, j < 4 → eS p v j = S j) ∧ fM_mends t (cI (p : Int)) (cI (v : Int)) = some (cI 1)) ∨ (¬ (∀ j : Nat, j < 4 → eS p v j = S j) ∧ fM_mends t (cI (p : Int)) (cI (v : Int)) = some (cI 0)) := by
  have n1 : ¬ cI 1 = 0 := by decide
  have k0 : ∀ (r m k : Nat), k + r = 4 → r < m → fM_mends_h5 t m (cI (p : Int)) (cI (v : Int)) (cI 0) (cI (k : Int)) = some (cI 0) := by
    intro r
    induction r with
    | zero =>
      intro m k hk hm
      obtain ⟨m, rfl⟩ : ∃ k, m = k + 1 := ⟨m - 1, by omega⟩
      rw [show k = 4 by omega, fM_mends_h5, if_neg (by decide), if_pos (by decide)]
    | succ r ih =>
      intro m k hk hm
      obtain ⟨m, rfl⟩ : ∃ k, m = k + 1 := ⟨m - 1, by omega⟩
      rw [fM_mends_h5, if_pos (by rw [lt_i, q_ti (by omega), show (cI 4).toInt = 4 from rfl]; omega), if_pos (show cI 0 = 0 from rfl)]
      unfold fM_mends_b45 fM_mends_b46
      rw [q_s (by omega)]
      exact ih m (k + 1) (by omega) (by omega)
  have k1 : ∀ (r m k : Nat), k + r = 4 → r < m → (∀ j, j < k → eS p v j = S j) → ((∀ j : Nat, j < 4 → eS p v j = S j) ∧ fM_mends_h5 t m (cI (p : Int)) (cI (v : Int)) (cI 1) (cI (k : Int)) = some (cI 1)) ∨ (¬ (∀ j : Nat, j < 4 → eS p v j = S j) ∧ fM_mends_h5 t m (cI (p : Int)) (cI (v : Int)) (cI 1) (cI (k : Int)) = some (cI 0)) := by
    intro r
    induction r with
    | zero =>
      intro m k hk hm hq
      obtain ⟨m, rfl⟩ : ∃ k, m = k + 1 := ⟨m - 1, by omega⟩
      refine Or.inl ⟨fun j hj => hq j (by omega), ?_⟩
      rw [show k = 4 by omega, fM_mends_h5, if_neg (by decide), if_pos (by decide)]
    | succ r ih =>
      intro m k hk hm hq
      obtain ⟨m, rfl⟩ : ∃ k, m = k + 1 := ⟨m - 1, by omega⟩
      obtain ⟨g1, g2⟩ := hS k (by omega)
      have em : cI 15 * cI (k : Int) + cI (p : Int) = cI ((15 * k + p : Nat) : Int) := by
        have := q_mul0 (a := 15) (b := k) (by decide) (by omega) (by omega)
        rw [show cI 15 = cI ((15 : Nat) : Int) from rfl, this, q_ad (by omega)]
      have st : fM_mends_h5 t (m + 1) (cI (p : Int)) (cI (v : Int)) (cI 1) (cI (k : Int)) = if cI ((eS p v k : Nat) : Int) = cI (S k : Int) then fM_mends_h5 t m (cI (p : Int)) (cI (v : Int)) (cI 1) (cI ((k + 1 : Nat) : Int)) else fM_mends_h5 t m (cI (p : Int)) (cI (v : Int)) (cI 0) (cI ((k + 1 : Nat) : Int)) := by
        rw [fM_mends_h5, if_pos (by rw [lt_i, q_ti (by omega), show (cI 4).toInt = 4 from rfl]; omega), if_neg n1, em, if_pos (q_in (by omega) (by decide)), q_ix (by omega), h.2.2.2.2 _ (by omega), pw_PS k (by omega) p hp, tm_M hv (pw_lt _ _), bd1_some, if_pos (q_in (by omega) (by decide)), q_ix (by omega), g1]
        unfold fM_mends_b45 fM_mends_b46
        rw [q_s (by omega)]
        rfl
      have le := eS_lt (p := p) hv k
      rw [st]
      by_cases w : eS p v k = S k
      · rw [if_pos (by rw [w])]
        exact ih m (k + 1) (by omega) (by omega) (fun j hj => by
          by_cases y : j = k
          · rw [y]; exact w
          · exact hq j (by omega))
      · rw [if_neg (by rw [eq_i, q_ti (by omega), q_ti (by omega)]; omega)]
        exact Or.inr ⟨fun u => w (u k (by omega)), k0 r m (k + 1) (by omega) (by omega)⟩
  exact k1 4 1048576 0 (by decide) (by decide) (fun j hj => absurd hj (Nat.not_lt_zero _))
def FmdM : List (Nat × (Nat × Nat)) := [(660, 660, 0), (662, 662, 0)]
/-- a sign is changed, and the sums with it -/
theorem chg_M (h : Cn s t) (hS : ∀ j : Nat, j < 4 → t.1 662 j = cI (S j : Int) ∧ S j < 16) {p v : Nat} (hp : p < 15) (hv : v < 16) : ∃ t', fM_change t (cI (p : Int)) (cI (v : Int)) = some t' ∧ t'.1 660 = up1 (t.1 660) p (t.1 660 p ^^^ cI (v : Int)) ∧ (∀ j : Nat, j < 4 → t'.1 662 j = cI ((S j ^^^ eS p v j : Nat) : Int) ∧ S j ^^^ eS p v j < 16) ∧ fr FmdM t t' := by
  have key : ∀ (r m k : Nat) (u : ev_M), k + r = 4 → r < m → Cn s u → (∀ j : Nat, j < 4 → u.1 662 j = cI (((if j < k then S j ^^^ eS p v j else S j) : Nat) : Int)) → ∃ u', fM_change_h16 m u (cI (p : Int)) (cI (v : Int)) (cI (k : Int)) = some u' ∧ (∀ j : Nat, j < 4 → u'.1 662 j = cI ((S j ^^^ eS p v j : Nat) : Int)) ∧ fr [(662, 662, 0)] u u' := by
    intro r
    induction r with
    | zero =>
      intro m k u hk hm hc hu
      obtain ⟨m, rfl⟩ : ∃ k, m = k + 1 := ⟨m - 1, by omega⟩
      refine ⟨u, ?_, fun j hj => ?_, fr.rf⟩
      · rw [show k = 4 by omega, fM_change_h16, if_neg (by decide)]
      · rw [hu j hj, if_pos (by omega)]
    | succ r ih =>
      intro m k u hk hm hc hu
      obtain ⟨m, rfl⟩ : ∃ k, m = k + 1 := ⟨m - 1, by omega⟩
      have em : cI 15 * cI (k : Int) + cI (p : Int) = cI ((15 * k + p : Nat) : Int) := by
        have := q_mul0 (a := 15) (b := k) (by decide) (by omega) (by omega)
        rw [show cI 15 = cI ((15 : Nat) : Int) from rfl, this, q_ad (by omega)]
      have le := eS_lt (p := p) hv k
      have g2 := (hS k (by omega)).2
      have uk : u.1 662 k = cI (S k : Int) := by rw [hu k (by omega), if_neg (Nat.lt_irrefl _)]
      have f1 : fr [(662, 662, 0)] u (wI u 662 k (cI ((S k ^^^ eS p v k : Nat) : Int))) := fr.rf.wI rfl
      obtain ⟨u', a1, a2, a3⟩ := ih m (k + 1) (wI u 662 k (cI ((S k ^^^ eS p v k : Nat) : Int))) (by omega) (by omega) (hc.keep rf_fr f1 (by decide +kernel) (by decide +kernel)) (fun j hj => by
        rw [wI_c]
        by_cases y : j = k
        · rw [y, up1_eq, if_pos (Nat.lt_succ_self _)]
        · rw [up1_ne y, hu j hj]
          by_cases z : j < k
          · rw [if_pos z, if_pos (by omega)]
          · rw [if_neg z, if_neg (by omega)])
      refine ⟨u', ?_, a2, f1.tr a3⟩
      rw [← a1, fM_change_h16, if_pos (by rw [lt_i, q_ti (by omega), show (cI 4).toInt = 4 from rfl]; omega), if_pos (q_in (by omega) (by decide)), em, if_pos (q_in (by omega) (by decide)), q_ix (by omega), hc.2.2.2.2 _ (by omega), pw_PS k (by omega) p hp, tm_M hv (pw_lt _ _), bd1_some, if_pos (q_in (by omega) (by decide)), q_ix (by omega), ltM_eq, uk, x_cI (by omega) (show gm v (pw k (14 - p)) < 65536 by have : gm v (pw k (14 - p)) < 16 := le; omega), q_s (by omega)]
      rfl
  have f0 : fr [(660, 660, 0)] t (wI t 660 p (t.1 660 p ^^^ cI (v : Int))) := fr.rf.wI rfl
  obtain ⟨t', a1, a2, a3⟩ := key 4 1048576 0 (wI t 660 p (t.1 660 p ^^^ cI (v : Int))) (by decide) (by decide) (h.keep rf_fr f0 (by decide +kernel) (by decide +kernel)) (fun j hj => by
    rw [wI_ne (by decide), if_neg (Nat.not_lt_zero _)]; exact (hS j hj).1)
  refine ⟨t', ?_, ?_, fun j hj => ⟨a2 j hj, xr_lt (hS j hj).2 (eS_lt hv j)⟩, (f0.mono (by decide +kernel)).tr (a3.mono (by decide +kernel))⟩
  · unfold fM_change
    rw [if_pos (q_in hp (by decide)), if_pos (q_in hp (by decide)), ltM_eq, q_ix (by omega)]
    exact a1
  · rw [show t'.1 660 = (wI t 660 p (t.1 660 p ^^^ cI (v : Int))).1 660 from funext fun i => (a3.1 660 i rfl).1, wI_c]
/-- one sign is looked for from a place on -/
theorem mo_M (h : Cn s t) (hS : ∀ j : Nat, j < 4 → t.1 662 j = cI (S j : Int) ∧ S j < 16) {a : Nat} {c : Int32} (ha : a ≤ 15) : (∃ p v t1, a ≤ p ∧ Sol S p v ∧ fM_change t (cI (p : Int)) (cI (v : Int)) = some t1 ∧ fM_mendOne t (cI (a : Int)) c = some (wI t1 549 161 (c + cI 1), cI 1)) ∨ ((∀ p v, a ≤ p → ¬ Sol S p v) ∧ fM_mendOne t (cI (a : Int)) c = some (t, cI 0)) := by
  have inn : ∀ (k2 : ev_M → Int32 → Int32 → Option (ev_M × Int32)) (p : Nat), p < 15 → ∀ (r m v : Nat), v + r = 16 → r < m → 1 ≤ v → (∀ v', v' < v → ¬ Sol S p v') → (∃ v' t1, Sol S p v' ∧ fM_change t (cI (p : Int)) (cI (v' : Int)) = some t1 ∧ fM_mendOne_h11 k2 m t c (cI (p : Int)) (cI (v : Int)) = some (wI t1 549 161 (c + cI 1), cI 1)) ∨ ((∀ v', ¬ Sol S p v') ∧ fM_mendOne_h11 k2 m t c (cI (p : Int)) (cI (v : Int)) = k2 t c (cI ((p + 1 : Nat) : Int))) := by
    intro k2 p hp r
    induction r with
    | zero =>
      intro m v hv hm h1 hq
      obtain ⟨m, rfl⟩ : ∃ k, m = k + 1 := ⟨m - 1, by omega⟩
      refine Or.inr ⟨fun v' u => hq v' (by have := u.2.2.1; omega) u, ?_⟩
      rw [show v = 16 by omega, fM_mendOne_h11, if_neg (by decide), q_s (by omega)]
    | succ r ih =>
      intro m v hv hm h1 hq
      obtain ⟨m, rfl⟩ : ∃ k, m = k + 1 := ⟨m - 1, by omega⟩
      have lt : cI (v : Int) < cI 16 := by rw [lt_i, q_ti (by omega), show (cI 16).toInt = 16 from rfl]; omega
      rcases mds_M h hS hp (show v < 16 by omega) with ⟨w1, w2⟩ | ⟨w1, w2⟩
      · obtain ⟨t1, c1, -⟩ := chg_M h hS hp (show v < 16 by omega)
        refine Or.inl ⟨v, t1, ⟨hp, h1, by omega, w1⟩, c1, ?_⟩
        rw [fM_mendOne_h11, if_pos lt, w2, bd1_some, if_neg (show ¬ cI 1 = 0 by decide), c1, bd1_some, ltM_eq]
      · have st : fM_mendOne_h11 k2 (m + 1) t c (cI (p : Int)) (cI (v : Int)) = fM_mendOne_h11 k2 m t c (cI (p : Int)) (cI ((v + 1 : Nat) : Int)) := by
          rw [fM_mendOne_h11, if_pos lt, w2, bd1_some, if_pos (show cI 0 = 0 from rfl), q_s (by omega)]
        rw [st]
        exact ih m (v + 1) (by omega) (by omega) (by omega) (fun v' hv' u => by
          by_cases y : v' = v
          · rw [y] at u; exact w1 u.2.2.2
          · exact hq v' (by omega) u)
  have out : ∀ (r m p : Nat), p + r = 15 → r < m → a ≤ p → (∀ p' v, a ≤ p' → p' < p → ¬ Sol S p' v) → (∃ p' v t1, a ≤ p' ∧ Sol S p' v ∧ fM_change t (cI (p' : Int)) (cI (v : Int)) = some t1 ∧ fM_mendOne_h2 m t c (cI (p : Int)) = some (wI t1 549 161 (c + cI 1), cI 1)) ∨ ((∀ p' v, a ≤ p' → ¬ Sol S p' v) ∧ fM_mendOne_h2 m t c (cI (p : Int)) = some (t, cI 0)) := by
    intro r
    induction r with
    | zero =>
      intro m p hp hm hap hq
      obtain ⟨m, rfl⟩ : ∃ k, m = k + 1 := ⟨m - 1, by omega⟩
      refine Or.inr ⟨fun p' v h1 u => hq p' v h1 (by have := u.1; omega) u, ?_⟩
      rw [show p = 15 by omega, fM_mendOne_h2, if_neg (by decide)]
    | succ r ih =>
      intro m p hp hm hap hq
      obtain ⟨m, rfl⟩ : ∃ k, m = k + 1 := ⟨m - 1, by omega⟩
      have lt : cI (p : Int) < cI 15 := by rw [lt_i, q_ti (by omega), show (cI 15).toInt = 15 from rfl]; omega
      rcases inn (fM_mendOne_h2 m) p (by omega) 15 1048576 1 (by decide) (by decide) (Nat.le_refl _) (fun v' hv' u => by have := u.2.1; omega) with ⟨v', t1, w1, w2, w3⟩ | ⟨w1, w2⟩
      · refine Or.inl ⟨p, v', t1, hap, w1, w2, ?_⟩
        rw [fM_mendOne_h2, if_pos lt]
        exact w3
      · have st : fM_mendOne_h2 (m + 1) t c (cI (p : Int)) = fM_mendOne_h2 m t c (cI ((p + 1 : Nat) : Int)) := by
          rw [fM_mendOne_h2, if_pos lt]
          exact w2
        rw [st]
        exact ih m (p + 1) (by omega) (by omega) (by omega) (fun p' v h1 h2 u => by
          by_cases y : p' = p
          · rw [y] at u; exact w1 v u
          · exact hq p' v h1 (by omega) u)
  exact out (15 - a) 1048576 a (by omega) (by omega) (Nat.le_refl _) (fun p' v h1 h2 => by omega)
end
