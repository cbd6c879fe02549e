/-! ===== LEVEL 3: the audit finds nothing ===== -/
theorem isum_le {f : Nat → Int64} {M : Int} : ∀ n, (∀ j, j < n → -M ≤ (f j).toInt ∧ (f j).toInt ≤ M) → -(M * n) ≤ isum f n ∧ isum f n ≤ M * n
  | 0, _ => by simp [isum]
  | n + 1, h => by
    have ih := isum_le n (fun j hj => h j (by omega))
    have c := h n (by omega)
    have e : M * ((n + 1 : Nat) : Int) = M * n + M := by rw [Int.natCast_add, Int.mul_add]; simp
    simp only [isum]
    omega
theorem isum_ext {f : Nat → Int64} {a : Nat} : ∀ n, a ≤ n → (∀ j, a ≤ j → j < n → f j = cL 0) → isum f n = isum f a
  | 0, h, _ => by rw [show a = 0 by omega]
  | n + 1, h, hz => by
    by_cases z : a = n + 1
    · rw [z]
    · simp only [isum]
      rw [isum_ext n (by omega) (fun j h1 h2 => hz j h1 (by omega)), hz n (by omega) (by omega)]
      show isum f a + 0 = _
      omega
theorem faults_ok {s t : ev_M} (G : RLg s t) (U : RCu s t) : fMoney_faults s = some (cI 0) := by
  obtain ⟨⟨n1, n2, n3⟩, -⟩ := U
  obtain ⟨⟨l1, l2, l3⟩, -, -, -, -, -, gb, g0, gp, gz⟩ := G
  have nC := ix_toNat (s.1 78 3)
  have nL := ix_toNat (s.1 78 6)
  have e4 : cI 4 + s.1 78 3 = cI ((4 + ix (s.1 78 3) : Nat) : Int) := by
    have := q_ad (a := 4) (b := ix (s.1 78 3)) (by omega)
    rw [cI_ix n2] at this
    exact this
  have bd : ∀ k, k < 34 → -2000000000 ≤ (s.2.1 80 k).toInt ∧ (s.2.1 80 k).toInt ≤ 2000000000 := fun k hk => by
    have := gb k hk
    omega
  have h : ∀ (r m k : Nat) (x : Int64), k + r = 4 + ix (s.1 78 3) → r < m → x.toInt = isum (s.2.1 80) k → fMoney_faults_h7 s m x (cI 0) (cI (k : Int)) = some (cI 0) := by
    intro r
    induction r with
    | zero =>
      intro m k x hk hm hx
      obtain ⟨m, rfl⟩ : ∃ k, m = k + 1 := ⟨m - 1, by omega⟩
      have e := isum_ext (f := s.2.1 80) (a := k) 34 (by omega) (fun j h1 h2 => gz j (by omega) h2)
      have x0 : x = cL 0 := Int64.toInt_inj.mp (by rw [hx, ← e, g0]; rfl)
      rw [fMoney_faults_h7, e4, if_neg (by rw [q_lt (by omega) (by omega)]; omega), if_pos (cmp_0.mpr x0)]
    | succ r ih =>
      intro m k x hk hm hx
      obtain ⟨m, rfl⟩ : ∃ k, m = k + 1 := ⟨m - 1, by omega⟩
      have kb : inb (cI (k : Int)) 34 = true := q_in (by omega) (by decide)
      have kx : ix (cI (k : Int)) = k := q_ix (by omega)
      have il := isum_le (f := s.2.1 80) (M := 2000000000) k (fun j hj => bd j (by omega))
      have b1 := bd k (by omega)
      have ad : (x + s.2.1 80 k).toInt = isum (s.2.1 80) (k + 1) := by
        rw [addL_toInt (by omega) (by omega), hx]; rfl
      have i0 := ih m (k + 1) (x + s.2.1 80 k) (by omega) (by omega) ad
      rw [fMoney_faults_h7, e4, if_pos ((q_lt (by omega) (by omega)).mpr (by omega)), if_pos kb, kx, ltL_eq, if_pos kb]
      unfold fMoney_faults_b49
      rw [q_s (by omega)]
      by_cases z : cI (k : Int) < cI 4
      · rw [if_pos z]; exact i0
      · rw [if_neg z, if_neg ?_]
        · exact i0
        · rw [lgc_lt, show (cL 0).toInt = 0 from rfl]
          have k4 : 4 ≤ k := by
            rw [lt_i, q_ti (by omega), show (cI 4).toInt = 4 from rfl] at z; omega
          have := gp k k4 (by omega)
          omega
  exact h (4 + ix (s.1 78 3)) 1048576 0 (cL 0) (by omega) (by omega) rfl
section
variable {n k g : Nat}
theorem over_ok {s t : ev_M} (L : RLn k s t) (B : RBg s t) (A : RAv s t) : fLines_overladen s = some (cI 0) := by
  obtain ⟨⟨n1, n2, n3⟩, -⟩ := L
  obtain ⟨⟨b1, b2, b3⟩, -⟩ := B
  have nL := ix_toNat (s.1 449 4)
  have nB := ix_toNat (s.1 449 6)
  have h : ∀ (r m l : Nat), l + r = ix (s.1 449 4) → r < m → fLines_overladen_h4 s m (cI 0) (cI (l : Int)) = some (cI 0) := by
    intro r
    induction r with
    | zero =>
      intro m l hl hm
      obtain ⟨m, rfl⟩ : ∃ k, m = k + 1 := ⟨m - 1, by omega⟩
      rw [fLines_overladen_h4, if_neg (by rw [lt_i, q_ti (by omega)]; omega)]
    | succ r ih =>
      intro m l hl hm
      obtain ⟨m, rfl⟩ : ∃ k, m = k + 1 := ⟨m - 1, by omega⟩
      have lb : inb (cI (l : Int)) 20 = true := q_in (by omega) (by decide)
      have lx : ix (cI (l : Int)) = l := q_ix (by omega)
      obtain ⟨v, v1, v2⟩ := cb_C (s := s) (x1 := cI (l : Int)) b2 b3 (ix (s.1 449 6)) 1048576 0 (cI 0) (by omega) (by omega) rfl
      have v1' : fLines_carriedBy s (cI (l : Int)) = some v := v1
      have c := A.2 l (by omega)
      rw [fLines_overladen_h4, if_pos (by rw [lt_i, q_ti (by omega)]; omega), v1', bd1_some, if_pos lb, lx, if_pos (show v ≤ s.1 (451 + ix (cI 4)) l from le_i.mpr (by show v.toInt ≤ (s.1 455 l).toInt; omega))]
      unfold fLines_overladen_b31
      rw [q_s (by omega)]
      exact ih m (l + 1) (by omega) (by omega)
  exact h (ix (s.1 449 4)) 1048576 0 (by omega) (by omega)
theorem q_audit {s t : ev_M} (h9 : t.1 549 5 = s.1 9 9) (G : RLg s t) (U : RCu s t) (L : RLn k s t) (B : RBg s t) (A : RAv s t) (I : RIt s t) (X : RSx s t) (R : RIr s t) (Ro : RRo s t) (K : RLk s t) (b : RB s t) : Ok (fPH_audit s) fun x => Ok (fM_audit t) fun z => x.2 = z.2 := by
  unfold fPH_audit fM_audit
  rw [ltM_eq, q_z5, h9]
  by_cases z : s.1 9 9 = 0
  rotate_left
  · rw [if_neg z, if_neg z, ok_some, ok_some]
  rw [if_pos z, if_pos z, faults_ok G U, over_ok L B A, bd1_some, bd1_some]
  obtain ⟨q1, q2, q3⟩ := b
  obtain ⟨s1, a1, a2⟩ := aud_b I X B q2
  have I1 := I.keep a2 rf_fr (by decide +kernel) (by decide +kernel)
  have X1 := X.keep a2 rf_fr (by decide +kernel) (by decide +kernel)
  have R1 := R.keep a2 rf_fr (by decide +kernel) (by decide +kernel)
  have o1 := Ro.keep a2 rf_fr (by decide +kernel) (by decide +kernel)
  have K1 := K.keep a2 rf_fr (by decide +kernel) (by decide +kernel)
  have w1 := q1.keep a2 rf_fr (by decide +kernel) (by decide +kernel)
  have x1 := q3.keep a2 rf_fr (by decide +kernel) (by decide +kernel)
  obtain ⟨s2, c1, c2⟩ := aud_r I1 X1 o1 w1
  have I2 := I1.keep c2 rf_fr (by decide +kernel) (by decide +kernel)
  have R2 := R1.keep c2 rf_fr (by decide +kernel) (by decide +kernel)
  have K2 := K1.keep c2 rf_fr (by decide +kernel) (by decide +kernel)
  have x2 := x1.keep c2 rf_fr (by decide +kernel) (by decide +kernel)
  obtain ⟨s3, d1, d2⟩ := aud_l I2 R2 K2 x2
  rw [a1, bd2_some, c1, bd2_some, d1, bd2_some, ok_some, ok_some]
  rfl
end
