/-! ===== LEVEL 3: questions: stops, strays, balances, notices, bags ===== -/
theorem in_05 {b : Int32} (h : InR b (cI 0) (cI 5)) : b = cI 0 ∨ b = cI 1 ∨ b = cI 2 ∨ b = cI 3 ∨ b = cI 4 ∨ b = cI 5 := by
  obtain ⟨h1, h2⟩ := h
  rw [show (cI 0).toInt = 0 from rfl] at h1
  rw [show (cI 5).toInt = 5 from rfl] at h2
  simp only [eq_i, show (cI 0).toInt = 0 from rfl, show (cI 1).toInt = 1 from rfl, show (cI 2).toInt = 2 from rfl, show (cI 3).toInt = 3 from rfl, show (cI 4).toInt = 4 from rfl, show (cI 5).toInt = 5 from rfl]
  omega
theorem sto_lp {t : ev_M} {a b : Int32} {N : Nat} (hN : N ≤ 120) (hn : t.1 549 38 = cI (N : Int)) : ∀ (r m k : Nat) (x : Int32), k + r = N → r < m → ∃ v : Int32, fM_stop_h31 m t a b x (cI (k : Int)) = some (t, v) ∧ ((v = x ∧ ∀ q, k ≤ q → q < N → ¬ (t.1 571 q = a ∧ t.1 572 q = b)) ∨ ∃ q : Nat, q < N ∧ v = cI (q : Int) ∧ t.1 571 q = a ∧ t.1 572 q = b) := by
  intro r
  induction r with
  | zero =>
    intro m k x hk hm
    obtain ⟨m, rfl⟩ : ∃ k, m = k + 1 := ⟨m - 1, by omega⟩
    refine ⟨x, ?_, Or.inl ⟨rfl, fun q h1 h2 => by omega⟩⟩
    rw [fM_stop_h31, hn, if_neg (by rw [q_lt (by omega) (by omega)]; omega)]
  | succ r ih =>
    intro m k x hk hm
    obtain ⟨m, rfl⟩ : ∃ k, m = k + 1 := ⟨m - 1, by omega⟩
    have kb : inb (cI (k : Int)) 120 = true := q_in (by omega) (by decide)
    have kx : ix (cI (k : Int)) = k := q_ix (by omega)
    have e : fM_stop_h31 (m + 1) t a b x (cI (k : Int)) = if t.1 571 k = a ∧ t.1 572 k = b then fM_stop_h31 m t a b (cI (k : Int)) (cI ((k + 1 : Nat) : Int)) else fM_stop_h31 m t a b x (cI ((k + 1 : Nat) : Int)) := by
      rw [fM_stop_h31, hn, if_pos ((q_lt (by omega) (by omega)).mpr (by omega)), if_pos kb, if_pos kb, kx]
      unfold fM_stop_b67 fM_stop_b68
      rw [q_s (by omega)]
      by_cases y : t.1 571 k = a
      · rw [if_pos y]
        by_cases w : t.1 572 k = b
        · rw [if_pos w, if_pos ⟨y, w⟩]
        · rw [if_neg w, if_neg (fun u => w u.2)]
      · rw [if_neg y, if_neg (fun u => y u.1)]
    rw [e]
    by_cases y : t.1 571 k = a ∧ t.1 572 k = b
    · rw [if_pos y]
      obtain ⟨v, v1, v2⟩ := ih m (k + 1) (cI (k : Int)) (by omega) (by omega)
      refine ⟨v, v1, Or.inr ?_⟩
      rcases v2 with ⟨w1, -⟩ | w
      · exact ⟨k, by omega, w1, y⟩
      · exact w
    · rw [if_neg y]
      obtain ⟨v, v1, v2⟩ := ih m (k + 1) x (by omega) (by omega)
      refine ⟨v, v1, ?_⟩
      rcases v2 with ⟨w1, w2⟩ | w
      · refine Or.inl ⟨w1, fun q h1 h2 => ?_⟩
        by_cases z : q = k
        · rw [z]; exact y
        · exact w2 q (by omega) h2
      · exact Or.inr w
theorem q_stop {s t : ev_M} {a b : Int32} (h9 : t.1 549 5 = s.1 9 9) (P : RPo s t) (Ro : RRo s t) (R : RSp s t) : Ok (fPH_stop s a b) fun x => Ok (fM_stop t a b) fun z => x = z.2 := by
  have P := P.keep rf_fr (zfr (t := t)) (by decide +kernel) (by decide +kernel)
  have Ro := Ro.keep rf_fr (zfr (t := t)) (by decide +kernel) (by decide +kernel)
  have R := R.keep rf_fr (zfr (t := t)) (by decide +kernel) (by decide +kernel)
  unfold fPH_stop fM_stop
  rw [ltM_eq, q_z5, h9]
  generalize wI t 549 0 (cI 0) = t at *
  by_cases z : s.1 9 9 = 0
  rotate_left
  · rw [if_neg z, if_neg z, ok_some, ok_some]
  rw [if_pos z, if_pos z]
  obtain ⟨⟨n1, n2, n3⟩, -⟩ := id Ro
  obtain ⟨⟨p1, p2, p3⟩, -⟩ := id P
  rw [e_roundsHas n2, e_isRound (by rw [n1]; exact n2), n1, bd1_some, bd1_some, ite_bI, ite_bI]
  by_cases h1 : Has a (s.1 138 3)
  rotate_left
  · rw [if_neg h1, if_neg h1, ok_some, ok_some]
  rw [if_pos h1, if_pos h1]
  have ab : inb a 12 = true := h1.inb n3
  have ea : cI ((ix a : Nat) : Int) = a := cI_ix h1.1
  have ax : ix a < 12 := by have := ix_toNat a; have := h1.2; omega
  have nn := ix_toNat (s.1 30 9)
  obtain ⟨-, r2, r3, -, r5, r6⟩ := R
  have rr := r2 (ix a) h1.ix
  obtain ⟨v, v1, v2⟩ := sto_lp (t := t) (a := a) (b := b) (N := ix (s.1 30 9)) (by omega) (by rw [p1, cI_ix p2]) (ix (s.1 30 9)) 1048576 0 (cI (-1)) (by omega) (by omega)
  have v1' : fM_stop_h31 1048576 t a b (cI (-1)) (cI 0) = some (t, v) := v1
  unfold fRounds_stopAt
  rw [v1', if_pos ab, outside_eq, bd1_some, ite_bI]
  show Ok (bd1 (if ¬ InR b (cI 0) (s.1 143 (ix a) - cI 1) then _ else _) fun v => some v) _
  have hu : ∀ q, q < ix (s.1 30 9) → t.1 571 q = a → t.1 572 q = b → Has b (s.1 143 (ix a)) ∧ s.1 (146 + ix a) (ix b) = cI (q : Int) := by
    intro q hq e1 e2
    have e3 : s.1 158 q = a := (r3 q hq).symm.trans e1
    rcases r5 q hq with u | ⟨u1, u2, u3⟩
    · rw [e3] at u
      rw [u] at h1
      exact absurd h1.1 (by decide)
    · rw [e3] at u1 u2 u3
      rw [e2] at u2 u3
      rw [rows_at ax] at u3
      exact ⟨u2, u3⟩
  by_cases h2 : Has b (s.1 143 (ix a))
  · obtain ⟨w1, w2, w3⟩ := r6 (ix a) (ix b) h1.ix h2.ix
    rw [rows_at ax] at w1 w2 w3
    rw [ea] at w2
    rw [cI_ix h2.1] at w3
    have wx := w1.ix
    have h2' := h2.2
    rw [if_neg (fun u => u ((in_iff rr.1).mpr h2)), if_pos ab, if_pos (show inb b 20 = true from h2.inb rr.2), bd1_some, ok_some, ok_some]
    rcases v2 with ⟨-, u⟩ | ⟨q, q1, q2, q3, q4⟩
    · exact absurd ⟨(r3 _ wx).trans w2, w3⟩ (u _ (Nat.zero_le _) wx)
    · rw [q2]; exact (hu q q1 q3 q4).2
  · rw [if_pos (fun u => h2 ((in_iff rr.1).mp u)), bd1_some, ok_some, ok_some]
    rcases v2 with ⟨u, -⟩ | ⟨q, q1, q2, q3, q4⟩
    · exact u.symm
    · exact absurd (hu q q1 q3 q4).1 h2
theorem wrg_lp {t : ev_M} {a : Int32} {N : Nat} {L : List Nat} (hN : N ≤ 300) (hn : t.1 549 58 = cI (N : Int)) (hp : L.Pairwise (· < ·)) (hL : ∀ x, x ∈ L → x < N) (hm : ∀ x, x < 300 → (t.1 610 x = cI 0 ∨ t.1 610 x = cI 1) ∧ (x ∈ L ↔ t.1 610 x = cI 1)) (hl : L.length ≤ 300) : ∀ (r m k c : Nat), k + r = N → r < m → c ≤ L.length → (∀ j (h : j < L.length), L[j] < k ↔ j < c) → (∀ j : Nat, j < c → ¬ a = cI (j : Int)) → ∃ v : Int32, fM_wrong_h19 m t a (cI (c : Int)) (cI (k : Int)) = some (t, v) ∧ ((∃ j : Nat, ∃ h : j < L.length, a = cI (j : Int) ∧ v = cI ((L[j] : Nat) : Int)) ∨ ((∀ j : Nat, j < L.length → ¬ a = cI (j : Int)) ∧ v = cI (-1))) := by
  have pg := List.pairwise_iff_getElem.mp hp
  intro r
  induction r with
  | zero =>
    intro m k c hk hm' hc h1 h2
    obtain ⟨m, rfl⟩ : ∃ k, m = k + 1 := ⟨m - 1, by omega⟩
    refine ⟨cI (-1), ?_, Or.inr ⟨fun j hj => h2 j ((h1 j hj).mp ?_), rfl⟩⟩
    · rw [fM_wrong_h19, hn, if_neg (by rw [q_lt (by omega) (by omega)]; omega)]
    · have := hL _ (List.getElem_mem hj)
      omega
  | succ r ih =>
    intro m k c hk hm' hc h1 h2
    obtain ⟨m, rfl⟩ : ∃ k, m = k + 1 := ⟨m - 1, by omega⟩
    have kb : inb (cI (k : Int)) 300 = true := q_in (by omega) (by decide)
    have kx : ix (cI (k : Int)) = k := q_ix (by omega)
    obtain ⟨m1, m2⟩ := hm k (by omega)
    rcases m1 with u | u
    · have nk : ¬ k ∈ L := fun w => by have := m2.mp w; rw [u] at this; exact absurd this (by decide)
      obtain ⟨v, v1, v2⟩ := ih m (k + 1) c (by omega) (by omega) hc (fun j hj => by
        have ne : L[j] ≠ k := fun w => nk (by rw [← w]; exact List.getElem_mem hj)
        rw [← h1 j hj]; omega) h2
      refine ⟨v, ?_, v2⟩
      rw [fM_wrong_h19, hn, if_pos ((q_lt (by omega) (by omega)).mpr (by omega)), if_pos kb, kx, if_pos (show t.1 610 k = 0 from u)]
      unfold fM_wrong_b46
      rw [q_s (by omega)]
      exact v1
    · obtain ⟨j, hj, ej⟩ := List.mem_iff_getElem.mp (m2.mpr u)
      have jc : j = c := by
        have n1 : ¬ j < c := fun w => by have := (h1 j hj).mpr w; omega
        by_cases w : c < j
        · have := pg c j (by omega) hj w
          have := (h1 c (by omega)).mp (by omega)
          omega
        · omega
      subst jc
      have st : fM_wrong_h19 (m + 1) t a (cI (j : Int)) (cI (k : Int)) = if cI (j : Int) = a then some (t, cI (k : Int)) else fM_wrong_h19 m t a (cI ((j + 1 : Nat) : Int)) (cI ((k + 1 : Nat) : Int)) := by
        rw [fM_wrong_h19, hn, if_pos ((q_lt (by omega) (by omega)).mpr (by omega)), if_pos kb, kx, if_neg (by rw [u]; decide)]
        unfold fM_wrong_b46
        rw [q_s (show j < 99999 by omega), q_s (show k < 99999 by omega)]
      rw [st]
      by_cases w : cI (j : Int) = a
      · rw [if_pos w]
        exact ⟨_, rfl, Or.inl ⟨j, hj, w.symm, by rw [ej]⟩⟩
      · rw [if_neg w]
        exact ih m (k + 1) (j + 1) (by omega) (by omega) (by omega) (fun i hi => by
          constructor
          · intro g
            by_cases y : L[i] = k
            · by_cases x : i < j + 1
              · exact x
              · have := pg j i hj hi (by omega)
                omega
            · have := (h1 i hi).mp (by omega)
              omega
          · intro g
            by_cases y : i = j
            · subst y; omega
            · have := (h1 i hi).mpr (by omega)
              omega) (fun i hi g => by
          by_cases y : i = j
          · rw [y] at g; exact w g.symm
          · exact h2 i (by omega) g)
theorem q_wrong {s t : ev_M} {a : Int32} (h9 : t.1 549 5 = s.1 9 9) (Y : RSy s t) (I : RIt s t) : Ok (fPH_wrong s a) fun x => Ok (fM_wrong t a) fun z => x = z.2 := by
  have Y := Y.keep rf_fr (zfr (t := t)) (by decide +kernel) (by decide +kernel)
  have I := I.keep rf_fr (zfr (t := t)) (by decide +kernel) (by decide +kernel)
  unfold fPH_wrong fM_wrong
  rw [ltM_eq, q_z5, h9]
  generalize wI t 549 0 (cI 0) = t at *
  by_cases z : s.1 9 9 = 0
  rotate_left
  · rw [if_neg z, if_neg z, ok_some, ok_some]
  rw [if_pos z, if_pos z]
  obtain ⟨⟨m1, m2, m3⟩, -⟩ := I
  obtain ⟨-, L, l1, l2, l3, l4⟩ := Y
  have nn := ix_toNat (s.1 100 5)
  obtain ⟨w1, w2⟩ := l1
  have pg := List.pairwise_iff_getElem.mp l2
  have nl : L.length ≤ 300 := by
    have : ∀ j (h : j < L.length), j ≤ L[j] := by
      intro j
      induction j with
      | zero => intro h; exact Nat.zero_le _
      | succ j ih => intro h; have := ih (by omega); have := pg j (j + 1) (by omega) h (by omega); omega
    by_cases z : L.length = 0
    · omega
    · have a1 := this (L.length - 1) (by omega)
      have a2 := l3 _ (List.getElem_mem (show L.length - 1 < L.length by omega))
      omega
  obtain ⟨v, v1, v2⟩ := wrg_lp (t := t) (a := a) (N := ix (s.1 100 5)) (L := L) (by omega) (by rw [m1, cI_ix m2]) l2 l3 l4 nl (ix (s.1 100 5)) 1048576 0 0 (by omega) (by omega) (Nat.zero_le _) (fun j hj => ⟨fun u => absurd u (Nat.not_lt_zero _), fun u => absurd u (Nat.not_lt_zero _)⟩) (fun j hj => absurd hj (Nat.not_lt_zero _))
  have v1' : fM_wrong_h19 1048576 t a (cI 0) (cI 0) = some (t, v) := v1
  rw [v1', outside_eq, bd1_some, ite_bI]
  have n0 : 0 ≤ (s.1 138 10).toInt := by rw [w1]; omega
  by_cases h : Has a (s.1 138 10)
  · have hx := ix_toNat a
    have h2 := h.2
    have h3 := h.1
    rw [w1] at h2
    have hj : ix a < L.length := by omega
    rw [if_neg (fun u => u ((in_iff n0).mpr h)), if_pos (inb_iff.mpr ⟨h.1, by omega⟩), ok_some, ok_some]
    rcases v2 with ⟨j, k1, k2, k3⟩ | ⟨k1, -⟩
    · have e : ix a = j := by rw [k2, q_ix (by omega)]
      have := w2 (ix a) hj
      rw [this, k3]
      simp only [e]
    · exact absurd (cI_ix h.1).symm (k1 (ix a) hj)
  · rw [if_pos (fun u => h ((in_iff n0).mp u)), ok_some, ok_some]
    rcases v2 with ⟨j, k1, k2, k3⟩ | ⟨-, k1⟩
    · refine absurd ?_ h
      rw [k2]
      unfold Has
      rw [q_ti (by omega), w1]
      omega
    · exact k1.symm
theorem q_balance {s t : ev_M} {a : Int32} (h9 : t.1 549 5 = s.1 9 9) (G : RLg s t) (Cu : RCu s t) : Ok (fPH_balance s a) fun x => Ok (fM_balance t a) fun z => x = z.2 := by
  have G := G.keep rf_fr (zfr (t := t)) (by decide +kernel) (by decide +kernel)
  have Cu := Cu.keep rf_fr (zfr (t := t)) (by decide +kernel) (by decide +kernel)
  unfold fPH_balance fM_balance
  rw [ltM_eq, q_z5, h9]
  generalize wI t 549 0 (cI 0) = t at *
  by_cases z : s.1 9 9 = 0
  rotate_left
  · rw [if_neg z, if_neg z, ok_some, ok_some]
  rw [if_pos z, if_pos z]
  obtain ⟨⟨n1, n2, n3⟩, -⟩ := Cu
  obtain ⟨⟨l1, l2, l3⟩, -, -, -, -, g, -⟩ := G
  rw [e_moneyHas n2 n3, in_eq, bd1_some, bd1_some, ite_bI, ite_bI]
  have e0 : (cI 0).toInt = 0 := rfl
  have e3 : (cI 3).toInt = 3 := rfl
  have key : 0 ≤ a.toInt → a.toInt < 34 → inb a 34 = true ∧ fM_balance_b41 t a = some (t, s.2.1 80 (ix a)) := by
    intro h1 h2
    refine ⟨inb_iff.mpr ⟨h1, by omega⟩, ?_⟩
    have hx := ix_toNat a
    unfold fM_balance_b41
    rw [e_balanceOf (by rw [l1]; exact l2) (by rw [l1]; exact l3), bd1_some, l1, g (ix a) (by omega), cI_ix h1]
  by_cases h1 : InR a (cI 0) (cI 3)
  · obtain ⟨u1, u2⟩ := id h1
    obtain ⟨k1, k2⟩ := key (by omega) (by omega)
    rw [if_pos (by omega), if_pos h1, if_pos k1, k2, ok_some, ok_some]
  · rw [if_neg h1, e_isCusM (by rw [n1]; exact n2) (by rw [n1]; exact n3), n1, bd1_some, ite_bI]
    by_cases h2 : Cus a (s.1 78 3)
    · have h3 := h2
      unfold Cus at h3
      obtain ⟨k1, k2⟩ := key (by omega) (by omega)
      rw [if_pos (by omega), if_pos h2, if_pos k1, k2, ok_some, ok_some]
    · rw [if_neg h2, if_neg (fun u => h2 (by
        unfold Cus
        unfold InR at h1
        omega)), ok_some, ok_some]
theorem q_bagAt {s t : ev_M} {a b : Int32} (h9 : t.1 549 5 = s.1 9 9) (B : RBg s t) (Bc : RBc s t) (I : RIt s t) : Ok (fPH_bagAt s a b) fun x => Ok (fM_bagAt t a b) fun z => x = z.2 := by
  have B := B.keep rf_fr (zfr (t := t)) (by decide +kernel) (by decide +kernel)
  have Bc := Bc.keep rf_fr (zfr (t := t)) (by decide +kernel) (by decide +kernel)
  have I := I.keep rf_fr (zfr (t := t)) (by decide +kernel) (by decide +kernel)
  unfold fPH_bagAt fM_bagAt
  rw [ltM_eq, q_z5, h9]
  generalize wI t 549 0 (cI 0) = t at *
  by_cases z : s.1 9 9 = 0
  rotate_left
  · rw [if_neg z, if_neg z, ok_some, ok_some]
  rw [if_pos z, if_pos z]
  obtain ⟨⟨n1, n2, n3⟩, g1, g2, g3, g4, g5, -⟩ := id B
  obtain ⟨⟨m1, m2, m3⟩, -⟩ := I
  rw [e_hasBag n2, e_isBag (by rw [n1]; exact n2), n1, bd1_some, bd1_some, ite_bI, ite_bI]
  by_cases h1 : Has a (s.1 449 6)
  rotate_left
  · rw [if_neg h1, if_neg h1, ok_some, ok_some]
  rw [if_pos h1, if_pos h1, outside_eq, bd1_some, ite_bI]
  have ab : inb a 80 = true := h1.inb n3
  have ax := h1.ix
  obtain ⟨c1, c2, c3⟩ := RBc.cnt Bc m1 m2 m3 h1
  obtain ⟨g6, g7⟩ := g5 (ix a) ax
  simp only [if_pos ab]
  by_cases h2 : InR b (cI 0) (cI 5)
  · rw [if_neg (fun u => u h2)]
    rcases in_05 h2 with u | u | u | u | u | u
    · rw [u, if_pos (by decide), if_pos rfl, ok_some, ok_some]; exact (g1 _ ax).symm
    · simp (decide := true) only [u, if_true, if_false, ite_true, ite_false, g1 _ ax]
      by_cases w : s.1 459 (ix a) = cI 2
      · rw [if_pos w, ok_some, ok_some]; exact (g7 w).1
      · rw [if_neg w, ok_some, ok_some]; exact (g6 w).1.symm
    · simp (decide := true) only [u, if_true, if_false, ite_true, ite_false, if_pos ab, bd1_some, ok_some]; exact (g2 _ ax).symm
    · simp (decide := true) only [u, if_true, if_false, ite_true, ite_false, if_pos ab, bd1_some, ok_some, c1]; rfl
    · simp (decide := true) only [u, if_true, if_false, ite_true, ite_false, if_pos ab, bd1_some, ok_some]; exact (g3 _ ax).symm
    · simp (decide := true) only [u, if_true, if_false, ite_true, ite_false, if_pos ab, bd1_some, ok_some]; exact (g4 _ ax).symm
  · have nb : ∀ k : Int32, InR k (cI 0) (cI 5) → ¬ b = k := fun k hk u => h2 (by rw [u]; exact hk)
    rw [if_pos h2, if_neg (nb _ (by decide)), if_neg (nb _ (by decide)), if_neg (nb _ (by decide)), if_neg (nb _ (by decide)), if_neg (nb _ (by decide)), if_neg (nb _ (by decide)), ok_some, ok_some]
