/-! ===== LEVEL 3: the audit: nothing is misplaced ===== -/
theorem aud_b {s t : ev_M} (I : RIt s t) (X : RSx s t) (G : RBg s t) (C : RBc s t) : ∃ s', fLines_misplaced s = some (s', cI 0) ∧ fr [(124, 124, 0)] s s' := by
  obtain ⟨⟨m1, m2, m3⟩, -⟩ := I
  obtain ⟨⟨n1, n2, n3⟩, -⟩ := id G
  obtain ⟨d1, d2⟩ := C
  have nN := ix_toNat (s.1 100 5)
  have nB := ix_toNat (s.1 449 6)
  have z0 : fr [(124, 124, 0)] s (wR s 124 0 300 (fun _ => cI 0)) := ⟨fun c k h => ⟨congrFun (wR_ne (fun e => by rw [e] at h; exact absurd h (by unfold inF; simp))) k, rfl⟩, rfl⟩
  have e0 : ∀ c, c ≠ 124 → (wR s 124 0 300 (fun _ => cI 0)).1 c = s.1 c := fun c hc => wR_ne hc
  have ls : ∀ b, b < ix (s.1 449 6) → ∃ l : List Nat, s.1 462 b = cI (l.length : Int) ∧ l.length ≤ 40 ∧ Hol (s.1 (466 + b)) (s.1 462 b) l ∧ l.Nodup ∧ (∀ x, x ∈ l → x < 300) ∧ ∀ i, i ∈ l ↔ i < ix (s.1 100 5) ∧ t.1 593 i = cI (b : Int) := by
    intro b hb
    obtain ⟨l, h1, h2, h3, h4⟩ := d2 b hb
    rw [rows_at (show b < 80 by omega)] at h1
    refine ⟨l, ?_, h2, h1, lt_nodup h3, fun x hx => by have := ((h4 x).mp hx).1; omega, h4⟩
    rw [eq_i, q_ti (by omega)]; exact h1.1
  have len : ∀ b, b < ix (s.1 449 6) → ∀ l : List Nat, s.1 462 b = cI (l.length : Int) → l.length ≤ 40 → ix (s.1 462 b) = l.length := fun b hb l e h => by rw [e, q_ix (by omega)]
  obtain ⟨s1, a1, a2, a3⟩ := mb_lp (B := ix (s.1 449 6)) (len := fun b => ix (s.1 462 b)) (s0 := wR s 124 0 300 (fun _ => cI 0)) (K := fun s _ => some (s, 0)) (by omega) (by rw [e0 449 (by decide), cI_ix n2]) (fun b hb => by
    obtain ⟨l, h1, h2, h3, h4, h5, h6⟩ := ls b hb
    have hl := len b hb l h1 h2
    refine ⟨by rw [e0 462 (by decide), hl]; exact h1, by rw [hl]; exact h2, fun j hj => ?_⟩
    rw [hl] at hj
    exact ⟨l[j], h5 _ (List.getElem_mem hj), by rw [e0 (466 + b) (by omega)]; exact h3.2 j hj⟩) (ix (s.1 449 6)) 1048576 0 (wR s 124 0 300 (fun _ => cI 0)) (by omega) (by omega) fr.rf (fun i hi => by
    rw [wR_1, if_pos ⟨rfl, Nat.zero_le _, hi⟩]; rfl)
  have b2 := z0.tr a2
  have fin : ∀ i, i < ix (s.1 100 5) → s1.1 124 i = if s1.1 102 i = cI 2 then cI 1 else cI 0 := by
    intro i hi
    rw [a3 i (by omega), f124 b2 (c := 102) (by decide)]
    have cn : ∀ b, b < ix (s.1 449 6) → (t.1 593 i = cI (b : Int) → cntE (s.1 (466 + b)) (cI (i : Int)) (ix (s.1 462 b)) = 1) ∧ (¬ t.1 593 i = cI (b : Int) → cntE (s.1 (466 + b)) (cI (i : Int)) (ix (s.1 462 b)) = 0) := by
      intro b hb
      obtain ⟨l, h1, h2, h3, h4, h5, h6⟩ := ls b hb
      obtain ⟨k1, k2⟩ := cnt_hol (i := i) h3 h2 (by decide) h5 (by omega) h4
      rw [len b hb l h1 h2]
      exact ⟨fun e => k1 ((h6 i).mpr ⟨hi, e⟩), fun e => k2 (fun u => e ((h6 i).mp u).2)⟩
    have eg : ∀ b, (wR s 124 0 300 (fun _ => cI 0)).1 (466 + b) = s.1 (466 + b) := fun b => e0 _ (by omega)
    by_cases z : s.1 102 i = cI 2
    · rw [if_pos z]
      have ne := (X i hi).2.2.2.2.1 z
      obtain ⟨u1, u2⟩ := d1 i hi
      have ux := ix_toNat (t.1 593 i)
      have u0 : 0 ≤ (t.1 593 i).toInt := by
        by_cases y : (t.1 593 i).toInt = -1
        · exact absurd (eq_i.mpr (y.trans (show (-1 : Int) = (cI (-1)).toInt from rfl))) ne
        · omega
      have em := cI_ix u0
      rw [tot_1 (b := ix (t.1 593 i)) (by rw [eg]; exact (cn _ (by omega)).1 em.symm) _ (by omega) (fun q hq hne => by
        rw [eg]
        refine (cn q hq).2 (fun e => hne ?_)
        rw [e, q_ix (by omega)])]
      rfl
    · rw [if_neg z]
      have ne := (X i hi).1 z
      rw [tot_0 _ (fun q hq => by
        rw [eg]
        refine (cn q hq).2 (fun e => ?_)
        rw [ne, eq_i, q_ti (by omega), show (cI (-1)).toInt = -1 from rfl] at e
        omega)]
      rfl
  have ml := mis_lp (s := s1) (c := cI 2) (N := ix (s.1 100 5)) (by omega) (by rw [f124 b2 (c := 100) (by decide), cI_ix m2]) fin (ix (s.1 100 5)) 1048576 0 (by omega) (by omega)
  have ml' : fItems_misplaced s1 (cI 2) = some (cI 0) := ml
  refine ⟨s1, ?_, b2⟩
  have a1' : fLines_misplaced_h15 1048576 (wR s 124 0 300 (fun _ => cI 0)) (cI 0) = _ := a1
  unfold fLines_misplaced
  rw [e_fArr_fillI_124, bd1_some, a1', ml', bd1_some]
theorem aud_r {s t : ev_M} (I : RIt s t) (X : RSx s t) (G : RRo s t) (C : RRw s t) : ∃ s', fRounds_misplaced s = some (s', cI 0) ∧ fr [(124, 124, 0)] s s' := by
  obtain ⟨⟨m1, m2, m3⟩, -⟩ := I
  obtain ⟨⟨n1, n2, n3⟩, -⟩ := id G
  obtain ⟨d1, d2⟩ := C
  have nN := ix_toNat (s.1 100 5)
  have nB := ix_toNat (s.1 138 3)
  have z0 : fr [(124, 124, 0)] s (wR s 124 0 300 (fun _ => cI 0)) := ⟨fun c k h => ⟨congrFun (wR_ne (fun e => by rw [e] at h; exact absurd h (by unfold inF; simp))) k, rfl⟩, rfl⟩
  have e0 : ∀ c, c ≠ 124 → (wR s 124 0 300 (fun _ => cI 0)).1 c = s.1 c := fun c hc => wR_ne hc
  have ls : ∀ b, b < ix (s.1 138 3) → ∃ l : List Nat, s.1 144 b = cI (l.length : Int) ∧ l.length ≤ 300 ∧ Hol (s.1 (160 + b)) (s.1 144 b) l ∧ l.Nodup ∧ (∀ x, x ∈ l → x < 300) ∧ ∀ i, i ∈ l ↔ i < ix (s.1 100 5) ∧ t.1 595 i = cI (b : Int) := by
    intro b hb
    obtain ⟨l, h1, h3, h4⟩ := d2 b hb
    rw [rows_at (show b < 12 by omega)] at h1
    have h2 : l.length ≤ 300 := by
      obtain ⟨-, -, k⟩ := RRw.size (r := cI (b : Int)) ⟨d1, d2⟩ m1 m2 m3 ⟨by rw [q_ti (by omega)]; omega, by rw [q_ti (by omega)]; omega⟩
      rw [q_ix (by omega), h1.1] at k
      omega
    refine ⟨l, ?_, h2, h1, lt_nodup h3, fun x hx => by have := ((h4 x).mp hx).1; omega, h4⟩
    rw [eq_i, q_ti (by omega)]; exact h1.1
  have len : ∀ b, b < ix (s.1 138 3) → ∀ l : List Nat, s.1 144 b = cI (l.length : Int) → l.length ≤ 300 → ix (s.1 144 b) = l.length := fun b hb l e h => by rw [e, q_ix (by omega)]
  obtain ⟨s1, a1, a2, a3⟩ := mr_lp (B := ix (s.1 138 3)) (len := fun b => ix (s.1 144 b)) (s0 := wR s 124 0 300 (fun _ => cI 0)) (K := fun s _ => some (s, 0)) (by omega) (by rw [e0 138 (by decide), cI_ix n2]) (fun b hb => by
    obtain ⟨l, h1, h2, h3, h4, h5, h6⟩ := ls b hb
    have hl := len b hb l h1 h2
    refine ⟨by rw [e0 144 (by decide), hl]; exact h1, by rw [hl]; exact h2, fun j hj => ?_⟩
    rw [hl] at hj
    exact ⟨l[j], h5 _ (List.getElem_mem hj), by rw [e0 (160 + b) (by omega)]; exact h3.2 j hj⟩) (ix (s.1 138 3)) 1048576 0 (wR s 124 0 300 (fun _ => cI 0)) (by omega) (by omega) fr.rf (fun i hi => by
    rw [wR_1, if_pos ⟨rfl, Nat.zero_le _, hi⟩]; rfl)
  have b2 := z0.tr a2
  have fin : ∀ i, i < ix (s.1 100 5) → s1.1 124 i = if s1.1 102 i = cI 3 then cI 1 else cI 0 := by
    intro i hi
    rw [a3 i (by omega), f124 b2 (c := 102) (by decide)]
    have cn : ∀ b, b < ix (s.1 138 3) → (t.1 595 i = cI (b : Int) → cntE (s.1 (160 + b)) (cI (i : Int)) (ix (s.1 144 b)) = 1) ∧ (¬ t.1 595 i = cI (b : Int) → cntE (s.1 (160 + b)) (cI (i : Int)) (ix (s.1 144 b)) = 0) := by
      intro b hb
      obtain ⟨l, h1, h2, h3, h4, h5, h6⟩ := ls b hb
      obtain ⟨k1, k2⟩ := cnt_hol (i := i) h3 h2 (by decide) h5 (by omega) h4
      rw [len b hb l h1 h2]
      exact ⟨fun e => k1 ((h6 i).mpr ⟨hi, e⟩), fun e => k2 (fun u => e ((h6 i).mp u).2)⟩
    have eg : ∀ b, (wR s 124 0 300 (fun _ => cI 0)).1 (160 + b) = s.1 (160 + b) := fun b => e0 _ (by omega)
    by_cases z : s.1 102 i = cI 3
    · rw [if_pos z]
      have ne := (X i hi).2.2.2.2.2 z
      obtain ⟨u1, u2⟩ := d1 i hi
      have ux := ix_toNat (t.1 595 i)
      have u0 : 0 ≤ (t.1 595 i).toInt := by
        by_cases y : (t.1 595 i).toInt = -1
        · exact absurd (eq_i.mpr (y.trans (show (-1 : Int) = (cI (-1)).toInt from rfl))) ne
        · omega
      have em := cI_ix u0
      rw [tot_1 (b := ix (t.1 595 i)) (by rw [eg]; exact (cn _ (by omega)).1 em.symm) _ (by omega) (fun q hq hne => by
        rw [eg]
        refine (cn q hq).2 (fun e => hne ?_)
        rw [e, q_ix (by omega)])]
      rfl
    · rw [if_neg z]
      have ne := (X i hi).2.1 z
      rw [tot_0 _ (fun q hq => by
        rw [eg]
        refine (cn q hq).2 (fun e => ?_)
        rw [ne, eq_i, q_ti (by omega), show (cI (-1)).toInt = -1 from rfl] at e
        omega)]
      rfl
  have ml := mis_lp (s := s1) (c := cI 3) (N := ix (s.1 100 5)) (by omega) (by rw [f124 b2 (c := 100) (by decide), cI_ix m2]) fin (ix (s.1 100 5)) 1048576 0 (by omega) (by omega)
  have ml' : fItems_misplaced s1 (cI 3) = some (cI 0) := ml
  refine ⟨s1, ?_, b2⟩
  have a1' : fRounds_misplaced_h15 1048576 (wR s 124 0 300 (fun _ => cI 0)) (cI 0) = _ := a1
  unfold fRounds_misplaced
  rw [e_fArr_fillI_124, bd1_some, a1', ml', bd1_some]
/-- the boxes: every cell is counted that holds an item -/
theorem ml_in {k15 : ev_M → Int32 → Option (ev_M × Int32)} {b n N : Nat} {c : Nat → Nat} {s0 : ev_M} (hb : b < 8) (hN : N ≤ 300) (h5 : s0.1 100 5 = cI (N : Int)) (hlen : s0.1 127 b = cI (n : Int)) (hn : n ≤ 10) (hc : ∀ i, i < 300 → c i ≤ 50000) (hv : ∀ j, j < n → s0.1 (130 + b) j = cI (-1) ∨ ∃ e : Nat, e < N ∧ s0.1 (130 + b) j = cI (e : Int)) : ∀ (r m j : Nat) (s : ev_M), j + r = n → r < m → fr [(124, 124, 0)] s0 s → (∀ i, i < 300 → s.1 124 i = cI ((c i + cntE (s0.1 (130 + b)) (cI (i : Int)) j : Nat) : Int)) → ∃ s', fLock_misplaced_h25 k15 m s (cI (b : Int)) (cI (j : Int)) = k15 s' (cI ((b + 1 : Nat) : Int)) ∧ fr [(124, 124, 0)] s0 s' ∧ ∀ i, i < 300 → s'.1 124 i = cI ((c i + cntE (s0.1 (130 + b)) (cI (i : Int)) n : Nat) : Int) := by
  have bb : inb (cI (b : Int)) 8 = true := q_in hb (by decide)
  have bx : ix (cI (b : Int)) = b := q_ix (by omega)
  intro r
  induction r with
  | zero =>
    intro m j s hj hm hf hg
    obtain ⟨m, rfl⟩ : ∃ k, m = k + 1 := ⟨m - 1, by omega⟩
    have le : s.1 127 (ix (cI (b : Int))) = cI (n : Int) := by
      rw [bx]; exact (congrFun (f124 hf (c := 127) (by decide)) b).trans hlen
    refine ⟨s, ?_, hf, by rw [show n = j by omega]; exact hg⟩
    rw [fLock_misplaced_h25, if_pos bb, le, if_neg (by rw [q_lt (by omega) (by omega)]; omega), q_s (by omega)]
  | succ r ih =>
    intro m j s hj hm hf hg
    obtain ⟨m, rfl⟩ : ∃ k, m = k + 1 := ⟨m - 1, by omega⟩
    have le : s.1 127 (ix (cI (b : Int))) = cI (n : Int) := by
      rw [bx]; exact (congrFun (f124 hf (c := 127) (by decide)) b).trans hlen
    have l5 : s.1 100 5 = cI (N : Int) := (congrFun (f124 hf (c := 100) (by decide)) 5).trans h5
    have jb : inb (cI (j : Int)) 10 = true := q_in (by omega) (by decide)
    have rv : s.1 (130 + ix (cI (b : Int))) (ix (cI (j : Int))) = s0.1 (130 + b) j := by
      rw [bx, q_ix (by omega)]; exact congrFun (f124 hf (c := 130 + b) (by omega)) j
    have hs : ∀ v : Int32, fItems_has s v = some (bI (Has v (cI (N : Int)))) := fun v => by rw [e_itemsHas (by rw [l5, q_ti (by omega)]; omega), l5]
    rcases hv j (by omega) with e2 | ⟨e, e1, e2⟩
    · obtain ⟨s', a1, a2, a3⟩ := ih m (j + 1) s (by omega) (by omega) hf (fun i hi => by
        simp only [cntE]
        rw [e2, if_neg (by rw [eq_i, q_ti (by omega), show (cI (-1)).toInt = -1 from rfl]; omega), Nat.add_zero]
        exact hg i hi)
      refine ⟨s', ?_, a2, a3⟩
      rw [← a1, fLock_misplaced_h25, if_pos bb, le, if_pos ((q_lt (by omega) (by omega)).mpr (by omega)), if_pos bb, if_pos jb, rv, e2, hs, bd1_some, ite_bI, if_neg (fun u => absurd u.1 (by decide))]
      unfold fLock_misplaced_b67
      rw [q_s (by omega)]
    · have eb : inb (cI (e : Int)) 300 = true := q_in (by omega) (by decide)
      have ex : ix (cI (e : Int)) = e := q_ix (by omega)
      have ce := cntE_le (f := s0.1 (130 + b)) (x := cI (e : Int)) j
      have hce := hc e (by omega)
      obtain ⟨s', a1, a2, a3⟩ := ih m (j + 1) (wI s 124 e (s.1 124 e + cI 1)) (by omega) (by omega) (hf.wI rfl) (fun i hi => by
        rw [wI_c]
        simp only [cntE]
        rw [e2]
        by_cases z : i = e
        · rw [z, up1_eq, if_pos rfl, hg e (by omega), q_s (by omega), Nat.add_assoc]
        · rw [up1_ne z, if_neg (by rw [eq_i, q_ti (by omega), q_ti (by omega)]; omega), Nat.add_zero]
          exact hg i hi)
      refine ⟨s', ?_, a2, a3⟩
      rw [← a1, fLock_misplaced_h25, if_pos bb, le, if_pos ((q_lt (by omega) (by omega)).mpr (by omega)), if_pos bb, if_pos jb, rv, e2, hs, bd1_some, ite_bI, if_pos ⟨by rw [q_ti (by omega)]; omega, by rw [q_ti (by omega), q_ti (by omega)]; omega⟩, if_pos bb, if_pos jb, if_pos eb, if_pos eb, ltM_eq, ex]
      unfold fLock_misplaced_b67
      rw [q_s (by omega)]
theorem ml_lp {B N : Nat} {len : Nat → Nat} {s0 : ev_M} (hB : B ≤ 8) (hN : N ≤ 300) (h5 : s0.1 100 5 = cI (N : Int)) (hcnt : s0.1 125 3 = cI (B : Int)) (hlen : ∀ b, b < B → s0.1 127 b = cI (len b : Int) ∧ len b ≤ 10 ∧ ∀ j, j < len b → s0.1 (130 + b) j = cI (-1) ∨ ∃ e : Nat, e < N ∧ s0.1 (130 + b) j = cI (e : Int)) : ∀ (r m b : Nat) (s : ev_M), b + r = B → r < m → fr [(124, 124, 0)] s0 s → (∀ i, i < 300 → s.1 124 i = cI ((tot (fun b => s0.1 (130 + b)) len (cI (i : Int)) b : Nat) : Int)) → ∃ s', fLock_misplaced_h15 m s (cI (b : Int)) = fLock_misplaced_h83 1048576 s' (cI 0) (cI 0) ∧ fr [(124, 124, 0)] s0 s' ∧ ∀ i, i < 300 → s'.1 124 i = cI ((tot (fun b => s0.1 (130 + b)) len (cI (i : Int)) B : Nat) : Int) := by
  intro r
  induction r with
  | zero =>
    intro m b s hb hm hf hg
    obtain ⟨m, rfl⟩ : ∃ k, m = k + 1 := ⟨m - 1, by omega⟩
    have le : s.1 125 3 = cI (B : Int) := (congrFun (f124 hf (c := 125) (by decide)) 3).trans hcnt
    refine ⟨s, ?_, hf, by rw [show B = b by omega]; exact hg⟩
    rw [fLock_misplaced_h15, le, if_neg (by rw [q_lt (by omega) (by omega)]; omega)]
  | succ r ih =>
    intro m b s hb hm hf hg
    obtain ⟨m, rfl⟩ : ∃ k, m = k + 1 := ⟨m - 1, by omega⟩
    have le : s.1 125 3 = cI (B : Int) := (congrFun (f124 hf (c := 125) (by decide)) 3).trans hcnt
    obtain ⟨g1, g2, g3⟩ := hlen b (by omega)
    obtain ⟨s1, a1, a2, a3⟩ := ml_in (k15 := fLock_misplaced_h15 m) (c := fun i => tot (fun b => s0.1 (130 + b)) len (cI (i : Int)) b) (by omega) hN h5 g1 g2 (fun i hi => by
      have := tot_le (g := fun b => s0.1 (130 + b)) (len := len) (x := cI (i : Int)) (M := 10) b (fun q hq => (hlen q (by omega)).2.1)
      show tot (fun b => s0.1 (130 + b)) len (cI (i : Int)) b ≤ 50000
      omega) g3 (len b) 1048576 0 s (by omega) (by omega) hf hg
    obtain ⟨s', b1, b2, b3⟩ := ih m (b + 1) s1 (by omega) (by omega) a2 a3
    refine ⟨s', ?_, b2, b3⟩
    rw [← b1, fLock_misplaced_h15, le, if_pos ((q_lt (by omega) (by omega)).mpr (by omega))]
    exact a1
theorem m83_lp {s : ev_M} {N : Nat} (hN : N ≤ 300) (h5 : s.1 100 5 = cI (N : Int)) (h : ∀ i, i < N → s.1 124 i = if s.1 117 i = cI (-1) then cI 0 else cI 1) : ∀ (r m k : Nat), k + r = N → r < m → fLock_misplaced_h83 m s (cI 0) (cI (k : Int)) = some (s, cI 0)
  | 0, m, k, hk, hm => by
    obtain ⟨m, rfl⟩ : ∃ k, m = k + 1 := ⟨m - 1, by omega⟩
    rw [fLock_misplaced_h83, h5, if_neg (by rw [q_lt (by omega) (by omega)]; omega)]
  | r + 1, m, k, hk, hm => by
    obtain ⟨m, rfl⟩ : ∃ k, m = k + 1 := ⟨m - 1, by omega⟩
    have ih := m83_lp hN h5 h r m (k + 1) (by omega) (by omega)
    have hk' := h k (by omega)
    have kb : inb (cI (k : Int)) 300 = true := q_in (by omega) (by decide)
    have kx : ix (cI (k : Int)) = k := q_ix (by omega)
    rw [fLock_misplaced_h83, h5, if_pos ((q_lt (by omega) (by omega)).mpr (by omega)), if_pos kb, if_pos kb, kx]
    show (if s.1 117 k = cI (-1) then _ else _) = _
    unfold fLock_misplaced_b118 fLock_misplaced_b124
    rw [q_s (by omega), hk']
    by_cases z : s.1 117 k = cI (-1)
    · simp only [if_pos z, if_true]
      exact ih
    · simp only [if_neg z, if_true]
      exact ih
theorem aud_l {s t : ev_M} (I : RIt s t) (R : RIr s t) (K : RLk s t) (C : RBx s t) : ∃ s', fLock_misplaced s = some (s', cI 0) ∧ fr [(124, 124, 0)] s s' := by
  obtain ⟨⟨m1, m2, m3⟩, -⟩ := I
  obtain ⟨⟨n1, n2, n3⟩, -, -, -, -, kb, -⟩ := K
  obtain ⟨-, -, -, -, -, r6, -⟩ := R
  obtain ⟨x1, x2, x3⟩ := C
  have nN := ix_toNat (s.1 100 5)
  have nB := ix_toNat (s.1 125 3)
  have z0 : fr [(124, 124, 0)] s (wR s 124 0 300 (fun _ => cI 0)) := ⟨fun c k h => ⟨congrFun (wR_ne (fun e => by rw [e] at h; exact absurd h (by unfold inF; simp))) k, rfl⟩, rfl⟩
  have e0 : ∀ c, c ≠ 124 → (wR s 124 0 300 (fun _ => cI 0)).1 c = s.1 c := fun c hc => wR_ne hc
  have rr : ∀ b, b < ix (s.1 125 3) → rowsOf s 130 8 b = s.1 (130 + b) := fun b hb => rows_at (by omega)
  obtain ⟨s1, a1, a2, a3⟩ := ml_lp (B := ix (s.1 125 3)) (N := ix (s.1 100 5)) (len := fun b => ix (s.1 127 b)) (s0 := wR s 124 0 300 (fun _ => cI 0)) (by omega) (by omega) (by rw [e0 100 (by decide), cI_ix m2]) (by rw [e0 125 (by decide), cI_ix n2]) (fun b hb => by
    have kk := kb b hb
    have kx := ix_toNat (s.1 127 b)
    refine ⟨by rw [e0 127 (by decide), cI_ix (by omega)], by show ix (s.1 127 b) ≤ 10; omega, fun j hj => ?_⟩
    rw [e0 (130 + b) (by omega)]
    have := x1 b j hb hj
    rw [rr b hb] at this
    rcases this with u | u
    · exact Or.inl u
    · exact Or.inr ⟨ix (s.1 (130 + b) j), u.ix, (cI_ix u.1).symm⟩) (ix (s.1 125 3)) 1048576 0 (wR s 124 0 300 (fun _ => cI 0)) (by omega) (by omega) fr.rf (fun i hi => by
    rw [wR_1, if_pos ⟨rfl, Nat.zero_le _, hi⟩]; rfl)
  have b2 := z0.tr a2
  have fin : ∀ i, i < ix (s.1 100 5) → s1.1 124 i = if s1.1 117 i = cI (-1) then cI 0 else cI 1 := by
    intro i hi
    rw [a3 i (by omega), f124 b2 (c := 117) (by decide)]
    have eg : ∀ b, (wR s 124 0 300 (fun _ => cI 0)).1 (130 + b) = s.1 (130 + b) := fun b => e0 _ (by omega)
    have xi := fun l b hl hb => x3 i l b hi hl hb
    have e7 := r6 i hi
    by_cases z : s.1 117 i = cI (-1)
    · rw [if_pos z, tot_0 _ (fun q hq => by
        rw [eg]
        refine cntE_0 _ (fun j hj e => ?_)
        have k := (xi q j hq hj).mp (by rw [rr q hq]; exact e)
        rw [e7, z, eq_i, q_ti (by omega), show (cI (-1)).toInt = -1 from rfl] at k
        omega)]
      rfl
    · rw [if_neg z]
      rcases x2 i hi with ⟨u, -⟩ | ⟨u1, u2⟩
      · rw [e7] at u; exact absurd u z
      · have em := cI_ix u1.1
        have en := cI_ix u2.1
        have ul := u1.ix
        have ub := u2.ix
        have kk := kb _ ul
        have kx := ix_toNat (s.1 127 (ix (t.1 597 i)))
        rw [tot_1 (b := ix (t.1 597 i)) (by
          rw [eg]
          refine cntE_1 (k := ix (t.1 598 i)) ?_ _ ub (fun j hj e => ?_)
          · have := (xi _ _ ul ub).mpr ⟨em.symm, en.symm⟩
            rw [rr _ ul] at this
            exact this
          · have := ((xi _ j ul hj).mp (by rw [rr _ ul]; exact e)).2
            have hj' : j < 10 := by
              have hj2 : j < ix (s.1 127 (ix (t.1 597 i))) := hj
              omega
            rw [this, q_ix (by omega)]) _ ul (fun q hq hne => by
          rw [eg]
          refine cntE_0 _ (fun j hj e => hne ?_)
          have := ((xi q j hq hj).mp (by rw [rr q hq]; exact e)).1
          rw [this, q_ix (by omega)])]
        rfl
  have ml := m83_lp (s := s1) (N := ix (s.1 100 5)) (by omega) (by rw [f124 b2 (c := 100) (by decide), cI_ix m2]) fin (ix (s.1 100 5)) 1048576 0 (by omega) (by omega)
  have ml' : fLock_misplaced_h83 1048576 s1 (cI 0) (cI 0) = some (s1, cI 0) := ml
  refine ⟨s1, ?_, b2⟩
  have a1' : fLock_misplaced_h15 1048576 (wR s 124 0 300 (fun _ => cI 0)) (cI 0) = _ := a1
  unfold fLock_misplaced
  rw [e_fArr_fillI_124, bd1_some, a1', ml']
