/-! ===== LEVEL 3: the audit: what lies in bags, rows and boxes ===== -/
theorem in124 {c k : Nat} (h : c ≠ 124) : inF [(124, 124, 0)] c k = false := by
  cases z : inF [(124, 124, 0)] c k with
  | false => rfl
  | true =>
    obtain ⟨q, q1, q2⟩ := List.any_eq_true.mp z
    obtain rfl : q = (124, 124, 0) := by simpa using q1
    have q3 := (Bool.and_eq_true _ _).mp ((Bool.and_eq_true _ _).mp q2).1
    have q4 := Nat.le_of_ble_eq_true q3.1
    have q5 := Nat.le_of_ble_eq_true q3.2
    exact absurd (Nat.le_antisymm q5 q4) h
theorem f124 {s t : ev_M} (h : fr [(124, 124, 0)] s t) {c : Nat} (hc : c ≠ 124) : t.1 c = s.1 c := funext fun k => (h.1 c k (in124 hc)).1
/-- how often x lies in the first n rows -/
def tot (g : Nat → Nat → Int32) (len : Nat → Nat) (x : Int32) : Nat → Nat
  | 0 => 0
  | n + 1 => tot g len x n + cntE (g n) x (len n)
theorem tot_le {g : Nat → Nat → Int32} {len : Nat → Nat} {x : Int32} {M : Nat} : ∀ n, (∀ q, q < n → len q ≤ M) → tot g len x n ≤ M * n
  | 0, _ => Nat.zero_le _
  | n + 1, h => by
    have := tot_le (g := g) (x := x) n (fun q hq => h q (by omega))
    have c := cntE_le (f := g n) (x := x) (len n)
    have l := h n (by omega)
    have e : M * (n + 1) = M * n + M := Nat.mul_succ _ _
    simp only [tot]
    omega
theorem tot_0 {g : Nat → Nat → Int32} {len : Nat → Nat} {x : Int32} : ∀ n, (∀ q, q < n → cntE (g q) x (len q) = 0) → tot g len x n = 0
  | 0, _ => rfl
  | n + 1, h => by
    simp only [tot]
    rw [tot_0 n (fun q hq => h q (by omega)), h n (by omega)]
theorem tot_1 {g : Nat → Nat → Int32} {len : Nat → Nat} {x : Int32} {b : Nat} (h1 : cntE (g b) x (len b) = 1) : ∀ n, b < n → (∀ q, q < n → q ≠ b → cntE (g q) x (len q) = 0) → tot g len x n = 1
  | 0, hb, _ => by omega
  | n + 1, hb, h => by
    simp only [tot]
    by_cases z : n = b
    · rw [z, h1, tot_0 b (fun q hq => h q (by omega) (by omega))]
    · rw [tot_1 h1 n (by omega) (fun q hq => h q (by omega)), h n (by omega) z]
theorem cntE_1 {f : Nat → Int32} {x : Int32} {k : Nat} (hk : f k = x) : ∀ n, k < n → (∀ j, j < n → f j = x → j = k) → cntE f x n = 1
  | 0, h, _ => by omega
  | n + 1, h, hu => by
    simp only [cntE]
    by_cases z : n = k
    · rw [z, if_pos hk, cntE_0 k (fun j hj e => by have := hu j (by omega) e; omega)]
    · rw [if_neg (fun e => z (hu n (by omega) e)), cntE_1 hk n (by omega) (fun j hj => hu j (by omega))]
/-- a list's row holds x once or never -/
theorem cnt_hol {f : Nat → Int32} {n : Int32} {l : List Nat} {i N : Nat} (h : Hol f n l) (hN : l.length ≤ N) (hN2 : N ≤ 300) (hl : ∀ x, x ∈ l → x < 300) (hi : i < 300) (hd : l.Nodup) : (i ∈ l → cntE f (cI (i : Int)) l.length = 1) ∧ (¬ i ∈ l → cntE f (cI (i : Int)) l.length = 0) := by
  have inj : ∀ j (hj : j < l.length), f j = cI (i : Int) → l[j] = i := fun j hj e => by
    rw [h.2 j hj] at e
    have := hl _ (List.getElem_mem hj)
    rw [eq_i, q_ti (by omega), q_ti (by omega)] at e
    omega
  constructor
  · intro m
    obtain ⟨k, hk, ek⟩ := List.mem_iff_getElem.mp m
    refine cntE_1 (k := k) (by rw [h.2 k hk, ek]) _ hk (fun j hj e => ?_)
    have := inj j hj e
    exact (List.getElem_inj hd).mp (this.trans ek.symm)
  · intro m
    refine cntE_0 _ (fun j hj e => m ?_)
    rw [← inj j hj e]
    exact List.getElem_mem hj
/-- every item lies as often as its state says -/
theorem mis_lp {s : ev_M} {c : Int32} {N : Nat} (hN : N ≤ 300) (h5 : s.1 100 5 = cI (N : Int)) (h : ∀ i, i < N → s.1 124 i = if s.1 102 i = c then cI 1 else cI 0) : ∀ (r m k : Nat), k + r = N → r < m → fItems_misplaced_h4 s m c (cI 0) (cI (k : Int)) = some (cI 0)
  | 0, m, k, hk, hm => by
    obtain ⟨m, rfl⟩ : ∃ k, m = k + 1 := ⟨m - 1, by omega⟩
    rw [fItems_misplaced_h4, h5, if_neg (by rw [q_lt (by omega) (by omega)]; omega)]
  | r + 1, m, k, hk, hm => by
    obtain ⟨m, rfl⟩ : ∃ k, m = k + 1 := ⟨m - 1, by omega⟩
    have ih := mis_lp hN h5 h r m (k + 1) (by omega) (by omega)
    have hk' := h k (by omega)
    have kb : inb (cI (k : Int)) 300 = true := q_in (by omega) (by decide)
    have kx : ix (cI (k : Int)) = k := q_ix (by omega)
    have is : fItems_is s (cI (k : Int)) c = some (if s.1 102 k = c then cI 1 else cI 0) := by
      unfold fItems_is
      rw [if_pos kb, kx]
      show (if s.1 102 k = c then some (cI 1) else some (cI 0)) = _
      by_cases z : s.1 102 k = c
      · rw [if_pos z, if_pos z]
      · rw [if_neg z, if_neg z]
    rw [fItems_misplaced_h4, h5, if_pos ((q_lt (by omega) (by omega)).mpr (by omega)), if_pos kb, is, bd1_some, kx, hk']
    unfold fItems_misplaced_b32 fItems_misplaced_b38
    rw [q_s (by omega)]
    by_cases z : s.1 102 k = c
    · simp only [if_pos z, if_neg (show ¬ cI 1 = 0 by decide), if_true]
      exact ih
    · simp only [if_neg z, if_pos (show cI 0 = 0 from rfl), if_true]
      exact ih
theorem mb_in {k15 : ev_M → Int32 → Option (ev_M × Int32)} {b n : Nat} {c : Nat → Nat} {s0 : ev_M} (hb : b < 80) (hlen : s0.1 462 b = cI (n : Int)) (hn : n ≤ 40) (hc : ∀ i, i < 300 → c i ≤ 50000) (hv : ∀ j, j < n → ∃ e : Nat, e < 300 ∧ s0.1 (466 + b) j = cI (e : Int)) : ∀ (r m j : Nat) (s : ev_M), j + r = n → r < m → fr [(124, 124, 0)] s0 s → (∀ i, i < 300 → s.1 124 i = cI ((c i + cntE (s0.1 (466 + b)) (cI (i : Int)) j : Nat) : Int)) → ∃ s', fLines_misplaced_h25 k15 m s (cI (b : Int)) (cI (j : Int)) = k15 s' (cI ((b + 1 : Nat) : Int)) ∧ fr [(124, 124, 0)] s0 s' ∧ ∀ i, i < 300 → s'.1 124 i = cI ((c i + cntE (s0.1 (466 + b)) (cI (i : Int)) n : Nat) : Int) := by
  have bb : inb (cI (b : Int)) 80 = true := q_in hb (by decide)
  have bx : ix (cI (b : Int)) = b := q_ix (by omega)
  intro r
  induction r with
  | zero =>
    intro m j s hj hm hf hg
    obtain ⟨m, rfl⟩ : ∃ k, m = k + 1 := ⟨m - 1, by omega⟩
    have le : s.1 (459 + ix (cI 3)) (ix (cI (b : Int))) = cI (n : Int) := by
      rw [bx]; exact (congrFun (f124 hf (c := 462) (by decide)) b).trans hlen
    refine ⟨s, ?_, hf, by rw [show n = j by omega]; exact hg⟩
    rw [fLines_misplaced_h25, if_pos bb, le, if_neg (by rw [q_lt (by omega) (by omega)]; omega), q_s (by omega)]
  | succ r ih =>
    intro m j s hj hm hf hg
    obtain ⟨m, rfl⟩ : ∃ k, m = k + 1 := ⟨m - 1, by omega⟩
    have le : s.1 (459 + ix (cI 3)) (ix (cI (b : Int))) = cI (n : Int) := by
      rw [bx]; exact (congrFun (f124 hf (c := 462) (by decide)) b).trans hlen
    obtain ⟨e, e1, e2⟩ := hv j (by omega)
    have rv : s.1 (466 + ix (cI (b : Int))) (ix (cI (j : Int))) = cI (e : Int) := by
      rw [bx, q_ix (by omega)]; exact (congrFun (f124 hf (c := 466 + b) (by omega)) j).trans e2
    have eb : inb (cI (e : Int)) 300 = true := q_in e1 (by decide)
    have ex : ix (cI (e : Int)) = e := q_ix (by omega)
    have jb : inb (cI (j : Int)) 40 = true := q_in (by omega) (by decide)
    have ce := cntE_le (f := s0.1 (466 + b)) (x := cI (e : Int)) j
    have hce := hc e e1
    obtain ⟨s', a1, a2, a3⟩ := ih m (j + 1) (wI s 124 e (s.1 124 e + cI 1)) (by omega) (by omega) (hf.wI rfl) (fun i hi => by
      rw [wI_c]
      simp only [cntE]
      rw [e2]
      by_cases z : i = e
      · rw [z, up1_eq, if_pos rfl, hg e e1, q_s (by omega), Nat.add_assoc]
      · rw [up1_ne z, if_neg (by rw [eq_i, q_ti (by omega), q_ti (by omega)]; omega), Nat.add_zero]
        exact hg i hi)
    refine ⟨s', ?_, a2, a3⟩
    rw [← a1, fLines_misplaced_h25, if_pos bb, le, if_pos ((q_lt (by omega) (by omega)).mpr (by omega)), if_pos bb, if_pos jb, rv, if_pos eb, if_pos eb, ltM_eq, ex, q_s (by omega)]
theorem mb_lp {B : Nat} {len : Nat → Nat} {s0 : ev_M} {K : ev_M → Int32 → Option (ev_M × Int32)} (hB : B ≤ 80) (hcnt : s0.1 449 6 = cI (B : Int)) (hlen : ∀ b, b < B → s0.1 462 b = cI (len b : Int) ∧ len b ≤ 40 ∧ ∀ j, j < len b → ∃ e : Nat, e < 300 ∧ s0.1 (466 + b) j = cI (e : Int)) : ∀ (r m b : Nat) (s : ev_M), b + r = B → r < m → fr [(124, 124, 0)] s0 s → (∀ i, i < 300 → s.1 124 i = cI ((tot (fun b => s0.1 (466 + b)) len (cI (i : Int)) b : Nat) : Int)) → ∃ s', fLines_misplaced_h15 m s (cI (b : Int)) = (bd1 (fItems_misplaced s' (cI 2)) fun v2 => some (s', v2)) ∧ fr [(124, 124, 0)] s0 s' ∧ ∀ i, i < 300 → s'.1 124 i = cI ((tot (fun b => s0.1 (466 + b)) len (cI (i : Int)) B : Nat) : Int) := by
  intro r
  induction r with
  | zero =>
    intro m b s hb hm hf hg
    obtain ⟨m, rfl⟩ : ∃ k, m = k + 1 := ⟨m - 1, by omega⟩
    have le : s.1 449 6 = cI (B : Int) := (congrFun (f124 hf (c := 449) (by decide)) 6).trans hcnt
    refine ⟨s, ?_, hf, by rw [show B = b by omega]; exact hg⟩
    rw [fLines_misplaced_h15, le, if_neg (by rw [q_lt (by omega) (by omega)]; omega)]
  | succ r ih =>
    intro m b s hb hm hf hg
    obtain ⟨m, rfl⟩ : ∃ k, m = k + 1 := ⟨m - 1, by omega⟩
    have le : s.1 449 6 = cI (B : Int) := (congrFun (f124 hf (c := 449) (by decide)) 6).trans hcnt
    obtain ⟨g1, g2, g3⟩ := hlen b (by omega)
    obtain ⟨s1, a1, a2, a3⟩ := mb_in (k15 := fLines_misplaced_h15 m) (c := fun i => tot (fun b => s0.1 (466 + b)) len (cI (i : Int)) b) (by omega) g1 g2 (fun i hi => by
      have := tot_le (g := fun b => s0.1 (466 + b)) (len := len) (x := cI (i : Int)) (M := 40) b (fun q hq => (hlen q (by omega)).2.1)
      have : 40 * b ≤ 40 * 80 := Nat.mul_le_mul_left _ (by omega)
      show tot (fun b => s0.1 (466 + b)) len (cI (i : Int)) b ≤ 50000
      omega) g3 (len b) 1048576 0 s (by omega) (by omega) hf hg
    obtain ⟨s', b1, b2, b3⟩ := ih m (b + 1) s1 (by omega) (by omega) a2 a3
    refine ⟨s', ?_, b2, b3⟩
    rw [← b1, fLines_misplaced_h15, le, if_pos ((q_lt (by omega) (by omega)).mpr (by omega))]
    exact a1
theorem mr_in {k15 : ev_M → Int32 → Option (ev_M × Int32)} {b n : Nat} {c : Nat → Nat} {s0 : ev_M} (hb : b < 12) (hlen : s0.1 144 b = cI (n : Int)) (hn : n ≤ 300) (hc : ∀ i, i < 300 → c i ≤ 50000) (hv : ∀ j, j < n → ∃ e : Nat, e < 300 ∧ s0.1 (160 + b) j = cI (e : Int)) : ∀ (r m j : Nat) (s : ev_M), j + r = n → r < m → fr [(124, 124, 0)] s0 s → (∀ i, i < 300 → s.1 124 i = cI ((c i + cntE (s0.1 (160 + b)) (cI (i : Int)) j : Nat) : Int)) → ∃ s', fRounds_misplaced_h25 k15 m s (cI (b : Int)) (cI (j : Int)) = k15 s' (cI ((b + 1 : Nat) : Int)) ∧ fr [(124, 124, 0)] s0 s' ∧ ∀ i, i < 300 → s'.1 124 i = cI ((c i + cntE (s0.1 (160 + b)) (cI (i : Int)) n : Nat) : Int) := by
  have bb : inb (cI (b : Int)) 12 = true := q_in hb (by decide)
  have bx : ix (cI (b : Int)) = b := q_ix (by omega)
  intro r
  induction r with
  | zero =>
    intro m j s hj hm hf hg
    obtain ⟨m, rfl⟩ : ∃ k, m = k + 1 := ⟨m - 1, by omega⟩
    have le : s.1 (140 + ix (cI 4)) (ix (cI (b : Int))) = cI (n : Int) := by
      rw [bx]; exact (congrFun (f124 hf (c := 144) (by decide)) b).trans hlen
    refine ⟨s, ?_, hf, by rw [show n = j by omega]; exact hg⟩
    rw [fRounds_misplaced_h25, if_pos bb, le, if_neg (by rw [q_lt (by omega) (by omega)]; omega), q_s (by omega)]
  | succ r ih =>
    intro m j s hj hm hf hg
    obtain ⟨m, rfl⟩ : ∃ k, m = k + 1 := ⟨m - 1, by omega⟩
    have le : s.1 (140 + ix (cI 4)) (ix (cI (b : Int))) = cI (n : Int) := by
      rw [bx]; exact (congrFun (f124 hf (c := 144) (by decide)) b).trans hlen
    obtain ⟨e, e1, e2⟩ := hv j (by omega)
    have rv : s.1 (160 + ix (cI (b : Int))) (ix (cI (j : Int))) = cI (e : Int) := by
      rw [bx, q_ix (by omega)]; exact (congrFun (f124 hf (c := 160 + b) (by omega)) j).trans e2
    have eb : inb (cI (e : Int)) 300 = true := q_in e1 (by decide)
    have ex : ix (cI (e : Int)) = e := q_ix (by omega)
    have jb : inb (cI (j : Int)) 300 = true := q_in (by omega) (by decide)
    have ce := cntE_le (f := s0.1 (160 + b)) (x := cI (e : Int)) j
    have hce := hc e e1
    obtain ⟨s', a1, a2, a3⟩ := ih m (j + 1) (wI s 124 e (s.1 124 e + cI 1)) (by omega) (by omega) (hf.wI rfl) (fun i hi => by
      rw [wI_c]
      simp only [cntE]
      rw [e2]
      by_cases z : i = e
      · rw [z, up1_eq, if_pos rfl, hg e e1, q_s (by omega), Nat.add_assoc]
      · rw [up1_ne z, if_neg (by rw [eq_i, q_ti (by omega), q_ti (by omega)]; omega), Nat.add_zero]
        exact hg i hi)
    refine ⟨s', ?_, a2, a3⟩
    rw [← a1, fRounds_misplaced_h25, if_pos bb, le, if_pos ((q_lt (by omega) (by omega)).mpr (by omega)), if_pos bb, if_pos jb, rv, if_pos eb, if_pos eb, ltM_eq, ex, q_s (by omega)]
theorem mr_lp {B : Nat} {len : Nat → Nat} {s0 : ev_M} {K : ev_M → Int32 → Option (ev_M × Int32)} (hB : B ≤ 12) (hcnt : s0.1 138 3 = cI (B : Int)) (hlen : ∀ b, b < B → s0.1 144 b = cI (len b : Int) ∧ len b ≤ 300 ∧ ∀ j, j < len b → ∃ e : Nat, e < 300 ∧ s0.1 (160 + b) j = cI (e : Int)) : ∀ (r m b : Nat) (s : ev_M), b + r = B → r < m → fr [(124, 124, 0)] s0 s → (∀ i, i < 300 → s.1 124 i = cI ((tot (fun b => s0.1 (160 + b)) len (cI (i : Int)) b : Nat) : Int)) → ∃ s', fRounds_misplaced_h15 m s (cI (b : Int)) = (bd1 (fItems_misplaced s' (cI 3)) fun v2 => some (s', v2)) ∧ fr [(124, 124, 0)] s0 s' ∧ ∀ i, i < 300 → s'.1 124 i = cI ((tot (fun b => s0.1 (160 + b)) len (cI (i : Int)) B : Nat) : Int) := by
  intro r
  induction r with
  | zero =>
    intro m b s hb hm hf hg
    obtain ⟨m, rfl⟩ : ∃ k, m = k + 1 := ⟨m - 1, by omega⟩
    have le : s.1 138 3 = cI (B : Int) := (congrFun (f124 hf (c := 138) (by decide)) 3).trans hcnt
    refine ⟨s, ?_, hf, by rw [show B = b by omega]; exact hg⟩
    rw [fRounds_misplaced_h15, le, if_neg (by rw [q_lt (by omega) (by omega)]; omega)]
  | succ r ih =>
    intro m b s hb hm hf hg
    obtain ⟨m, rfl⟩ : ∃ k, m = k + 1 := ⟨m - 1, by omega⟩
    have le : s.1 138 3 = cI (B : Int) := (congrFun (f124 hf (c := 138) (by decide)) 3).trans hcnt
    obtain ⟨g1, g2, g3⟩ := hlen b (by omega)
    obtain ⟨s1, a1, a2, a3⟩ := mr_in (k15 := fRounds_misplaced_h15 m) (c := fun i => tot (fun b => s0.1 (160 + b)) len (cI (i : Int)) b) (by omega) g1 g2 (fun i hi => by
      have := tot_le (g := fun b => s0.1 (160 + b)) (len := len) (x := cI (i : Int)) (M := 300) b (fun q hq => (hlen q (by omega)).2.1)
      have : 300 * b ≤ 300 * 12 := Nat.mul_le_mul_left _ (by omega)
      show tot (fun b => s0.1 (160 + b)) len (cI (i : Int)) b ≤ 50000
      omega) g3 (len b) 1048576 0 s (by omega) (by omega) hf hg
    obtain ⟨s', b1, b2, b3⟩ := ih m (b + 1) s1 (by omega) (by omega) a2 a3
    refine ⟨s', ?_, b2, b3⟩
    rw [← b1, fRounds_misplaced_h15, le, if_pos ((q_lt (by omega) (by omega)).mpr (by omega))]
    exact a1
