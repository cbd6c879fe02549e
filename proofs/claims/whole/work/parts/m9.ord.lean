/-! ===== LEVEL 3: the sheet: the class orders the parts ===== -/
/-- a part's place: its line, its left, its top, in one number -/
def kyP (s : ev_M) (a : Nat) : Int32 := cI ((((ix (s.1 60 a) * 128 + ix (s.1 56 a)) * 4096 + ix (s.1 57 a)) : Nat) : Int)
def KyB (n : Nat) (s : ev_M) : Prop := ∀ a, a < n → ∃ L x y : Nat, L < 200 ∧ x < 128 ∧ y < 4096 ∧ s.1 60 a = cI (L : Int) ∧ s.1 56 a = cI (x : Int) ∧ s.1 57 a = cI (y : Int)
theorem kyP_i {n a L x y : Nat} {s : ev_M} (hL : L < 200) (hx : x < 128) (hy : y < 4096) (e1 : s.1 60 a = cI (L : Int)) (e2 : s.1 56 a = cI (x : Int)) (e3 : s.1 57 a = cI (y : Int)) : (kyP s a).toInt = (((L * 128 + x) * 4096 + y : Nat) : Int) := by
  unfold kyP
  rw [e1, e2, e3, q_ix (by omega), q_ix (by omega), q_ix (by omega), cI_toInt (by omega) (by omega)]
theorem e_gob {n a b : Nat} {s : ev_M} (K : KyB n s) (hn : n ≤ 200) (ha : a < n) (hb : b < a) : fSheet_goesBefore s (cI (a : Int)) (cI (b : Int)) = if (kyP s a).toInt < (kyP s b).toInt then some (cI 1) else some (cI 0) := by
  obtain ⟨L, x, y, a1, a2, a3, a4, a5, a6⟩ := K a ha
  obtain ⟨M, u, v, b1, b2, b3, b4, b5, b6⟩ := K b (by omega)
  have ka := kyP_i (n := n) a1 a2 a3 a4 a5 a6
  have kb := kyP_i (n := n) b1 b2 b3 b4 b5 b6
  have ab : inb (cI (a : Int)) 200 = true := q_in (by omega) (by decide)
  have bb : inb (cI (b : Int)) 200 = true := q_in (by omega) (by decide)
  have ax : ix (cI (a : Int)) = a := q_ix (by omega)
  have bx : ix (cI (b : Int)) = b := q_ix (by omega)
  have eL : (cI (L : Int) = cI (M : Int)) ↔ L = M := by rw [eq_i, q_ti (by omega), q_ti (by omega)]; omega
  have lL : (cI (L : Int) < cI (M : Int)) ↔ L < M := q_lt (by omega) (by omega)
  have sx : (cI (x : Int) - cI (u : Int)).toInt = (x : Int) - (u : Int) := by rw [sub_b (by rw [q_ti (by omega), q_ti (by omega)]; omega) (by rw [q_ti (by omega), q_ti (by omega)]; omega), q_ti (by omega), q_ti (by omega)]
  have sy : (cI (y : Int) - cI (v : Int)).toInt = (y : Int) - (v : Int) := by rw [sub_b (by rw [q_ti (by omega), q_ti (by omega)]; omega) (by rw [q_ti (by omega), q_ti (by omega)]; omega), q_ti (by omega), q_ti (by omega)]
  have zx : (cI (x : Int) - cI (u : Int) = 0) ↔ x = u := by rw [eq_i, sx, i32_0]; omega
  have zy : (cI (y : Int) - cI (v : Int) = 0) ↔ y = v := by rw [eq_i, sy, i32_0]; omega
  have nx : (cI (x : Int) - cI (u : Int) < 0) ↔ x < u := by rw [lt_i, sx, i32_0]; omega
  have ny : (cI (y : Int) - cI (v : Int) < 0) ↔ y < v := by rw [lt_i, sy, i32_0]; omega
  have nab : ¬ cI (a : Int) < cI (b : Int) := by rw [q_lt (by omega) (by omega)]; omega
  rw [ka, kb]
  unfold fSheet_goesBefore
  simp only [if_pos ab, if_pos bb, ax, bx, a4, b4, ltI_eq, show 56 + ix (cI 0) = 56 from rfl, show 56 + ix (cI 1) = 57 from rfl, a5, b5, a6, b6, if_neg nab]
  by_cases z1 : L = M
  · rw [if_pos (eL.mpr z1)]
    by_cases z2 : x = u
    · rw [if_pos (zx.mpr z2)]
      by_cases z3 : y = v
      · rw [if_pos (zy.mpr z3), if_neg (by omega)]
      · rw [if_neg (fun q => z3 (zy.mp q))]
        by_cases z4 : y < v
        · rw [if_pos (ny.mpr z4), if_pos (by omega)]
        · rw [if_neg (fun q => z4 (ny.mp q)), if_neg (by omega)]
    · rw [if_neg (fun q => z2 (zx.mp q))]
      by_cases z4 : x < u
      · rw [if_pos (nx.mpr z4), if_pos (by omega)]
      · rw [if_neg (fun q => z4 (nx.mp q)), if_neg (by omega)]
  · rw [if_neg (fun q => z1 (eL.mp q))]
    by_cases z4 : L < M
    · rw [if_pos (lL.mpr z4), if_pos (by omega)]
    · rw [if_neg (fun q => z4 (lL.mp q)), if_neg (by omega)]
theorem KyB.k61 {n : Nat} {s s' : ev_M} (K : KyB n s) (h : fr [(61, 61, 0)] s s') : KyB n s' := fun a ha => by
  rw [(h.1 60 a rfl).1, (h.1 56 a rfl).1, (h.1 57 a rfl).1]
  exact K a ha
theorem kyP_k {a : Nat} {s s' : ev_M} (h : fr [(61, 61, 0)] s s') : kyP s' a = kyP s a := by
  unfold kyP
  rw [(h.1 60 a rfl).1, (h.1 56 a rfl).1, (h.1 57 a rfl).1]
theorem or_in {n k : Nat} {S : List Nat} {k2 : ev_M → Int32 → Option ev_M} (hn : n ≤ 200) (hk : k < n) (hS : ∀ q, q ∈ S → q < k) (hSl : S.length ≤ k) : ∀ (p m : Nat) (s : ev_M), p ≤ S.length → p < m → KyB n s → Shf (s.1 61) S p → (∀ q (h : q < S.length), p ≤ q → (kyP s k).toInt < (kyP s S[q]).toInt) → ∃ (p' : Nat) (s' : ev_M), p' ≤ S.length ∧ fSheet_orderParts_h12 k2 m s (cI (k : Int)) (cI (p : Int)) = k2 s' (cI ((k + 1 : Nat) : Int)) ∧ (∀ q (h : q < (insP S p' k).length), s'.1 61 q = cI (((insP S p' k)[q] : Nat) : Int)) ∧ (∀ q (h : q < S.length), p' ≤ q → (kyP s k).toInt < (kyP s S[q]).toInt) ∧ (∀ (h : 0 < p') (h2 : p' - 1 < S.length), (kyP s S[p' - 1]).toInt ≤ (kyP s k).toInt) ∧ fr [(61, 61, 0)] s s'
  | 0, m, s, hp, hm, K, hs, hg => by
    obtain ⟨m, rfl⟩ : ∃ k, m = k + 1 := ⟨m - 1, by omega⟩
    have i0 : inb (cI ((0 : Nat) : Int)) 200 = true := by decide
    refine ⟨0, wI s 61 0 (cI (k : Int)), Nat.zero_le _, ?_, ?_, hg, fun h => absurd h (Nat.lt_irrefl _), fr.rf.wI rfl⟩
    · rw [fSheet_orderParts_h12, if_pos (show cI ((0 : Nat) : Int) ≤ 0 by decide)]
      unfold fSheet_orderParts_b52
      rw [if_pos i0, ltM_eq, q_ix (by omega), q_s (by omega)]
    · rw [wI_c]
      exact hs.ins hp
  | p + 1, m, s, hp, hm, K, hs, hg => by
    obtain ⟨m, rfl⟩ : ∃ k, m = k + 1 := ⟨m - 1, by omega⟩
    have j0 : ¬ cI ((p + 1 : Nat) : Int) ≤ 0 := by rw [le_i, q_ti (by omega), i32_0]; omega
    have jb : inb (cI ((p + 1 : Nat) : Int)) 200 = true := q_in (by omega) (by decide)
    have jx : ix (cI ((p + 1 : Nat) : Int)) = p + 1 := q_ix (by omega)
    have e1 : cI ((p + 1 : Nat) : Int) - cI 1 = cI (p : Int) := (q_sb (a := p + 1) (b := 1) (by omega) (by omega)).trans (by rw [Nat.add_sub_cancel])
    have e2 : cI ((p + 1 : Nat) : Int) + cI (-1) = cI (p : Int) := by
      rw [eq_i, add_b (by rw [q_ti (by omega), show (cI (-1)).toInt = -1 from rfl]; omega) (by rw [q_ti (by omega), show (cI (-1)).toInt = -1 from rfl]; omega), q_ti (by omega), q_ti (by omega), show (cI (-1)).toInt = -1 from rfl]; omega
    have pb : inb (cI (p : Int)) 200 = true := q_in (by omega) (by decide)
    have px : ix (cI (p : Int)) = p := q_ix (by omega)
    have pl : p < S.length := by omega
    have hv := hs.at pl
    have sp := hS _ (List.getElem_mem pl)
    have gb := e_gob K hn hk sp
    by_cases z : (kyP s k).toInt < (kyP s S[p]).toInt
    · have w1 : fr [(61, 61, 0)] s (wI s 61 (p + 1) (cI ((S[p] : Nat) : Int))) := fr.rf.wI rfl
      obtain ⟨p', s', q1, q2, q3, q4, q5, q6⟩ := or_in (k2 := k2) hn hk hS hSl p m (wI s 61 (p + 1) (cI ((S[p] : Nat) : Int))) (by omega) (by omega) (K.k61 w1) (by rw [wI_c, ← hv]; exact hs.step pl) (fun q h hq => by
        rw [kyP_k w1, kyP_k w1]
        by_cases w : q = p
        · subst w; exact z
        · exact hg q h (by omega))
      refine ⟨p', s', q1, ?_, q3, fun q h hq => ?_, fun h h2 => ?_, w1.tr q6⟩
      · rw [fSheet_orderParts_h12, if_neg j0, e1, if_pos pb, px, hv, gb, if_pos z, bd1_some, if_neg (show ¬ cI 1 = 0 by decide), if_pos pb, if_pos jb, ltM_eq, jx, e2]
        exact q2
      · have := q4 q h hq
        rw [kyP_k w1, kyP_k w1] at this
        exact this
      · have := q5 h h2
        rw [kyP_k w1, kyP_k w1] at this
        exact this
    · refine ⟨p + 1, wI s 61 (p + 1) (cI (k : Int)), hp, ?_, ?_, hg, fun _ _ => Int.not_lt.mp z, fr.rf.wI rfl⟩
      · rw [fSheet_orderParts_h12, if_neg j0, e1, if_pos pb, px, hv, gb, if_neg z, bd1_some, if_pos (show cI 0 = 0 from rfl)]
        unfold fSheet_orderParts_b52
        rw [if_pos jb, ltM_eq, jx, q_s (by omega)]
      · rw [wI_c]
        exact hs.ins hp
theorem or_lp {n : Nat} (hn : n ≤ 200) : ∀ (r m k : Nat) (S : List Nat) (s : ev_M), k + r = n → r < m → KyB n s → s.1 52 9 = cI (n : Int) → S.length = k → S.Pairwise (rkL (kyP s)) → (∀ q, q ∈ S ↔ q < k) → (∀ q (h : q < S.length), s.1 61 q = cI ((S[q] : Nat) : Int)) → ∃ (S' : List Nat) (s' : ev_M), fSheet_orderParts_h2 m s (cI (k : Int)) = some s' ∧ S'.length = n ∧ S'.Pairwise (rkL (kyP s)) ∧ (∀ q, q ∈ S' ↔ q < n) ∧ (∀ q (h : q < S'.length), s'.1 61 q = cI ((S'[q] : Nat) : Int)) ∧ fr [(61, 61, 0)] s s' := by
  intro r
  induction r with
  | zero =>
    intro m k S s h0 hm K h3 hk hp hM h5
    obtain ⟨m, rfl⟩ : ∃ k, m = k + 1 := ⟨m - 1, by omega⟩
    have ek : k = n := by omega
    rw [ek] at hM hk
    refine ⟨S, s, ?_, hk, hp, hM, h5, fr.rf⟩
    rw [fSheet_orderParts_h2, h3, if_neg (by rw [q_lt (by omega) (by omega)]; omega)]
  | succ r ih =>
    intro m k S s h0 hm K h3 hk hp hM h5
    obtain ⟨m, rfl⟩ : ∃ k, m = k + 1 := ⟨m - 1, by omega⟩
    obtain ⟨p', s1, q1, q2, q3, q4, q5, q6⟩ := or_in (S := S) (k := k) (k2 := fSheet_orderParts_h2 m) hn (by omega) (fun q hq => (hM q).mp hq) (by omega) S.length 1048576 s (Nat.le_refl _) (by omega) K (Shf.top h5) (fun q h hq => absurd h (by omega))
    have ke : kyP s1 = kyP s := funext fun a => kyP_k q6
    have hpI := rkL_ins (P := kyP s) (f := k) (p' := p') hp (fun q hq => (hM q).mp hq) q1 q4 q5
    obtain ⟨S', s', z1, z2, z3, z4, z5, z6⟩ := ih m (k + 1) (insP S p' k) s1 (by omega) (by omega) (K.k61 q6) (by rw [(q6.1 52 9 rfl).1]; exact h3) (by rw [insP_len, hk]) (by rw [ke]; exact hpI) (fun q => by
      rw [insP_mem, hM q]
      omega) q3
    rw [ke] at z3
    refine ⟨S', s', ?_, z2, z3, z4, z5, q6.tr z6⟩
    rw [fSheet_orderParts_h2, h3, if_pos ((q_lt (by omega) (by omega)).mpr (by omega))]
    rw [hk] at q2
    exact q2.trans z1
/-- the parts in their order: each stands where so many go before it -/
theorem order_ok {n : Nat} {s : ev_M} (hn : n ≤ 200) (K : KyB n s) (h9 : s.1 52 9 = cI (n : Int)) : ∃ (S : List Nat) (s' : ev_M), fSheet_orderParts s = some s' ∧ S.length = n ∧ S.Pairwise (rkL (kyP s)) ∧ (∀ q, q ∈ S ↔ q < n) ∧ (∀ q (h : q < S.length), s'.1 61 q = cI ((S[q] : Nat) : Int)) ∧ (∀ k (h : k < S.length), cntE (rcn (kyP s) S[k]) 1 n = k) ∧ fr [(61, 61, 0)] s s' := by
  obtain ⟨S, s', z1, z2, z3, z4, z5, z6⟩ := or_lp hn n 1048576 0 [] s (by omega) (by omega) K h9 rfl List.Pairwise.nil (fun q => ⟨fun h => absurd h (by simp), fun h => absurd h (Nat.not_lt_zero _)⟩) (fun q h => absurd h (Nat.not_lt_zero _))
  exact ⟨S, s', z1, z2, z3, z4, z5, fun k hk => rk_idx z3 z4 hk, z6⟩
