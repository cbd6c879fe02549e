/-! ===== LEVEL 3: a record read out of the log: class and reference ===== -/
theorem i2b_and (x : Int32) : i2b (i2b (x &&& cI 255)) = i2b x := by
  rw [i2b_i]
  unfold i2b
  rw [Int32.toInt8_and, show (cI 255).toInt8 = -1 by decide, Int8.and_neg_one]
section
variable {s t : ev_M}
/-- four bytes as a number -/
def wd (w : Nat → Int32) (p : Nat) : Int32 := ((((w p &&& cI 255) <<< (cI 24 &&& 31)) ||| ((w (p + 1) &&& cI 255) <<< (cI 16 &&& 31))) ||| ((w (p + 2) &&& cI 255) <<< (cI 8 &&& 31))) ||| (w (p + 3) &&& cI 255)
theorem wdC4 {p : Nat} (hp : p + 4 ≤ 37200) : fLog_wordAt s (cI (p : Int)) = some (wd (s.1 13) p) := by
  have st : ∀ (m j : Nat) (y : Int32), p ≤ j → j < p + 4 → fLog_wordAt_h4 s (m + 1) (cI (p : Int)) y (cI (j : Int)) = fLog_wordAt_h4 s m (cI (p : Int)) ((y <<< (cI 8 &&& 31)) ||| (s.1 13 j &&& cI 255)) (cI ((j + 1 : Nat) : Int)) := fun m j y h1 h2 => by
    rw [fLog_wordAt_h4, show cI (p : Int) + cI 4 = cI ((p + 4 : Nat) : Int) from q_ad (b := 4) (by omega), if_pos ((q_lt (by omega) (by omega)).mpr h2), if_pos (by rw [lt_i, q_ti (by omega), show (cI 37200).toInt = 37200 from rfl]; omega), if_pos (q_in (by omega) (by decide)), q_ix (by omega), ltI_eq, q_s (by omega)]
  have e4 := (st 1048575 p (cI 0) (by omega) (by omega)).trans ((st 1048574 (p + 1) _ (by omega) (by omega)).trans ((st 1048573 (p + 2) _ (by omega) (by omega)).trans (st 1048572 (p + 3) _ (by omega) (by omega))))
  rw [wd_4] at e4
  unfold fLog_wordAt
  refine e4.trans ?_
  rw [show (1048572 : Nat) = 1048571 + 1 from rfl, fLog_wordAt_h4, show cI (p : Int) + cI 4 = cI ((p + 4 : Nat) : Int) from q_ad (b := 4) (by omega), if_neg (by rw [lt_i]; show ¬ (cI ((p + 4 : Nat) : Int)).toInt < (cI ((p + 4 : Nat) : Int)).toInt; omega)]
  rfl
theorem nx_M {p : Nat} (h : t.1 549 21 = cI (p : Int)) (hp : p < 37200) : fM_next t = some (wI t 549 21 (cI ((p + 1 : Nat) : Int)), t.1 557 p &&& cI 255) := by
  unfold fM_next
  rw [ltM_eq, h, q_s (by omega), wI_c, up1_eq, show cI ((p + 1 : Nat) : Int) - cI 1 = cI ((p + 1 - 1 : Nat) : Int) from q_sb (b := 1) (by omega) (by omega), show p + 1 - 1 = p by omega, if_pos (q_in (by omega) (by decide)), q_ix (by omega), wI_ne (by decide)]
theorem lk_M {p U a : Nat} (h : t.1 549 21 = cI (p : Int)) (h2 : t.1 549 20 = cI (U : Int)) (hp : p + a < 60000) (hU : U < 60000) : fM_lacks t (cI (a : Int)) = some (if p + a ≤ U then cI 0 else cI 1) := by
  unfold fM_lacks
  rw [h, h2, q_ad (by omega)]
  by_cases z : p + a ≤ U
  · rw [if_pos z, if_pos (by rw [le_i, q_ti (by omega), q_ti (by omega)]; omega)]
  · rw [if_neg z, if_neg (by rw [le_i, q_ti (by omega), q_ti (by omega)]; omega)]
/-- what the class does once the arguments are read -/
def TC (x2 : Int32) (s : ev_M) : Option (ev_M × Int32) := if s.1 9 14 = cI 39 then bd1 (fPH_outside s (s.1 14 (ix (cI 2))) (cI 0) (cI 1)) fun v8 => if v8 = 0 then fLog_readsRecord_4_b138 s x2 else some (s, cI 0) else fLog_readsRecord_4_b138 s x2
def TM (s : ev_M) : Option (ev_M × Int32) := if s.1 549 16 = cI 39 then bd1 (fM_in s (s.1 553 (ix (cI 2))) (cI 0) (cI 1)) fun v26 => if v26 = 0 then some (s, cI 0) else fM_isRecord_b123 s else fM_isRecord_b123 s
theorem arg_C {N n P : Nat} {x2 : Int32} (hN : N ≤ 40) (hn : n ≤ 6) (h14 : s.1 9 14 = cI (N : Int)) (h8 : s.1 9 8 = cI (P : Int)) (h3 : s.1 1003 N = cI (n : Int)) (hP : P + 1 + 4 * n ≤ 37200) : fLog_readsRecord_4_h75 1048576 s x2 (cI 0) = TC x2 (wR s 14 0 n fun j => wd (s.1 13) (P + 1 + 4 * j)) := by
  have f1 := fill_nat (H := fun m u x => fLog_readsRecord_4_h75 m u x2 x) (c := 14) (off := 0) (N := n) (f := fun j => wd (s.1 13) (P + 1 + 4 * j)) (K := TC x2) (P := fun u => u.1 9 14 = cI (N : Int) ∧ u.1 9 8 = cI (P : Int) ∧ u.1 1003 N = cI (n : Int) ∧ u.1 13 = s.1 13)
    (fun m u i hp hi => by
      obtain ⟨p1, p2, p3, p4⟩ := hp
      show fLog_readsRecord_4_h75 (m + 1) u _ _ = _
      have e : cI (P : Int) + cI 1 + cI 4 * cI (i : Int) = cI ((P + 1 + 4 * i : Nat) : Int) := by
        rw [show cI 4 * cI (i : Int) = cI ((4 * i : Nat) : Int) from q_mul0 (a := 4) (by decide) (by omega) (by omega), q_s (by omega), q_ad (by omega)]
      rw [fLog_readsRecord_4_h75, p1, if_pos (q_in (by omega) (by decide)), q_ix (by omega), p3, if_pos ((q_lt (by omega) (by omega)).mpr hi), p2, e, wdC4 (by omega), bd1_some, if_pos (q_in (by omega) (by decide)), q_ix (by omega), ltM_eq, p4, q_s (by omega), Nat.zero_add])
    (fun m u hp => by
      obtain ⟨p1, p2, p3, p4⟩ := hp
      show fLog_readsRecord_4_h75 (m + 1) u _ _ = _
      rw [fLog_readsRecord_4_h75, if_pos (by rw [p1]; exact q_in (by omega) (by decide)), if_neg (by rw [p1, q_ix (by omega), p3, lt_i]; omega)]
      rfl)
    (fun u k v hp => by
      rw [wI_ne (by decide), wI_ne (by decide), wI_ne (by decide)]
      exact hp) n 1048576 0 s ⟨h14, h8, h3, rfl⟩ (by omega) (by omega)
  rw [Nat.zero_add, Nat.zero_add] at f1
  exact f1
theorem arg_M {N n Q : Nat} (hN : 1 ≤ N) (hN2 : N ≤ 40) (en : n = nAr.getD N 0) (hn : n ≤ 6) (hQ : Q + 4 * n ≤ 37200) : ∀ (r m k : Nat) (t : ev_M), k + r = n → r < m → t.1 549 16 = cI (N : Int) → t.1 549 21 = cI ((Q + 4 * k : Nat) : Int) → ∃ t', fM_isRecord_h41 m t (cI (k : Int)) = TM t' ∧ t'.1 549 21 = cI ((Q + 4 * n : Nat) : Int) ∧ fr [(549, 549, 22), (553, 553, 0)] t t' ∧ ∀ j, j < n → t'.1 553 j = if j < k then t.1 553 j else wd (t.1 557) (Q + 4 * j) := by
  intro r
  have ma : ∀ u : ev_M, u.1 549 16 = cI (N : Int) → fM_argumentsOf u (u.1 549 16) = some (cI (n : Int)) := fun u hu => by
    rw [hu, m_args (by rw [q_ti (by omega)]; omega) (by rw [q_ti (by omega)]; omega), q_ix (by omega), en]
  induction r with
  | zero =>
    intro m k t hk hm h16 h21
    obtain ⟨m, rfl⟩ : ∃ k, m = k + 1 := ⟨m - 1, by omega⟩
    obtain rfl : k = n := by omega
    refine ⟨t, ?_, h21, fr.rf, fun j hj => by rw [if_pos hj]⟩
    rw [fM_isRecord_h41, ma t h16, bd1_some, if_neg (by rw [lt_i]; omega)]
    rfl
  | succ r ih =>
    intro m k t hk hm h16 h21
    obtain ⟨m, rfl⟩ : ∃ k, m = k + 1 := ⟨m - 1, by omega⟩
    have s1 := nx_M (t := t) h21 (by omega)
    have s2 := nx_M (t := wI t 549 21 (cI ((Q + 4 * k + 1 : Nat) : Int))) (p := Q + 4 * k + 1) (by rw [wI_c, up1_eq]) (by omega)
    have s3 := nx_M (t := wI (wI t 549 21 (cI ((Q + 4 * k + 1 : Nat) : Int))) 549 21 (cI ((Q + 4 * k + 1 + 1 : Nat) : Int))) (p := Q + 4 * k + 2) (by rw [wI_c, up1_eq]) (by omega)
    have s4 := nx_M (t := wI (wI (wI t 549 21 (cI ((Q + 4 * k + 1 : Nat) : Int))) 549 21 (cI ((Q + 4 * k + 1 + 1 : Nat) : Int))) 549 21 (cI ((Q + 4 * k + 2 + 1 : Nat) : Int))) (p := Q + 4 * k + 3) (by rw [wI_c, up1_eq]) (by omega)
    obtain ⟨u, eu⟩ : ∃ u, u = wI (wI (wI (wI t 549 21 (cI ((Q + 4 * k + 1 : Nat) : Int))) 549 21 (cI ((Q + 4 * k + 1 + 1 : Nat) : Int))) 549 21 (cI ((Q + 4 * k + 2 + 1 : Nat) : Int))) 549 21 (cI ((Q + 4 * k + 3 + 1 : Nat) : Int)) := ⟨_, rfl⟩
    have fu : fr [(549, 549, 22), (553, 553, 0)] t u := by rw [eu]; exact (((fr.rf.wI rfl).wI rfl).wI rfl).wI rfl
    obtain ⟨t', a1, a2, a3, a4⟩ := ih m (k + 1) (wI u 553 k (wd (t.1 557) (Q + 4 * k))) (by omega) (by omega) (by rw [wI_ne (by decide), (fu.1 549 16 rfl).1]; exact h16) (by rw [wI_ne (by decide), eu, wI_c, up1_eq, show Q + 4 * k + 3 + 1 = Q + 4 * (k + 1) by omega])
    refine ⟨t', ?_, a2, (fu.wI rfl).tr a3, fun j hj => ?_⟩
    · rw [← a1, fM_isRecord_h41, ma t h16, bd1_some, if_pos ((q_lt (by omega) (by omega)).mpr (by omega)), s1, bd2_some, ltI_eq, s2, bd2_some, ltI_eq, s3, bd2_some, ltI_eq, s4, bd2_some, if_pos (q_in (by omega) (by decide)), q_ix (by omega), ltM_eq, q_s (by omega), ← eu]
      simp only [wI_ne (show (557 : Nat) ≠ 549 by decide)]
      rfl
    · rw [a4 j hj]
      have e7 : (wI u 553 k (wd (t.1 557) (Q + 4 * k))).1 557 = t.1 557 := by rw [wI_ne (by decide)]; exact funext fun i => (fu.1 557 i rfl).1
      by_cases z : j < k
      · rw [if_pos (by omega), if_pos z, wI_c, up1_ne (by omega), eu, wI_ne (by decide), wI_ne (by decide), wI_ne (by decide), wI_ne (by decide)]
      · rw [if_neg z]
        by_cases y : j = k
        · rw [if_pos (by omega), y, wI_c, up1_eq]
        · rw [if_neg (by omega), e7]
theorem tx_C {a V : Nat} (ha : a + V ≤ 37200) (hV : V ≤ 4096) : ∀ (r m i : Nat) (s : ev_M), i + r = V → r < m → s.1 4 1 = cI (i : Int) → ∃ s', fTape_fill_4_13_h8 m s (cI (a : Int)) (cI (V : Int)) (cI ((a + i : Nat) : Int)) = some s' ∧ s'.1 4 1 = cI (V : Int) ∧ fr [(4, 4, 2), (5, 5, 0)] s s' ∧ ∀ j, j < V → s'.1 5 j = if j < i then s.1 5 j else i2b (s.1 13 (a + j)) := by
  intro r
  induction r with
  | zero =>
    intro m i s hi hm h4
    obtain ⟨m, rfl⟩ : ∃ k, m = k + 1 := ⟨m - 1, by omega⟩
    obtain rfl : i = V := by omega
    refine ⟨s, ?_, h4, fr.rf, fun j hj => by rw [if_pos hj]⟩
    rw [fTape_fill_4_13_h8, q_ad (by omega), if_neg (by rw [lt_i]; omega)]
  | succ r ih =>
    intro m i s hi hm h4
    obtain ⟨m, rfl⟩ : ∃ k, m = k + 1 := ⟨m - 1, by omega⟩
    obtain ⟨s', a1, a2, a3, a4⟩ := ih m (i + 1) (wI (wI s 4 1 (cI ((i + 1 : Nat) : Int))) 5 i (i2b (s.1 13 (a + i)))) (by omega) (by omega) (by rw [wI_ne (by decide), wI_c, up1_eq])
    refine ⟨s', ?_, a2, ((fr.rf.wI rfl).wI rfl).tr a3, fun j hj => ?_⟩
    · rw [← a1, fTape_fill_4_13_h8, q_ad (by omega), if_pos ((q_lt (by omega) (by omega)).mpr (by omega)), if_pos (by rw [lt_i, q_ti (by omega), show (cI 37200).toInt = 37200 from rfl]; omega), h4, if_pos (by rw [lt_i, q_ti (by omega), show (cI 4096).toInt = 4096 from rfl]; omega), ltM_eq, if_pos (q_in (by omega) (by decide)), if_pos (q_in (by omega) (by decide)), q_ix (by omega), q_ix (by omega), ltM_eq, q_s (by omega), q_s (by omega), wI_ne (by decide), show a + i + 1 = a + (i + 1) by omega]
    · rw [a4 j hj, wI_ne (a := 13) (by decide), wI_ne (a := 13) (by decide)]
      by_cases z : j < i
      · rw [if_pos (by omega), if_pos z, wI_c, up1_ne (by omega), wI_ne (by decide)]
      · rw [if_neg z]
        by_cases y : j = i
        · rw [if_pos (by omega), y, wI_c, up1_eq]
        · rw [if_neg (by omega)]
theorem tx_M {a V : Nat} (ha : a + V ≤ 37200) (hV : V ≤ 4096) : ∀ (r m i : Nat) (t : ev_M), i + r = V → r < m → t.1 549 13 = cI (V : Int) → t.1 549 21 = cI ((a + i : Nat) : Int) → ∃ t', fM_isRecord_h194 m t (cI (i : Int)) = some (t', cI 1) ∧ t'.1 549 21 = cI ((a + V : Nat) : Int) ∧ fr [(549, 549, 22), (554, 554, 0)] t t' ∧ ∀ j, j < V → t'.1 554 j = if j < i then t.1 554 j else i2b (t.1 557 (a + j)) := by
  intro r
  induction r with
  | zero =>
    intro m i t hi hm h13 h21
    obtain ⟨m, rfl⟩ : ∃ k, m = k + 1 := ⟨m - 1, by omega⟩
    obtain rfl : i = V := by omega
    refine ⟨t, ?_, h21, fr.rf, fun j hj => by rw [if_pos hj]⟩
    rw [fM_isRecord_h194, h13, if_neg (by rw [lt_i]; omega)]
  | succ r ih =>
    intro m i t hi hm h13 h21
    obtain ⟨m, rfl⟩ : ∃ k, m = k + 1 := ⟨m - 1, by omega⟩
    obtain ⟨t', a1, a2, a3, a4⟩ := ih m (i + 1) (wI (wI t 549 21 (cI ((a + i + 1 : Nat) : Int))) 554 i (i2b (t.1 557 (a + i)))) (by omega) (by omega) (by rw [wI_ne (by decide), wI_c, up1_ne (by decide)]; exact h13) (by rw [wI_ne (by decide), wI_c, up1_eq, show a + i + 1 = a + (i + 1) by omega])
    refine ⟨t', ?_, a2, ((fr.rf.wI rfl).wI rfl).tr a3, fun j hj => ?_⟩
    · rw [← a1, fM_isRecord_h194, h13, if_pos ((q_lt (by omega) (by omega)).mpr (by omega)), nx_M h21 (by omega), bd2_some, if_pos (q_in (by omega) (by decide)), q_ix (by omega), ltM_eq, i2b_and, q_s (by omega)]
    · rw [a4 j hj, wI_ne (a := 557) (by decide), wI_ne (a := 557) (by decide)]
      by_cases z : j < i
      · rw [if_pos (by omega), if_pos z, wI_c, up1_ne (by omega), wI_ne (by decide)]
      · rw [if_neg z]
        by_cases y : j = i
        · rw [if_pos (by omega), y, wI_c, up1_eq]
        · rw [if_neg (by omega)]
theorem nAr_ok : ∀ n : Nat, n ≤ 40 → nAr.getD n 0 ≤ 6 ∧ (1 ≤ n → nAr.getD n 0 = 0 → rdT (cI (n : Int))) ∧ (n = 39 → nAr.getD n 0 = 3) := by decide +kernel
theorem be_2 {a b : Nat} (ha : a < 256) (hb : b < 256) : (cI (a : Int) <<< (cI 8 &&& 31)) ||| cI (b : Int) = cI ((a * 256 + b : Nat) : Int) := by
  have sh : cI (a : Int) <<< (cI 8 &&& 31) = cI ((a * 256 : Nat) : Int) := by
    have : ∀ a : Nat, a < 256 → cI (a : Int) <<< (cI 8 &&& 31) = cI ((a * 256 : Nat) : Int) := by decide +kernel
    exact this a ha
  rw [sh]
  refine q_bv ?_ (by omega)
  rw [Int32.toBitVec_or, BitVec.toNat_or, cI_bv (by omega), cI_bv (by omega), show a * 256 = a <<< 8 by rw [Nat.shiftLeft_eq], ← Nat.shiftLeft_add_eq_or_of_lt (by omega)]
/-- the log gathered, in class and reference -/
def RAg (U P : Nat) (s t : ev_M) : Prop := t.1 549 20 = cI (U : Int) ∧ s.1 9 6 = cI (U : Int) ∧ t.1 549 21 = cI (P : Int) ∧ s.1 9 8 = cI (P : Int) ∧ U ≤ 37200 ∧ P ≤ U ∧ ∀ i, i < U → t.1 557 i = s.1 13 i
/-- a record is read, or none is there -/
theorem rec_ok {U P : Nat} (hA : Arg41 s) (R : RAg U P s t) (hP : P < U) : ∃ s' t' v, fLog_readsRecord_4 s = some (s', v) ∧ fM_isRecord t = some (t', v) ∧ (v = cI 0 ∨ (v = cI 1 ∧ ∃ P' N : Nat, P + 3 ≤ P' ∧ P' ≤ U ∧ s'.1 9 8 = cI (P' : Int) ∧ t'.1 549 21 = cI (P' : Int) ∧ 1 ≤ N ∧ N ≤ 40 ∧ s'.1 9 14 = cI (N : Int) ∧ t'.1 549 16 = cI (N : Int) ∧ ArgE (cI (N : Int)) (s'.1 14) (t'.1 553) ∧ (rdT (cI (N : Int)) → RTx4 s' t'))) := by
  obtain ⟨r1, r2, r3, r4, r5, r6, r7⟩ := R
  obtain ⟨N, hN, eN⟩ := by_n (s.1 13 P)
  have eN' : t.1 557 P &&& cI 255 = cI (N : Int) := by rw [r7 P hP]; exact eN
  obtain ⟨S, eS⟩ : ∃ S, S = wI s 9 14 (cI (N : Int)) := ⟨_, rfl⟩
  obtain ⟨T, eT⟩ : ∃ T, T = wI (wI t 549 21 (cI ((P + 1 : Nat) : Int))) 549 16 (cI (N : Int)) := ⟨_, rfl⟩
  have S14 : S.1 9 14 = cI (N : Int) := by rw [eS, wI_c, up1_eq]
  have S8 : S.1 9 8 = cI (P : Int) := by rw [eS, wI_c, up1_ne (by decide)]; exact r4
  have S6 : S.1 9 6 = cI (U : Int) := by rw [eS, wI_c, up1_ne (by decide)]; exact r2
  have Sn : ∀ c, c ≠ 9 → S.1 c = s.1 c := fun c hc => by rw [eS, wI_ne hc]
  have T16 : T.1 549 16 = cI (N : Int) := by rw [eT, wI_c, up1_eq]
  have T21 : T.1 549 21 = cI ((P + 1 : Nat) : Int) := by rw [eT, wI_c, up1_ne (by decide), wI_c, up1_eq]
  have T20 : T.1 549 20 = cI (U : Int) := by rw [eT, wI_c, up1_ne (by decide), wI_c, up1_ne (by decide)]; exact r1
  have Tn : ∀ c, c ≠ 549 → T.1 c = t.1 c := fun c hc => by rw [eT, wI_ne hc, wI_ne hc]
  have no : ∀ (a b : ev_M), ∃ s' t' v, some (a, cI 0) = some (s', v) ∧ some (b, cI 0) = some (t', v) ∧ (v = cI 0 ∨ (v = cI 1 ∧ ∃ P' N : Nat, P + 3 ≤ P' ∧ P' ≤ U ∧ s'.1 9 8 = cI (P' : Int) ∧ t'.1 549 21 = cI (P' : Int) ∧ 1 ≤ N ∧ N ≤ 40 ∧ s'.1 9 14 = cI (N : Int) ∧ t'.1 549 16 = cI (N : Int) ∧ ArgE (cI (N : Int)) (s'.1 14) (t'.1 553) ∧ (rdT (cI (N : Int)) → RTx4 s' t'))) := fun a b => ⟨a, b, _, rfl, rfl, Or.inl rfl⟩
  unfold fLog_readsRecord_4 fM_isRecord
  rw [r4, r2, if_pos ((q_lt (by omega) (by omega)).mpr hP), if_pos (q_in (by omega) (by decide)), q_ix (by omega), eN, ← eS, ltM_eq, outside_eq, bd1_some, ite_bI, nx_M r3 (by omega), bd2_some, eN', ltM_eq, ← eT, T16, in_eq, bd1_some, ite_bI, S14]
  by_cases z : InR (cI (N : Int)) (cI 1) (cI 40)
  rotate_left
  · rw [if_pos z, if_neg z]
    exact no _ _
  rw [if_neg (fun u => u z), if_pos z]
  have N1 : 1 ≤ N := by have := z.1; rw [q_ti (by omega), show (cI 1).toInt = 1 from rfl] at this; omega
  have N2 : N ≤ 40 := by have := z.2; rw [q_ti (by omega), show (cI 40).toInt = 40 from rfl] at this; omega
  obtain ⟨n, en⟩ : ∃ n, n = nAr.getD N 0 := ⟨_, rfl⟩
  obtain ⟨k1, k2, k3⟩ := nAr_ok N N2
  rw [← en] at k1 k2 k3
  have e3 : S.1 1003 N = cI (n : Int) := by rw [Sn 1003 (by decide), en]; exact hA N (by omega)
  have e4 : cI 4 * cI (n : Int) = cI ((4 * n : Nat) : Int) := q_mul0 (a := 4) (by decide) (by omega) (by omega)
  have ev : S.1 9 8 + cI 1 + cI 4 * cI (n : Int) = cI ((P + 1 + 4 * n : Nat) : Int) := by rw [S8, e4, q_s (by omega), q_ad (by omega)]
  rw [if_pos (q_in (by omega) (by decide)), q_ix (by omega), e3, ev, ltI_eq, S6, m_args (by rw [q_ti (by omega)]; omega) (by rw [q_ti (by omega)]; omega), q_ix (by omega), ← en, bd1_some, e4, lk_M (U := U) (a := 4 * n) T21 T20 (by omega) (by omega), bd1_some]
  by_cases y : P + 1 + 4 * n ≤ U
  rotate_left
  · rw [if_neg (by rw [le_i, q_ti (by omega), q_ti (by omega)]; omega), if_neg y, if_neg (show ¬ cI 1 = 0 by decide)]
    exact no _ _
  rw [if_pos (by rw [le_i, q_ti (by omega), q_ti (by omega)]; omega), if_pos y, if_pos (show cI 0 = 0 from rfl), arg_C N2 k1 S14 S8 e3 (by omega)]
  obtain ⟨T2, b1, b2, b3, b4⟩ := arg_M (N := N) (n := n) (Q := P + 1) N1 N2 en k1 (by omega) n 1048576 0 T (by omega) (by omega) T16 T21
  have b1 : fM_isRecord_h41 1048576 T (cI 0) = TM T2 := b1
  rw [b1]
  obtain ⟨S2, eS2⟩ : ∃ S2, S2 = wR S 14 0 n fun j => wd (S.1 13) (P + 1 + 4 * j) := ⟨_, rfl⟩
  rw [← eS2]
  have g9 : S2.1 9 = S.1 9 := by rw [eS2, wR_ne (by decide)]
  have g13 : S2.1 13 = s.1 13 := by rw [eS2, wR_ne (by decide), Sn 13 (by decide)]
  have g14 : ∀ j, j < n → S2.1 14 j = wd (s.1 13) (P + 1 + 4 * j) := fun j hj => by rw [eS2, wR_1, if_pos ⟨rfl, by omega, hj⟩, Sn 13 (by decide)]
  have T557 : T2.1 557 = t.1 557 := by rw [(nof_c b3 (L := [(557, 0)]) (by decide +kernel) (c := 557) rfl).1, Tn 557 (by decide)]
  have arg : ∀ j, j < n → T2.1 553 j = S2.1 14 j := fun j hj => by
    rw [b4 j hj, if_neg (by omega), g14 j hj, Tn 557 (by decide)]
    unfold wd
    rw [r7 _ (by omega), r7 _ (by omega), r7 _ (by omega), r7 _ (by omega)]
  have T2_16 : T2.1 549 16 = cI (N : Int) := by rw [(b3.1 549 16 rfl).1]; exact T16
  have T2_20 : T2.1 549 20 = cI (U : Int) := by rw [(b3.1 549 20 rfl).1]; exact T20
  have AE : ∀ a b : ev_M, a.1 14 = S2.1 14 → b.1 553 = T2.1 553 → ArgE (cI (N : Int)) (a.1 14) (b.1 553) := fun a b h1 h2 k hk => by
    rw [q_ix (by omega), ← en] at hk
    rw [h1, h2]; exact arg k hk
  have key : ∃ s' t' v, fLog_readsRecord_4_b138 S2 (cI ((P + 1 + 4 * n : Nat) : Int)) = some (s', v) ∧ fM_isRecord_b123 T2 = some (t', v) ∧ (v = cI 0 ∨ (v = cI 1 ∧ ∃ P' N : Nat, P + 3 ≤ P' ∧ P' ≤ U ∧ s'.1 9 8 = cI (P' : Int) ∧ t'.1 549 21 = cI (P' : Int) ∧ 1 ≤ N ∧ N ≤ 40 ∧ s'.1 9 14 = cI (N : Int) ∧ t'.1 549 16 = cI (N : Int) ∧ ArgE (cI (N : Int)) (s'.1 14) (t'.1 553) ∧ (rdT (cI (N : Int)) → RTx4 s' t'))) := by
    unfold fLog_readsRecord_4_b138 fM_isRecord_b123 fLog_readsRecord_4_b223
    rw [log_reads, bd1_some, ite_bI, m_reads, bd1_some, ite_bI, g9, S14, T2_16]
    by_cases rd : rdT (cI (N : Int))
    rotate_left
    · rw [if_neg rd, if_neg rd, ltM_eq]
      have n0 : n ≠ 0 := fun u => rd (k2 N1 u)
      exact ⟨_, _, _, rfl, rfl, Or.inr ⟨rfl, P + 1 + 4 * n, N, by omega, y, by rw [wI_c, up1_eq], b2, N1, N2, by rw [wI_c, up1_ne (by decide), g9]; exact S14, T2_16, AE _ _ (wI_ne (by decide)) rfl, fun u => absurd u rd⟩⟩
    rw [if_pos rd, if_pos rd]
    obtain ⟨a, ha, ea⟩ := by_n (s.1 13 (P + 1 + 4 * n))
    obtain ⟨b, hb, eb⟩ := by_n (s.1 13 (P + 1 + 4 * n + 1))
    have x2 : cI ((P + 1 + 4 * n : Nat) : Int) + cI 2 = cI ((P + 1 + 4 * n + 2 : Nat) : Int) := q_ad (b := 2) (by omega)
    rw [x2, S6, show fM_lacks T2 (cI 2) = _ from lk_M (U := U) (a := 2) b2 T2_20 (by omega) (by omega), bd1_some]
    by_cases w : P + 1 + 4 * n + 2 ≤ U
    rotate_left
    · rw [if_neg (by rw [le_i, q_ti (by omega), q_ti (by omega)]; omega), if_neg w, if_neg (show ¬ cI 1 = 0 by decide)]
      exact no _ _
    have T3_21 : (wI (wI T2 549 21 (cI ((P + 1 + 4 * n + 1 : Nat) : Int))) 549 13 ((T2.1 557 (P + 1 + 4 * n) &&& cI 255) <<< (cI 8 &&& 31))).1 549 21 = cI ((P + 1 + 4 * n + 1 : Nat) : Int) := by rw [wI_c, up1_ne (by decide), wI_c, up1_eq]
    rw [if_pos (by rw [le_i, q_ti (by omega), q_ti (by omega)]; omega), if_pos w, if_pos (show cI 0 = 0 from rfl), if_pos (q_in (by omega) (by decide)), q_s (by omega), if_pos (q_in (by omega) (by decide)), q_ix (by omega), q_ix (by omega), g13, ea, eb, be_2 ha hb, ltI_eq, nx_M b2 (by omega), bd2_some]
    dsimp only
    rw [ltM_eq, nx_M T3_21 (by omega), bd2_some]
    dsimp only
    rw [ltM_eq]
    have e57 : (wI (wI T2 549 21 (cI ((P + 1 + 4 * n + 1 : Nat) : Int))) 549 13 ((T2.1 557 (P + 1 + 4 * n) &&& cI 255) <<< (cI 8 &&& 31))).1 557 = t.1 557 := by rw [wI_ne (by decide), wI_ne (by decide), T557]
    have e13 : (wI (wI T2 549 21 (cI ((P + 1 + 4 * n + 1 : Nat) : Int))) 549 13 ((T2.1 557 (P + 1 + 4 * n) &&& cI 255) <<< (cI 8 &&& 31))).1 549 13 = (T2.1 557 (P + 1 + 4 * n) &&& cI 255) <<< (cI 8 &&& 31) := by rw [wI_c, up1_eq]
    rw [e57, e13, T557, r7 _ (by omega), r7 _ (by omega), ea, eb, be_2 ha hb]
    obtain ⟨V, eV⟩ : ∃ V, V = a * 256 + b := ⟨_, rfl⟩
    rw [← eV]
    obtain ⟨T5, eT5⟩ : ∃ T5, T5 = wI (wI (wI (wI T2 549 21 (cI ((P + 1 + 4 * n + 1 : Nat) : Int))) 549 13 (cI (a : Int) <<< (cI 8 &&& 31))) 549 21 (cI ((P + 1 + 4 * n + 1 + 1 : Nat) : Int))) 549 13 (cI (V : Int)) := ⟨_, rfl⟩
    rw [← eT5]
    have f5 : fr [(549, 549, 14), (549, 549, 22)] T2 T5 := by rw [eT5]; exact (((fr.rf.wI rfl).wI rfl).wI rfl).wI rfl
    have T5_13 : T5.1 549 13 = cI (V : Int) := by rw [eT5, wI_c, up1_eq]
    have T5_21 : T5.1 549 21 = cI ((P + 1 + 4 * n + 2 : Nat) : Int) := by rw [eT5, wI_c, up1_ne (by decide), wI_c, up1_eq]
    have T5_20 : T5.1 549 20 = cI (U : Int) := by rw [(f5.1 549 20 rfl).1]; exact T2_20
    have T5_557 : T5.1 557 = t.1 557 := by rw [(nof_c f5 (L := [(557, 0)]) (by decide +kernel) (c := 557) rfl).1, T557]
    rw [T5_13]
    by_cases v4 : V ≤ 4096
    rotate_left
    · have hV : ¬ cI (V : Int) ≤ cI 4096 := by rw [le_i, q_ti (by omega), show (cI 4096).toInt = 4096 from rfl]; omega
      rw [if_neg hV, if_neg hV]
      exact no _ _
    have hV : cI (V : Int) ≤ cI 4096 := by rw [le_i, q_ti (by omega), show (cI 4096).toInt = 4096 from rfl]; omega
    have eq : cI ((P + 1 + 4 * n + 2 : Nat) : Int) + cI (V : Int) = cI ((P + 1 + 4 * n + 2 + V : Nat) : Int) := q_ad (by omega)
    rw [if_pos hV, if_pos hV, eq, lk_M T5_21 T5_20 (by omega) (by omega), bd1_some]
    by_cases v5 : P + 1 + 4 * n + 2 + V ≤ U
    rotate_left
    · have hS : ¬ cI ((P + 1 + 4 * n + 2 + V : Nat) : Int) ≤ cI (U : Int) := by rw [le_i, q_ti (by omega), q_ti (by omega)]; omega
      rw [if_neg hS, if_neg v5, if_neg (show ¬ cI 1 = 0 by decide)]
      exact no _ _
    have hS : cI ((P + 1 + 4 * n + 2 + V : Nat) : Int) ≤ cI (U : Int) := by rw [le_i, q_ti (by omega), q_ti (by omega)]; omega
    rw [if_pos hS, if_pos v5, if_pos (show cI 0 = 0 from rfl)]
    obtain ⟨S6', c1, c2, c3, c4⟩ := tx_C (a := P + 1 + 4 * n + 2) (V := V) (by omega) v4 V 1048576 0 (wI S2 4 1 (cI 0)) (by omega) (by omega) (by rw [wI_c, up1_eq]; rfl)
    obtain ⟨T6, d1, d2, d3, d4⟩ := tx_M (a := P + 1 + 4 * n + 2) (V := V) (by omega) v4 V 1048576 0 T5 (by omega) (by omega) T5_13 T5_21
    have c1 : fTape_fill_4_13_h8 1048576 (wI S2 4 1 (cI 0)) (cI ((P + 1 + 4 * n + 2 : Nat) : Int)) (cI (V : Int)) (cI ((P + 1 + 4 * n + 2 : Nat) : Int)) = _ := c1
    have d1 : fM_isRecord_h194 1048576 T5 (cI 0) = _ := d1
    unfold fTape_fill_4_13
    rw [ltM_eq, c1, bd1_some, ltI_eq, ltM_eq, d1]
    have k9 : S6'.1 9 = S.1 9 := by rw [(nof_c c3 (L := [(9, 0)]) (by decide +kernel) (c := 9) rfl).1, wI_ne (by decide), g9]
    have k14 : S6'.1 14 = S2.1 14 := by rw [(nof_c c3 (L := [(14, 0)]) (by decide +kernel) (c := 14) rfl).1, wI_ne (by decide)]
    have k553 : T6.1 553 = T2.1 553 := by rw [(nof_c d3 (L := [(553, 0)]) (by decide +kernel) (c := 553) rfl).1, (nof_c f5 (L := [(553, 0)]) (by decide +kernel) (c := 553) rfl).1]
    refine ⟨_, _, _, rfl, rfl, Or.inr ⟨rfl, P + 1 + 4 * n + 2 + V, N, by omega, v5, by rw [wI_c, up1_eq], d2, N1, N2, by rw [wI_c, up1_ne (by decide), k9]; exact S14, by rw [(d3.1 549 16 rfl).1, (f5.1 549 16 rfl).1]; exact T2_16, AE _ _ (by rw [wI_ne (by decide)]; exact k14) k553, fun _ => ?_⟩⟩
    have q4 : (wI S6' 9 8 (cI ((P + 1 + 4 * n + 2 + V : Nat) : Int))).1 4 1 = cI (V : Int) := by rw [wI_ne (by decide)]; exact c2
    refine ⟨by rw [q4, (d3.1 549 13 rfl).1]; exact T5_13, by rw [q4, q_ti (by omega)]; omega, by rw [q4, q_ti (by omega)]; omega, fun k hk => ?_⟩
    rw [q4, q_ix (by omega)] at hk
    rw [d4 k hk, if_neg (by omega), wI_ne (by decide), c4 k hk, if_neg (by omega), wI_ne (by decide), g13, T5_557, r7 _ (by omega)]
  unfold TC TM
  rw [g9, S14, T2_16]
  by_cases h39 : cI (N : Int) = cI 39
  rotate_left
  · rw [if_neg h39, if_neg h39]
    exact key
  have n39 : n = 3 := k3 (by
    have := h39
    rw [eq_i, q_ti (by omega), show (cI 39).toInt = 39 from rfl] at this; omega)
  rw [if_pos h39, if_pos h39, outside_eq, bd1_some, ite_bI, in_eq, bd1_some, ite_bI, ix_2, arg 2 (by omega)]
  by_cases o : InR (S2.1 14 2) (cI 0) (cI 1)
  · rw [if_neg (fun u => u o), if_pos o]; exact key
  · rw [if_pos o, if_neg o]; exact no _ _
end
