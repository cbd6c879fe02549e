/-! ===== LEVEL 3: start ===== -/
def wLs (s : ev_M) (n : Nat) (x : Int64) : ev_M := (s.1, (fun a b => if a = 80 ∧ b < n then x else s.2.1 a b, s.2.2))
theorem e_fill80 (s : ev_M) (x : Int64) : fArr_fillB_80 s x = some (wLs s 34 x) := by
  have st : ∀ i, wL (wLs s i x) 80 i x = wLs s (i + 1) x := fun i => by
    refine Prod.ext rfl (Prod.ext (funext fun a => funext fun b => ?_) rfl)
    show (if a = 80 then if b = i then x else (if a = 80 ∧ b < i then x else s.2.1 a b) else (if a = 80 ∧ b < i then x else s.2.1 a b)) = if a = 80 ∧ b < i + 1 then x else s.2.1 a b
    by_cases h : a = 80
    · by_cases h2 : b = i
      · rw [if_pos h, if_pos h2, if_pos ⟨h, by omega⟩]
      · rw [if_pos h, if_neg h2]
        by_cases h3 : b < i
        · rw [if_pos ⟨h, h3⟩, if_pos ⟨h, by omega⟩]
        · rw [if_neg (fun u => h3 u.2), if_neg (fun u => h3 (by omega))]
    · rw [if_neg h, if_neg (fun u => h u.1), if_neg (fun u => h u.1)]
  have key : ∀ (r m i : Nat), i + r = 34 → r < m → fArr_fillB_80_h6 m (wLs s i x) x (cI (i : Int)) (cI 34) = some (wLs s 34 x) := by
    intro r
    induction r with
    | zero =>
      intro m i hi hm
      obtain ⟨m, rfl⟩ : ∃ k, m = k + 1 := ⟨m - 1, by omega⟩
      obtain rfl : i = 34 := by omega
      rw [fArr_fillB_80_h6, if_neg (by decide)]
    | succ r ih =>
      intro m i hi hm
      obtain ⟨m, rfl⟩ : ∃ k, m = k + 1 := ⟨m - 1, by omega⟩
      rw [fArr_fillB_80_h6, if_pos (by rw [lt_i, q_ti (by omega), show (cI 34).toInt = 34 from rfl]; omega), if_pos (q_in (by omega) (by decide)), q_ix (by omega), ltM_eq, st, q_s (by omega)]
      exact ih m (i + 1) (by omega) (by omega)
  have e0 : wLs s 0 x = s := by
    refine Prod.ext rfl (Prod.ext (funext fun a => funext fun b => ?_) rfl)
    show (if a = 80 ∧ b < 0 then x else s.2.1 a b) = _
    rw [if_neg (fun u => Nat.not_lt_zero _ u.2)]
  have := key 34 1048576 0 (by decide) (by decide)
  rw [e0] at this
  exact this
theorem clr_C (s : ev_M) : ∃ s', fPH_clearHouse s = some s' ∧ ZC s' := by
  unfold fPH_clearHouse fChron_clear fBook_clear fBook_keepFirst fSheet_clear fMoney_clear fItems_clear fLock_clear fRounds_clear fLines_clear
  simp only [ltM_eq, bd1_some, e_fArr_fillI_20, e_fArr_fillI_21, e_fArr_fillI_28, e_fArr_fillI_29, e_fArr_fillI_158, e_fill80, ix_0, ix_1, ix_2, ix_3]
  refine ⟨_, rfl, ?_⟩
  refine ⟨?_, ?_, ?_, ?_, ?_, ?_, ?_, ?_, ?_, ?_, ?_, ?_, ?_, ?_, ?_, ?_, ?_, ?_, ?_, ?_, ?_, ?_, ?_, ?_, ?_, ?_, ?_, ?_, ?_, ?_, ?_, ?_, ?_, ?_⟩
  · simp (decide := true) only [wI_1, wR_1, wLs, if_true, if_false] <;> rfl
  · simp (decide := true) only [wI_1, wR_1, wLs, if_true, if_false] <;> rfl
  · simp (decide := true) only [wI_1, wR_1, wLs, if_true, if_false] <;> rfl
  · intro i hi; simp (decide := true) only [wI_1, wR_1, wLs, wR_2, hi, Nat.zero_le, true_and, and_true, if_true, if_false] <;> rfl
  · intro i hi; simp (decide := true) only [wI_1, wR_1, wLs, wR_2, hi, Nat.zero_le, true_and, and_true, if_true, if_false] <;> rfl
  · intro i hi; simp (decide := true) only [wI_1, wR_1, wLs, wR_2, hi, Nat.zero_le, true_and, and_true, if_true, if_false] <;> rfl
  · intro i hi; simp (decide := true) only [wI_1, wR_1, wLs, wR_2, hi, Nat.zero_le, true_and, and_true, if_true, if_false] <;> rfl
  · simp (decide := true) only [wI_1, wR_1, wLs, if_true, if_false] <;> rfl
  · simp (decide := true) only [wI_1, wR_1, wLs, if_true, if_false] <;> rfl
  · simp (decide := true) only [wI_1, wR_1, wLs, if_true, if_false] <;> rfl
  · simp (decide := true) only [wI_1, wR_1, wLs, if_true, if_false] <;> rfl
  · simp (decide := true) only [wI_1, wR_1, wLs, if_true, if_false] <;> rfl
  · simp (decide := true) only [wI_1, wR_1, wLs, if_true, if_false] <;> rfl
  · simp (decide := true) only [wI_1, wR_1, wLs, if_true, if_false] <;> rfl
  · simp (decide := true) only [wI_1, wR_1, wLs, if_true, if_false] <;> rfl
  · simp (decide := true) only [wI_1, wR_1, wLs, if_true, if_false] <;> rfl
  · simp (decide := true) only [wI_1, wR_1, wLs, if_true, if_false] <;> rfl
  · simp (decide := true) only [wI_1, wR_1, wLs, if_true, if_false] <;> rfl
  · simp (decide := true) only [wI_1, wR_1, wLs, if_true, if_false] <;> rfl
  · simp (decide := true) only [wI_1, wR_1, wLs, if_true, if_false] <;> rfl
  · intro i hi
    show (if 80 = 80 ∧ i < 34 then cL 0 else s.2.1 80 i) = 0
    rw [if_pos ⟨rfl, hi⟩]
    rfl
  · simp (decide := true) only [wI_1, wR_1, wLs, if_true, if_false] <;> rfl
  · simp (decide := true) only [wI_1, wR_1, wLs, if_true, if_false] <;> rfl
  · simp (decide := true) only [wI_1, wR_1, wLs, if_true, if_false] <;> rfl
  · simp (decide := true) only [wI_1, wR_1, wLs, if_true, if_false] <;> rfl
  · simp (decide := true) only [wI_1, wR_1, wLs, if_true, if_false] <;> rfl
  · simp (decide := true) only [wI_1, wR_1, wLs, if_true, if_false] <;> rfl
  · intro i hi; simp (decide := true) only [wI_1, wR_1, wLs, wR_2, hi, Nat.zero_le, true_and, and_true, if_true, if_false] <;> rfl
  · simp (decide := true) only [wI_1, wR_1, wLs, if_true, if_false] <;> rfl
  · simp (decide := true) only [wI_1, wR_1, wLs, if_true, if_false] <;> rfl
  · simp (decide := true) only [wI_1, wR_1, wLs, if_true, if_false] <;> rfl
  · simp (decide := true) only [wI_1, wR_1, wLs, if_true, if_false] <;> rfl
  · simp (decide := true) only [wI_1, wR_1, wLs, if_true, if_false] <;> rfl
  · simp (decide := true) only [wI_1, wR_1, wLs, if_true, if_false] <;> rfl
theorem em_lp (T : ev_M) : fM_empty_h140 1048576 T (cI 0) = some (wR (wR T 610 0 300 fun _ => cI 0) 647 0 8 fun _ => cI 0) := by
  have f1 := fill_nat (H := fun m u x => fM_empty_h140 m u x) (c := 610) (off := 0) (N := 300) (f := fun _ => cI 0) (K := fun u => fM_empty_h162 1048576 u (cI 0)) (P := fun _ => True)
    (fun m u i _ hi => by
      show fM_empty_h140 (m + 1) u _ = _
      rw [fM_empty_h140, if_pos (by rw [lt_i, q_ti (by omega), show (cI 300).toInt = 300 from rfl]; omega), if_pos (q_in (by omega) (by decide)), q_ix (by omega), ltM_eq, q_s (by omega), Nat.zero_add, show (cI 0 &&& 1 : Int32) = cI 0 by decide])
    (fun m u _ => by
      show fM_empty_h140 (m + 1) u _ = _
      rw [fM_empty_h140, if_neg (by rw [lt_i, q_ti (by omega), show (cI 300).toInt = 300 from rfl]; omega)])
    (fun u k v _ => trivial) 300 1048576 0 T trivial (by omega) (by omega)
  have f2 := fill_nat (H := fun m u x => fM_empty_h162 m u x) (c := 647) (off := 0) (N := 8) (f := fun _ => cI 0) (K := some) (P := fun _ => True)
    (fun m u i _ hi => by
      show fM_empty_h162 (m + 1) u _ = _
      rw [fM_empty_h162, if_pos (by rw [lt_i, q_ti (by omega), show (cI 8).toInt = 8 from rfl]; omega), if_pos (q_in (by omega) (by decide)), q_ix (by omega), ltM_eq, q_s (by omega), Nat.zero_add])
    (fun m u _ => by
      show fM_empty_h162 (m + 1) u _ = _
      rw [fM_empty_h162, if_neg (by rw [lt_i, q_ti (by omega), show (cI 8).toInt = 8 from rfl]; omega)])
    (fun u k v _ => trivial) 8 1048576 0 (wR T 610 0 300 fun _ => cI 0) trivial (by omega) (by omega)
  simp only [Nat.zero_add] at f1 f2
  exact f1.trans f2
theorem clr_M (t : ev_M) : ∃ t', fM_empty t = some t' ∧ ZM t' := by
  unfold fM_empty
  simp only [ltM_eq, em_lp]
  refine ⟨_, rfl, ?_⟩
  have e : ∀ T k, (wR (wR T 610 0 300 fun _ => cI 0) 647 0 8 fun _ => cI 0).1 549 k = T.1 549 k := fun T k => by rw [wR_ne (by decide), wR_ne (by decide)]
  refine ⟨fun k hk => ?_, ?_, ?_, ?_, ?_, fun i hi => ?_, fun i hi => ?_⟩
  · rw [e]
    rcases hk with rfl | rfl | rfl | rfl | rfl | rfl | rfl | rfl | rfl | rfl | rfl | rfl | rfl | rfl | rfl | rfl | rfl | rfl | rfl | rfl | rfl <;> simp (decide := true) only [wI_1, if_true, if_false]
  · rw [e]; simp (decide := true) only [wI_1, if_true, if_false]
  · rw [e]; simp (decide := true) only [wI_1, if_true, if_false]
  · rw [e]; simp (decide := true) only [wI_1, if_true, if_false]
  · rw [e]; simp (decide := true) only [wI_1, if_true, if_false]
  · rw [wR_ne (by decide), wR_1, if_pos ⟨rfl, by omega, by omega⟩]
  · rw [wR_1, if_pos ⟨rfl, by omega, by omega⟩]; rfl
/-- which blocks of the log hold -/
theorem be_lp : ∀ (r m m' k b : Nat) (s t : ev_M), k + r = 151 → r < m → r < m' → 1 ≤ k → b < k → s.1 9 4 = cI (b : Int) → t.1 549 4 = cI (b : Int) → RDsk s t → (∀ j, 1 ≤ j → j < k → ∃ n : Nat, 1 ≤ n ∧ n ≤ 248 ∧ s.1 10 ((j - 1) * 256 + 3) &&& cI 255 = cI (n : Int)) → (b = 0 ∨ s.1 10 ((b - 1) * 256 + 2) &&& cI 255 = cI 1) → ∃ (S T : ev_M) (b' : Nat), fLog_beginAgain_h7 m s (cI (k : Int)) = fLog_beginAgain_b41 S ∧ fM_start_h22 m' t (cI (k : Int)) = fM_start_b65 T ∧ S.1 9 4 = cI (b' : Int) ∧ T.1 549 4 = cI (b' : Int) ∧ b' ≤ 150 ∧ fr [(9, 9, 5)] s S ∧ fr [(549, 549, 5)] t T ∧ (∀ j, 1 ≤ j → j ≤ b' → ∃ n : Nat, 1 ≤ n ∧ n ≤ 248 ∧ s.1 10 ((j - 1) * 256 + 3) &&& cI 255 = cI (n : Int)) ∧ (b' = 0 ∨ s.1 10 ((b' - 1) * 256 + 2) &&& cI 255 = cI 1) := by
  intro r
  induction r with
  | zero =>
    intro m m' k b s t hk hm hm' h1 hbk h4 h4' D hL hLast
    obtain ⟨m, rfl⟩ : ∃ k, m = k + 1 := ⟨m - 1, by omega⟩
    obtain ⟨m', rfl⟩ : ∃ k, m' = k + 1 := ⟨m' - 1, by omega⟩
    have nl : ¬ cI (k : Int) ≤ cI 150 := by rw [le_i, q_ti (by omega), show (cI 150).toInt = 150 from rfl]; omega
    exact ⟨s, t, b, by rw [fLog_beginAgain_h7, if_neg nl], by rw [fM_start_h22, if_neg nl], h4, h4', by omega, fr.rf, fr.rf, fun j x1 x2 => hL j x1 (by omega), hLast⟩
  | succ r ih =>
    intro m m' k b s t hk hm hm' h1 hbk h4 h4' D hL hLast
    obtain ⟨m, rfl⟩ : ∃ k, m = k + 1 := ⟨m - 1, by omega⟩
    obtain ⟨m', rfl⟩ : ∃ k, m' = k + 1 := ⟨m' - 1, by omega⟩
    have yl : cI (k : Int) ≤ cI 150 := by rw [le_i, q_ti (by omega), show (cI 150).toInt = 150 from rfl]; omega
    obtain ⟨v, v1, v2, v3⟩ := right_ok D h1 (show k ≤ 150 by omega)
    have lst := last_ok (s := s) h1 (show k ≤ 150 by omega)
    have M2 : fM_at t (cI (k : Int)) (cI 2) = some (s.1 10 ((k - 1) * 256 + 2) &&& cI 255) := at_M D (j := 2) h1 (by omega) (by decide)
    rcases v3 with e | ⟨e, n, n1, n2, n3⟩
    · refine ⟨s, t, b, ?_, ?_, h4, h4', by omega, fr.rf, fr.rf, fun j x1 x2 => hL j x1 (by omega), hLast⟩
      · rw [fLog_beginAgain_h7, if_pos yl, v1, bd1_some]; exact if_pos e
      · rw [fM_start_h22, if_pos yl, v2, bd1_some]; exact if_pos e
    · have v0 : ¬ v = 0 := by rw [e]; decide
      have hL' : ∀ j, 1 ≤ j → j < k + 1 → ∃ n : Nat, 1 ≤ n ∧ n ≤ 248 ∧ s.1 10 ((j - 1) * 256 + 3) &&& cI 255 = cI (n : Int) := fun j x1 x2 => by
        by_cases y : j = k
        · rw [y]; exact ⟨n, n1, n2, n3⟩
        · exact hL j x1 (by omega)
      rw [fLog_beginAgain_h7, if_pos yl, v1, bd1_some, if_neg v0, lst, bd1_some, fM_start_h22, if_pos yl, v2, bd1_some, if_neg v0, M2, bd1_some]
      unfold fLog_beginAgain_b35 fM_start_b56
      by_cases z : s.1 10 ((k - 1) * 256 + 2) &&& cI 255 = cI 1
      · rw [if_pos z, if_neg (show ¬ cI 1 = 0 by decide), ltM_eq, if_pos z, ltM_eq, q_s (by omega)]
        have D' : RDsk (wI s 9 4 (cI (k : Int))) (wI t 549 4 (cI (k : Int))) := RDsk_of D (wI_ne (by decide)) (wI_ne (by decide)) (by rw [wI_c, up1_ne (by decide)]) (by rw [wI_c, up1_ne (by decide)]) (wI_ne (by decide)) (wI_ne (by decide)) (by rw [wI_c, up1_ne (by decide)]) (by rw [wI_c, up1_ne (by decide)])
        obtain ⟨S, T, b', u1, u2, u3, u4, u5, u6, u7, u8, u9⟩ := ih m m' (k + 1) k (wI s 9 4 (cI (k : Int))) (wI t 549 4 (cI (k : Int))) (by omega) (by omega) (by omega) (by omega) (by omega) (by rw [wI_c, up1_eq]) (by rw [wI_c, up1_eq]) D' (fun j x1 x2 => by rw [wI_ne (by decide)]; exact hL' j x1 x2) (Or.inr (by rw [wI_ne (by decide)]; exact z))
        refine ⟨S, T, b', u1, u2, u3, u4, u5, fr.tr (fr.wI fr.rf rfl) u6, fr.tr (fr.wI fr.rf rfl) u7, fun j x1 x2 => ?_, ?_⟩
        · have := u8 j x1 x2
          rw [wI_ne (by decide)] at this; exact this
        · rw [wI_ne (by decide)] at u9; exact u9
      · rw [if_neg z, if_pos (show cI 0 = 0 from rfl), if_neg z, ltM_eq, q_s (by omega), h4']
        have D' : RDsk s (wI t 549 4 (cI (b : Int))) := RDsk_of D rfl rfl rfl rfl (wI_ne (by decide)) (wI_ne (by decide)) (by rw [wI_c, up1_ne (by decide)]) (by rw [wI_c, up1_ne (by decide)])
        obtain ⟨S, T, b', u1, u2, u3, u4, u5, u6, u7, u8, u9⟩ := ih m m' (k + 1) b s (wI t 549 4 (cI (b : Int))) (by omega) (by omega) (by omega) (by omega) (by omega) h4 (by rw [wI_c, up1_eq]) D' hL' hLast
        exact ⟨S, T, b', u1, u2, u3, u4, u5, u6, fr.tr (fr.wI fr.rf rfl) u7, u8, u9⟩
