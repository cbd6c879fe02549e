/-! ===== LEVEL 3: the sheet: all parts ===== -/
theorem q_mul0 {a b : Nat} (ha : a < 5000) (hb : b < 5000) (h : a * b < 100000) : cI (a : Int) * cI (b : Int) = cI ((a * b : Nat) : Int) := by
  have ea : (cI (a : Int)).toInt = (a : Int) := q_ti (by omega)
  have eb : (cI (b : Int)).toInt = (b : Int) := q_ti (by omega)
  have ab : (a : Int) * (b : Int) = ((a * b : Nat) : Int) := (Int.natCast_mul a b).symm
  rw [eq_i, mul_toInt (by rw [ea, eb, ab]; omega) (by rw [ea, eb, ab]; omega), ea, eb, ab, q_ti h]
/-- what the reference does when the parts are found -/
def shTl (t : ev_M) : Option (ev_M × Int32) := bd1 (fM_hangTogether t) fun s4 => bd1 (fM_findLines s4) fun s5 => ltM (wI s5 549 48 (cI 1)) fun s6 => bd2 (fM_readAddress s6) fun s7 v8 => ltM (wI s7 549 49 v8) fun s9 => some (s9, (s9.1 549 49))
/-- ink where there is ink -/
def Ink (n : Nat) (s t : ev_M) : Prop := ∀ q, q < n → (s.1 53 q = 0 ↔ t.1 649 q = 0)
theorem Shd.ink {n : Nat} {s t : ev_M} (h : Shd n s t) : Ink n s t := fun q hq => by
  rcases h q hq with ⟨u, v, -⟩ | ⟨u, v, -⟩ | ⟨u, v, -⟩ <;> rw [u, v] <;> decide
/-- the tops of the parts don't fall -/
def Tps (n : Nat) (s : ev_M) : Prop := ∀ p p', p < p' → p' < n → (s.1 57 p).toInt ≤ (s.1 57 p').toInt
theorem rs_M {w h : Nat} : ∀ (r m k : Nat) (s t : ev_M), k + r = w * h → r < m → Dim w h s t → Shd (w * h) s t → (∀ j, j < k → j < w * h → ¬ s.1 53 j = cI 1) → t.1 549 13 = cI ((w * h : Nat) : Int) → t.1 549 146 = cI 200 → ∃ t', fM_doSheet_h75 m t (cI (k : Int)) = shTl t' ∧ fr FflM t t'
  | 0, m, k, s, t, hk, hm, D, S, N, e13, e146 => by
    obtain ⟨m, rfl⟩ : ∃ k, m = k + 1 := ⟨m - 1, by omega⟩
    have wh := D.2.2.2.2.2
    refine ⟨t, ?_, fr.rf⟩
    rw [fM_doSheet_h75, e13, if_neg (by rw [q_lt (by omega) (by omega)]; omega)]
    rfl
  | r + 1, m, k, s, t, hk, hm, D, S, N, e13, e146 => by
    obtain ⟨m, rfl⟩ : ∃ k, m = k + 1 := ⟨m - 1, by omega⟩
    have wh := D.2.2.2.2.2
    have lt : cI (k : Int) < cI ((w * h : Nat) : Int) := (q_lt (by omega) (by omega)).mpr (by omega)
    have kb : inb (cI (k : Int)) 4096 = true := q_in (by omega) (by decide)
    have kx : ix (cI (k : Int)) = k := q_ix (by omega)
    by_cases z : s.1 53 k = cI 1
    · obtain ⟨s1, t1, q, l, r2, b, F, a1, a2, a3, a4, a5, a6, a7, a8⟩ := tp_ok D S (show k < w * h by omega) z N
      have k1 : fM_part t (cI (k : Int)) = some t1 := by
        have e : t1.1 549 146 = cI 200 := by rw [(a8.1 549 146 rfl).1]; exact e146
        rw [a2]
        show fM_part_h30 (0 + 1) t1 _ _ _ _ _ _ = _
        rw [fM_part_h30, if_neg (by rw [lt_i]; exact Int.lt_irrefl _), e, if_neg (show ¬ cI 200 < cI 200 by decide), ite_self]
      obtain ⟨t', b1, b2⟩ := rs_M (w := w) (h := h) r m (k + 1) s1 t1 (by omega) (by omega) F.1 F.2.1 (fun j g1 g2 => F.2.2.2.2.2 j (by omega) g2) (by rw [(a8.1 549 13 rfl).1]; exact e13) (by rw [(a8.1 549 146 rfl).1]; exact e146)
      refine ⟨t', ?_, a8.tr b2⟩
      have m0 : t.1 650 k = 0 := by
        rcases S k (by omega) with ⟨u, -⟩ | ⟨-, -, u⟩ | ⟨u, -⟩
        · rw [z] at u; exact absurd u (by decide)
        · exact u
        · rw [z] at u; exact absurd u (by decide)
      rw [fM_doSheet_h75, e13, if_pos lt, if_pos kb, kx, if_pos m0, k1, bd1_some]
      unfold fM_doSheet_b97
      rw [q_s (by omega)]
      exact b1
    · obtain ⟨t', b1, b2⟩ := rs_M (w := w) (h := h) r m (k + 1) s t (by omega) (by omega) D S (fun j g1 g2 => by
        by_cases y : j = k
        · rw [y]; exact z
        · exact N j (by omega) g2) e13 e146
      refine ⟨t', ?_, b2⟩
      have m0 : ¬ t.1 650 k = 0 := by
        rcases S k (by omega) with ⟨-, -, u⟩ | ⟨u, -⟩ | ⟨-, -, u⟩
        · rw [u]; decide
        · exact absurd u z
        · rw [u]; decide
      rw [fM_doSheet_h75, e13, if_pos lt, if_pos kb, kx, if_neg m0]
      unfold fM_doSheet_b97
      rw [q_s (by omega)]
      exact b1
theorem fp_lp {w h : Nat} : ∀ (r m m' k np : Nat) (s t : ev_M), k + r = w * h → r < m → r < m' → Dim w h s t → Shd (w * h) s t → (∀ j, j < k → j < w * h → ¬ s.1 53 j = cI 1) → t.1 549 13 = cI ((w * h : Nat) : Int) → Rpt w h np s t → Tps np s → (∀ p, p < np → (s.1 57 p).toInt ≤ ((k / w : Nat) : Int)) → ∃ (s' t' : ev_M) (n' : Nat), fSheet_findParts_h7 m s (cI (k : Int)) = some s' ∧ fM_doSheet_h75 m' t (cI (k : Int)) = shTl t' ∧ Dim w h s' t' ∧ Ink (w * h) s' t' ∧ Rpt w h n' s' t' ∧ Tps n' s' ∧ fr FptC s s' ∧ fr FptM t t'
  | 0, m, m', k, np, s, t, hk, hm, hm', D, S, N, e13, R, T, TK => by
    obtain ⟨m, rfl⟩ : ∃ k, m = k + 1 := ⟨m - 1, by omega⟩
    obtain ⟨m', rfl⟩ : ∃ k, m' = k + 1 := ⟨m' - 1, by omega⟩
    obtain ⟨⟨d1, d2, d3, d4⟩, d5, d6, d7, d8, d9⟩ := id D
    refine ⟨s, t, np, ?_, ?_, D, S.ink, R, T, fr.rf, fr.rf⟩
    · rw [fSheet_findParts_h7, d1, d2, q_mul0 (by omega) (by omega) (by omega), if_neg (by rw [q_lt (by omega) (by omega)]; omega)]
    · rw [fM_doSheet_h75, e13, if_neg (by rw [q_lt (by omega) (by omega)]; omega)]
      rfl
  | r + 1, m, m', k, np, s, t, hk, hm, hm', D, S, N, e13, R, T, TK => by
    obtain ⟨m, rfl⟩ : ∃ k, m = k + 1 := ⟨m - 1, by omega⟩
    obtain ⟨m', rfl⟩ : ∃ k, m' = k + 1 := ⟨m' - 1, by omega⟩
    obtain ⟨⟨d1, d2, d3, d4⟩, d5, d6, d7, d8, d9⟩ := id D
    obtain ⟨r1, r2, r3, r4⟩ := id R
    have lt : cI (k : Int) < cI ((w * h : Nat) : Int) := (q_lt (by omega) (by omega)).mpr (by omega)
    have kb : inb (cI (k : Int)) 4096 = true := q_in (by omega) (by decide)
    have kx : ix (cI (k : Int)) = k := q_ix (by omega)
    have e200 : (cI 200).toInt = 200 := rfl
    have kk : ((k / w : Nat) : Int) ≤ (((k + 1) / w : Nat) : Int) := by
      have : k / w ≤ (k + 1) / w := Nat.div_le_div_right (by omega)
      omega
    by_cases y : np < 200
    · have yl : cI (np : Int) < cI 200 := by rw [lt_i, q_ti (by omega), e200]; omega
      by_cases z : s.1 53 k = cI 1
      · obtain ⟨s1, t1, n1, a1, a2, a3, a4, a5, a6, a7, a8, a9, b1, b2⟩ := tp_st D S (show k < w * h by omega) z N R y
        have T1 : Tps n1 s1 ∧ ∀ p, p < n1 → (s1.1 57 p).toInt ≤ ((k / w : Nat) : Int) := by
          rcases a7 with u | u
          · subst u
            refine ⟨fun p p' g1 g2 => ?_, fun p hp => ?_⟩
            · rw [a8 p (by omega), a8 p' g2]; exact T p p' g1 g2
            · rw [a8 p hp]; exact TK p hp
          · have en := a9 u
            have kw : k / w < 100000 := by
              have := Nat.div_le_self k w
              omega
            refine ⟨fun p p' g1 g2 => ?_, fun p hp => ?_⟩
            · by_cases v : p' = np
              · rw [v, en, a8 p (by omega), q_ti kw]; exact TK p (by omega)
              · rw [a8 p (by omega), a8 p' (by omega)]; exact T p p' g1 (by omega)
            · by_cases v : p = np
              · rw [v, en, q_ti kw]; exact Int.le_refl _
              · rw [a8 p (by omega)]; exact TK p (by omega)
        obtain ⟨s', t', n', c1, c2, c3, c4, c5, c6, c7, c8⟩ := fp_lp (w := w) (h := h) r m m' (k + 1) n1 s1 t1 (by omega) (by omega) (by omega) a3 a4 (fun j g1 g2 => a5 j (by omega) g2) (by rw [(b2.1 549 13 (by decide +kernel)).1]; exact e13) a6 T1.1 (fun p hp => by have := T1.2 p hp; omega)
        refine ⟨s', t', n', ?_, ?_, c3, c4, c5, c6, b1.tr c7, b2.tr c8⟩
        · rw [fSheet_findParts_h7, d1, d2, q_mul0 (by omega) (by omega) (by omega), if_pos lt, r1, if_pos yl, if_pos kb, kx, if_pos z, a1, bd1_some]
          unfold fSheet_findParts_b45
          rw [q_s (by omega)]
          exact c1
        · have m0 : t.1 650 k = 0 := by
            rcases S k (by omega) with ⟨u, -⟩ | ⟨-, -, u⟩ | ⟨u, -⟩
            · rw [z] at u; exact absurd u (by decide)
            · exact u
            · rw [z] at u; exact absurd u (by decide)
          rw [fM_doSheet_h75, e13, if_pos lt, if_pos kb, kx, if_pos m0, a2, bd1_some]
          unfold fM_doSheet_b97
          rw [q_s (by omega)]
          exact c2
      · obtain ⟨s', t', n', c1, c2, c3, c4, c5, c6, c7, c8⟩ := fp_lp (w := w) (h := h) r m m' (k + 1) np s t (by omega) (by omega) (by omega) D S (fun j g1 g2 => by
          by_cases v : j = k
          · rw [v]; exact z
          · exact N j (by omega) g2) e13 R T (fun p hp => by have := TK p hp; omega)
        refine ⟨s', t', n', ?_, ?_, c3, c4, c5, c6, c7, c8⟩
        · rw [fSheet_findParts_h7, d1, d2, q_mul0 (by omega) (by omega) (by omega), if_pos lt, r1, if_pos yl, if_pos kb, kx, if_neg z]
          unfold fSheet_findParts_b45
          rw [q_s (by omega)]
          exact c1
        · have m0 : ¬ t.1 650 k = 0 := by
            rcases S k (by omega) with ⟨-, -, u⟩ | ⟨u, -⟩ | ⟨-, -, u⟩
            · rw [u]; decide
            · exact absurd u z
            · rw [u]; decide
          rw [fM_doSheet_h75, e13, if_pos lt, if_pos kb, kx, if_neg m0]
          unfold fM_doSheet_b97
          rw [q_s (by omega)]
          exact c2
    · have en : np = 200 := by omega
      subst en
      obtain ⟨t', b1, b2⟩ := rs_M (w := w) (h := h) (r + 1) (m' + 1) k s t hk (by omega) D S N e13 r2
      have g549 : ∀ k, t'.1 549 k = t.1 549 k := fun k => (b2.1 549 k rfl).1
      refine ⟨s, t', 200, ?_, b1, ⟨⟨d1, d2, by rw [g549]; exact d3, by rw [g549]; exact d4⟩, d5, d6, d7, d8, d9⟩, fun q hq => by rw [(b2.1 649 q rfl).1]; exact S.ink q hq, ⟨r1, by rw [g549]; exact r2, r3, fun p hp => ?_⟩, T, fr.rf, b2.mono (by decide +kernel)⟩
      · rw [fSheet_findParts_h7, d1, d2, q_mul0 (by omega) (by omega) (by omega), if_pos lt, r1, if_neg (show ¬ cI ((200 : Nat) : Int) < cI 200 by decide)]
      · rw [(b2.1 652 p rfl).1, (b2.1 653 p rfl).1, (b2.1 654 p rfl).1, (b2.1 655 p rfl).1]
        exact r4 p hp
/-- all parts: class and reference -/
theorem parts_ok {w h : Nat} {s t : ev_M} (D : Dim w h s t) (S : Shd (w * h) s t) (e13 : t.1 549 13 = cI ((w * h : Nat) : Int)) (e146 : t.1 549 146 = cI 0) : ∃ (s' t' : ev_M) (n : Nat), fSheet_findParts s = some s' ∧ fM_doSheet_h75 1048576 t (cI 0) = shTl t' ∧ Dim w h s' t' ∧ Ink (w * h) s' t' ∧ Rpt w h n s' t' ∧ Tps n s' ∧ fr FptC s s' ∧ fr FptM t t' := by
  obtain ⟨⟨d1, d2, d3, d4⟩, d5, d6, d7, d8, d9⟩ := id D
  have f1 : fr FptC s (wI s 52 9 (cI 0)) := fr.rf.wI rfl
  obtain ⟨s', t', n, c1, c2, c3, c4, c5, c6, c7, c8⟩ := fp_lp (w := w) (h := h) (w * h) 1048576 1048576 0 0 (wI s 52 9 (cI 0)) t (by omega) (by omega) (by omega) ⟨⟨by simp (disch := decide) only [ix_0, ix_1, ix_2, ix_3, ix_4, ix_5, ix_6, ix_7, ix_8, ix_9, ix_10, ix_11, ix_12, ix_13, ix_14, ix_15, ix_16, ix_17, ix_18, ix_19, ix_20, ix_21, Nat.reduceAdd, wI_c, wI_ne, wL_1, lupd_ne, up1_eq, up1_ne]; exact d1, by simp (disch := decide) only [ix_0, ix_1, ix_2, ix_3, ix_4, ix_5, ix_6, ix_7, ix_8, ix_9, ix_10, ix_11, ix_12, ix_13, ix_14, ix_15, ix_16, ix_17, ix_18, ix_19, ix_20, ix_21, Nat.reduceAdd, wI_c, wI_ne, wL_1, lupd_ne, up1_eq, up1_ne]; exact d2, d3, d4⟩, d5, d6, d7, d8, d9⟩ (fun q hq => by simp (disch := decide) only [ix_0, ix_1, ix_2, ix_3, ix_4, ix_5, ix_6, ix_7, ix_8, ix_9, ix_10, ix_11, ix_12, ix_13, ix_14, ix_15, ix_16, ix_17, ix_18, ix_19, ix_20, ix_21, Nat.reduceAdd, wI_c, wI_ne, wL_1, lupd_ne, up1_eq, up1_ne]; exact S q hq) (fun j hj => absurd hj (Nat.not_lt_zero _)) e13 ⟨by simp (disch := decide) only [ix_0, ix_1, ix_2, ix_3, ix_4, ix_5, ix_6, ix_7, ix_8, ix_9, ix_10, ix_11, ix_12, ix_13, ix_14, ix_15, ix_16, ix_17, ix_18, ix_19, ix_20, ix_21, Nat.reduceAdd, wI_c, wI_ne, wL_1, lupd_ne, up1_eq, up1_ne]; rfl, e146, by decide, fun p hp => absurd hp (Nat.not_lt_zero _)⟩ (fun p p' _ hp => absurd hp (Nat.not_lt_zero _)) (fun p hp => absurd hp (Nat.not_lt_zero _))
  exact ⟨s', t', n, c1, c2, c3, c4, c5, c6, f1.tr c7, c8⟩
