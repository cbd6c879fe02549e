/-! ===== LEVEL 3: the sheet: all lines of the reference ===== -/
/-- what the reference has laid: the lines of the roots below K -/
def Fl (n K : Nat) (g : Nat → Nat) (s t : ev_M) : Prop := t.1 549 51 = cI (rkN g K : Int) ∧ rkN g K ≤ 10 ∧ t.1 577 (rkN g K) = cI (cntE (blw g K) 1 n : Int) ∧ (∀ r, r < K → r < n → g r = r → t.1 577 (rkN g r) = cI (cntE (blw g r) 1 n : Int)) ∧ ∀ a, a < n → g a < K → Bx s t (pos n s a) a
theorem lay_ok {w h n r K : Nat} {g : Nat → Nat} {s t : ev_M} (J : Pj n s) (H : Lc w h n g s t) (hr : r < n) (gr : g r = r) (hK : K ≤ r) (gap : ∀ j, K ≤ j → j < r → ¬ g j = j) (F : Fl n K g s t) (hL : rkN g K ≤ 9) : ∃ t', fM_lay t (cI (r : Int)) = some t' ∧ Fl n (r + 1) g s t' ∧ fr FlyM t t' := by
  obtain ⟨f1, f2, f3, f4, f5⟩ := F
  have hg := fun p hp => (H.2.2.2.2.2.1 p hp).2
  have eR := rk_gap r hK gap
  have eF := ff_gap hg hK gap n (Nat.le_refl _)
  have e1 : rkN g (r + 1) = rkN g K + 1 := by
    have : rkN g (r + 1) = rkN g r + 1 := by simp only [rkN, if_pos gr]
    omega
  obtain ⟨t', a1, a2, a3, a4, a5, a6⟩ := ly_lp (L := rkN g K) J hr hL n 1048576 0 t (by omega) (by have := H.2.2.1.2.2.1; omega) H f1 (fun a ha hga => f5 a ha (by
    rcases hga with u | ⟨-, u⟩
    · apply Classical.byContradiction
      intro v
      exact gap (g a) (by omega) u (hg a ha).2
    · exact absurd u (Nat.not_lt_zero _)))
  refine ⟨t', ?_, ⟨by rw [e1]; exact a2, by omega, by rw [e1]; exact a3, fun q hq hqn gq => ?_, a5⟩, a6⟩
  · have Lb : inb (cI (rkN g K : Int)) 11 = true := q_in (by omega) (by decide)
    have Lx : ix (cI (rkN g K : Int)) = rkN g K := q_ix (by omega)
    unfold fM_lay
    rw [f1, if_pos Lb, ltI_eq, Lx, f3, ← eF]
    exact a1
  · by_cases y : q < K
    · have := rkN_lt y gq
      rw [a4 _ (by omega)]
      exact f4 q y hqn gq
    · have eq : q = r := by
        apply Classical.byContradiction
        intro v
        exact gap q (by omega) (by omega) gq
      rw [eq, eR, a4 _ (by omega), f3, eF]
theorem sc_lp {w h n K : Nat} {g : Nat → Nat} {s t : ev_M} {k16 : ev_M → Int32 → Int32 → Option ev_M} {x1 : Int32} (H : Lc w h n g s t) (hx : ∀ r, r < n → g r = r → (r < K ↔ s.1 57 r ≤ x1)) : ∀ (q m b : Nat) (x3 : Int32), b + q = n → q < m → (x3 = cI (-1) ∧ (∀ j, K ≤ j → j < b → ¬ g j = j) ∨ ∃ r : Nat, x3 = cI (r : Int) ∧ K ≤ r ∧ r < b ∧ g r = r ∧ ∀ j, K ≤ j → j < r → ¬ g j = j) → (fM_findLines_h34 k16 m t x1 x3 (cI (b : Int)) = k16 t x1 (cI 0) ∧ ∀ j, K ≤ j → j < n → ¬ g j = j) ∨ ∃ r : Nat, K ≤ r ∧ r < n ∧ g r = r ∧ (∀ j, K ≤ j → j < r → ¬ g j = j) ∧ fM_findLines_h34 k16 m t x1 x3 (cI (b : Int)) = bd1 (fM_topOf t (cI (r : Int))) fun v3 => bd1 (fM_lay t (cI (r : Int))) fun s4 => k16 s4 v3 (cI 1) := by
  have r3 := H.2.2.1.2.2.1
  have r2 := H.2.2.1.2.1
  have h3 := H.2.2.2.2.2.2
  intro q
  induction q with
  | zero =>
    intro m b x3 hb hm hx3
    obtain ⟨m, rfl⟩ : ∃ k, m = k + 1 := ⟨m - 1, by omega⟩
    obtain rfl : b = n := by omega
    rw [fM_findLines_h34, r2, if_neg (by rw [q_lt (by omega) (by omega)]; omega)]
    unfold fM_findLines_b119 fM_findLines_b135
    rcases hx3 with ⟨u1, u2⟩ | ⟨r, u1, u2, u3, u4, u5⟩
    · refine Or.inl ⟨?_, u2⟩
      rw [if_pos u1, if_pos (show cI 0 = 0 from rfl)]
    · refine Or.inr ⟨r, u2, u3, u4, u5, ?_⟩
      rw [u1, if_neg (m1_ne (by omega)), if_neg (show ¬ cI 1 = 0 by decide)]
  | succ q ih =>
    intro m b x3 hb hm hx3
    obtain ⟨m, rfl⟩ : ∃ k, m = k + 1 := ⟨m - 1, by omega⟩
    have bb : inb (cI (b : Int)) 200 = true := q_in (by omega) (by decide)
    have bx : ix (cI (b : Int)) = b := q_ix (by omega)
    obtain ⟨gb, glb, -⟩ := H.2.2.2.2.2.1 b (by omega)
    have lt : cI (b : Int) < cI (n : Int) := (q_lt (by omega) (by omega)).mpr (by omega)
    have ih0 := fun x3 => ih m (b + 1) x3 (by omega) (by omega)
    rw [fM_findLines_h34, r2, if_pos lt, if_pos bb, bx, gb]
    unfold fM_findLines_b69 fM_findLines_b70 fM_findLines_b96 fM_findLines_b101 fM_findLines_b102
    rw [q_s (show b < 99999 by omega), if_pos (show cI 0 = 0 from rfl), if_neg (show ¬ cI 1 = 0 by decide)]
    have stay : (∀ j, K ≤ j → j = b → ¬ g j = j) ∨ (∃ r : Nat, x3 = cI (r : Int) ∧ K ≤ r ∧ r < b ∧ g r = r ∧ ∀ j, K ≤ j → j < r → ¬ g j = j) → (fM_findLines_h34 k16 m t x1 x3 (cI ((b + 1 : Nat) : Int)) = k16 t x1 (cI 0) ∧ ∀ j, K ≤ j → j < n → ¬ g j = j) ∨ ∃ r : Nat, K ≤ r ∧ r < n ∧ g r = r ∧ (∀ j, K ≤ j → j < r → ¬ g j = j) ∧ fM_findLines_h34 k16 m t x1 x3 (cI ((b + 1 : Nat) : Int)) = bd1 (fM_topOf t (cI (r : Int))) fun v3 => bd1 (fM_lay t (cI (r : Int))) fun s4 => k16 s4 v3 (cI 1) := by
      intro hs
      refine ih0 x3 ?_
      rcases hx3 with ⟨u1, u2⟩ | ⟨r, u1, u2, u3, u4, u5⟩
      · rcases hs with v | ⟨r, v1, v2, v3, v4, v5⟩
        · refine Or.inl ⟨u1, fun j h1 h2 => ?_⟩
          by_cases y : j = b
          · exact v j h1 y
          · exact u2 j h1 (by omega)
        · exact Or.inr ⟨r, v1, v2, by omega, v4, v5⟩
      · exact Or.inr ⟨r, u1, u2, by omega, u4, u5⟩
    by_cases z : g b = b
    · rw [if_pos (show cI (g b : Int) = cI (b : Int) by rw [z]), top_ok H (show b < n by omega) z, bd1_some]
      by_cases y : b < K
      · rw [if_pos ((hx b (by omega) z).mp y)]
        exact stay (Or.inl fun j h1 h2 => by omega)
      · rw [if_neg (fun u => y ((hx b (by omega) z).mpr u))]
        rcases hx3 with ⟨u1, u2⟩ | ⟨r, u1, u2, u3, u4, u5⟩
        · rw [if_pos u1]
          exact ih0 _ (Or.inr ⟨b, rfl, by omega, by omega, z, u2⟩)
        · have tt := h3 r b u3 (by omega) u4 z
          have e : (bd1 (some (s.1 57 b)) fun v1 => bd1 (fM_topOf t x3) fun v2 => if v1 < v2 then fM_findLines_h34 k16 m t x1 (cI (b : Int)) (cI ((b + 1 : Nat) : Int)) else fM_findLines_h34 k16 m t x1 x3 (cI ((b + 1 : Nat) : Int))) = fM_findLines_h34 k16 m t x1 x3 (cI ((b + 1 : Nat) : Int)) := by
            rw [u1, top_ok H (show r < n by omega) u4, bd1_some, bd1_some, if_neg (fun u => by rw [lt_i] at u; omega)]
          rw [if_neg (by rw [u1]; exact m1_ne (by omega)), e]
          exact stay (Or.inr ⟨r, u1, u2, u3, u4, u5⟩)
    · rw [if_neg (fun u => z (by rw [eq_i, q_ti (by omega), q_ti (by omega)] at u; omega))]
      exact stay (Or.inl fun j h1 h2 => by rw [h2]; exact z)
theorem fl_lp {w h n : Nat} {g : Nat → Nat} {s : ev_M} (J : Pj n s) : ∀ (q m K : Nat) (t : ev_M) (x1 : Int32), n + 1 ≤ K + q → q + 1 < m → K ≤ n → Lc w h n g s t → Fl n K g s t → (∀ r, r < n → g r = r → (r < K ↔ s.1 57 r ≤ x1)) → ∃ (K' : Nat) (t' : ev_M), fM_findLines_h16 m t x1 (cI 1) = some t' ∧ K' ≤ n ∧ Fl n K' g s t' ∧ (rkN g K' = 10 ∨ ∀ j, K' ≤ j → j < n → ¬ g j = j) ∧ fr FlyM t t' := by
  intro q
  induction q with
  | zero => intro m K t x1 h1 hm hK; omega
  | succ q ih =>
    intro m K t x1 h1 hm hK H F hx
    obtain ⟨m, rfl⟩ : ∃ k, m = k + 2 := ⟨m - 2, by omega⟩
    have r3 := H.2.2.1.2.2.1
    obtain ⟨f1, f2, f3, f4, f5⟩ := id F
    by_cases y : rkN g K = 10
    · refine ⟨K, t, ?_, hK, F, Or.inl y, fr.rf⟩
      rw [fM_findLines_h16, if_neg (show ¬ cI 1 = 0 by decide), f1, y, if_neg (show ¬ cI ((10 : Nat) : Int) < cI 10 by decide)]
    · have l10 : cI (rkN g K : Int) < cI 10 := by rw [lt_i, q_ti (by omega), show (cI 10).toInt = 10 from rfl]; omega
      rcases sc_lp (k16 := fM_findLines_h16 (m + 1)) H hx n 1048576 0 (cI (-1)) (by omega) (by omega) (Or.inl ⟨rfl, fun j _ h2 => absurd h2 (Nat.not_lt_zero _)⟩) with ⟨u1, u2⟩ | ⟨r, u1, u2, u3, u4, u5⟩
      · refine ⟨K, t, ?_, hK, F, Or.inr u2, fr.rf⟩
        rw [fM_findLines_h16, if_neg (show ¬ cI 1 = 0 by decide), f1, if_pos l10]
        refine Eq.trans u1 ?_
        rw [fM_findLines_h16, if_pos (show cI 0 = 0 from rfl)]
      · obtain ⟨t1, a1, a2, a3⟩ := lay_ok J H u2 u3 u1 u4 F (by omega)
        obtain ⟨K', t', b1, b2, b3, b4, b5⟩ := ih (m + 1) (r + 1) t1 (s.1 57 r) (by omega) (by omega) (by omega) (H.kM a3) a2 (fun r' hr' gr' => by
          rw [le_i]
          have h3 := H.2.2.2.2.2.2
          rcases Nat.lt_trichotomy r' r with v | v | v
          · have := h3 r' r v u2 gr' u3
            exact ⟨fun _ => by omega, fun _ => by omega⟩
          · rw [v]; exact ⟨fun _ => Int.le_refl _, fun _ => by omega⟩
          · have := h3 r r' v hr' u3 gr'
            exact ⟨fun _ => by omega, fun _ => by omega⟩)
        refine ⟨K', t', ?_, b2, b3, b4, a3.tr b5⟩
        rw [fM_findLines_h16, if_neg (show ¬ cI 1 = 0 by decide), f1, if_pos l10]
        refine Eq.trans u5 ?_
        rw [top_ok H u2 u3, bd1_some, a1, bd1_some]
        exact b1
/-- the reference's lines and boxes -/
theorem lines_ok {w h n : Nat} {g : Nat → Nat} {s t : ev_M} (J : Pj n s) (H : Lc w h n g s t) : ∃ (K : Nat) (t' : ev_M), fM_findLines t = some t' ∧ K ≤ n ∧ Fl n K g s t' ∧ (rkN g K = 10 ∨ ∀ j, K ≤ j → j < n → ¬ g j = j) ∧ fr FlyM t t' := by
  have r3 := H.2.2.1.2.2.1
  have f1 : fr FlyM t (wI (wI t 549 51 (cI 0)) 577 0 (cI 0)) := (fr.rf.wI rfl).wI rfl
  have z0 : cntE (blw g 0) 1 n = 0 := cntE_0 n (fun j _ u => by
    unfold blw at u
    rw [if_neg (Nat.not_lt_zero _)] at u
    exact absurd u (by decide))
  obtain ⟨K, t', a1, a2, a3, a4, a5⟩ := fl_lp J (n + 1) 1048576 0 _ (cI (-1)) (by omega) (by omega) (Nat.zero_le _) (H.kM f1) ⟨by
      simp (disch := decide) only [ix_0, ix_1, ix_2, ix_3, ix_4, ix_5, ix_6, ix_7, ix_8, ix_9, ix_10, ix_11, ix_12, ix_13, ix_14, ix_15, ix_16, ix_17, ix_18, ix_19, ix_20, ix_21, Nat.reduceAdd, wI_c, wI_ne, wL_1, lupd_ne, up1_eq, up1_ne]
      rfl, by simp only [rkN]; omega, by
      simp (disch := decide) only [rkN, ix_0, ix_1, ix_2, ix_3, ix_4, ix_5, ix_6, ix_7, ix_8, ix_9, ix_10, ix_11, ix_12, ix_13, ix_14, ix_15, ix_16, ix_17, ix_18, ix_19, ix_20, ix_21, Nat.reduceAdd, wI_c, wI_ne, wL_1, lupd_ne, up1_eq, up1_ne]
      rw [z0]
      rfl, fun r hr => absurd hr (Nat.not_lt_zero _), fun a _ ha => absurd ha (Nat.not_lt_zero _)⟩ (fun r hr gr => ⟨fun u => absurd u (Nat.not_lt_zero _), fun u => by
      obtain ⟨l, tp, c, d, ⟨-, b2, -, -⟩, -, -, ht, -, hd⟩ := H.2.2.1.2.2.2 r hr
      have d8 := H.1.2.2.2.2.1
      rw [le_i, b2, q_ti (by omega), show (cI (-1)).toInt = -1 from rfl] at u
      omega⟩)
  refine ⟨K, t', ?_, a2, a3, a4, f1.tr a5⟩
  unfold fM_findLines
  rw [ltM_eq, ltM_eq, ix_0]
  exact a1
