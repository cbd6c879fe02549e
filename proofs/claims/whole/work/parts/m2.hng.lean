/-! ===== LEVEL 3: the sheet: parts hang together ===== -/
/-- two parts lie side by side -/
def nrP (s : ev_M) (a b : Nat) : Prop := ((min (ix (s.1 59 a)) (ix (s.1 59 b)) : Nat) : Int) ≤ 2 * (((min (ix (s.1 57 a) + ix (s.1 59 a)) (ix (s.1 57 b) + ix (s.1 59 b)) : Nat) : Int) - ((max (ix (s.1 57 a)) (ix (s.1 57 b)) : Nat) : Int))
theorem nrP.sy {s : ev_M} {a b : Nat} (h : nrP s a b) : nrP s b a := by
  unfold nrP at h ⊢
  omega
theorem e_near {w h n a b : Nat} {s t : ev_M} (R : Rpt w h n s t) (hh : h ≤ 4096) (ha : a < n) (hb : b < n) : (fSheet_areNear s (cI (a : Int)) (cI (b : Int)) = some (cI 1) ∧ fM_areNear t (cI (a : Int)) (cI (b : Int)) = some (cI 1) ∧ nrP s a b) ∨ (fSheet_areNear s (cI (a : Int)) (cI (b : Int)) = some (cI 0) ∧ fM_areNear t (cI (a : Int)) (cI (b : Int)) = some (cI 0) ∧ ¬ nrP s a b) := by
  obtain ⟨r1, r2, r3, r4⟩ := R
  obtain ⟨-, ta, -, da, ⟨-, a2, -, a4⟩, ⟨-, a6, -, a8⟩, -, a9, -, a11⟩ := r4 a ha
  obtain ⟨-, tb, -, db, ⟨-, b2, -, b4⟩, ⟨-, b6, -, b8⟩, -, b9, -, b11⟩ := r4 b hb
  have ab : inb (cI (a : Int)) 200 = true := q_in (by omega) (by decide)
  have bb : inb (cI (b : Int)) 200 = true := q_in (by omega) (by decide)
  have ax : ix (cI (a : Int)) = a := q_ix (by omega)
  have bx : ix (cI (b : Int)) = b := q_ix (by omega)
  have sa : cI (ta : Int) + cI (da : Int) = cI ((ta + da : Nat) : Int) := by rw [eq_i, add_b (by rw [q_ti (by omega), q_ti (by omega)]; omega) (by rw [q_ti (by omega), q_ti (by omega)]; omega), q_ti (by omega), q_ti (by omega), q_ti (by omega)]; omega
  have sb : cI (tb : Int) + cI (db : Int) = cI ((tb + db : Nat) : Int) := by rw [eq_i, add_b (by rw [q_ti (by omega), q_ti (by omega)]; omega) (by rw [q_ti (by omega), q_ti (by omega)]; omega), q_ti (by omega), q_ti (by omega), q_ti (by omega)]; omega
  have hP : nrP s a b ↔ ((min da db : Nat) : Int) ≤ 2 * (((min (ta + da) (tb + db) : Nat) : Int) - ((max ta tb : Nat) : Int)) := by
    unfold nrP
    rw [a2, a4, b2, b4, q_ix (show ta < 100000 by omega), q_ix (show da < 100000 by omega), q_ix (show tb < 100000 by omega), q_ix (show db < 100000 by omega)]
  have e2 : (cI 2).toInt = 2 := rfl
  have cond : ∀ (u v m : Nat), u < 10000 → v < 10000 → m < 10000 → (cI 2 * (cI (u : Int) - cI (v : Int)) < cI (m : Int) ↔ ¬ ((m : Int) ≤ 2 * ((u : Int) - (v : Int)))) := by
    intro u v m hu hv hm
    have x1 : (cI (u : Int) - cI (v : Int)).toInt = (u : Int) - (v : Int) := by rw [sub_b (by rw [q_ti (by omega), q_ti (by omega)]; omega) (by rw [q_ti (by omega), q_ti (by omega)]; omega), q_ti (by omega), q_ti (by omega)]
    rw [lt_i, mul_toInt (by rw [e2, x1]; omega) (by rw [e2, x1]; omega), e2, x1, q_ti (by omega)]
    omega
  have kC : fSheet_areNear s (cI (a : Int)) (cI (b : Int)) = if cI 2 * (cI ((min (ta + da) (tb + db) : Nat) : Int) - cI ((max ta tb : Nat) : Int)) < cI ((min da db : Nat) : Int) then some (cI 0) else some (cI 1) := by
    unfold fSheet_areNear
    simp (disch := decide) only [if_pos ab, if_pos bb, ax, bx, ix_0, ix_1, ix_2, ix_3, ix_4, ix_5, ix_6, ix_7, ix_8, ix_9, ix_10, ix_11, ix_12, ix_13, ix_14, ix_15, ix_16, ix_17, ix_18, ix_19, ix_20, ix_21, Nat.reduceAdd, wI_c, wI_ne, wL_1, lupd_ne, up1_eq, up1_ne, a2, a4, b2, b4, sa, sb]
    rw [q_mx (by omega) (by omega), bd1_some, q_mn (by omega) (by omega), bd1_some, q_mn (by omega) (by omega), bd1_some]
  have kM : fM_areNear t (cI (a : Int)) (cI (b : Int)) = if cI 2 * (cI ((min (ta + da) (tb + db) : Nat) : Int) - cI ((max ta tb : Nat) : Int)) < cI ((min da db : Nat) : Int) then some (cI 0) else some (cI 1) := by
    have g3 : ∀ (u v : Nat), u < 10000 → v < 10000 → fM_areNear_b82 t (cI (a : Int)) (cI (b : Int)) (cI (v : Int)) (cI (u : Int)) = if cI 2 * (cI (u : Int) - cI (v : Int)) < cI ((min da db : Nat) : Int) then some (cI 0) else some (cI 1) := by
      intro u v _ _
      unfold fM_areNear_b82 fM_areNear_b114
      simp only [if_pos ab, if_pos bb, ax, bx, a8, b8]
      by_cases z : cI (da : Int) < cI (db : Int)
      · rw [if_pos z]
        rw [q_lt (by omega) (by omega)] at z
        rw [Nat.min_eq_left (show da ≤ db by omega)]
      · rw [if_neg z]
        rw [q_lt (by omega) (by omega)] at z
        rw [Nat.min_eq_right (show db ≤ da by omega)]
    have g2 : ∀ (v : Nat), v < 10000 → fM_areNear_b30 t (cI (a : Int)) (cI (b : Int)) (cI (v : Int)) = if cI 2 * (cI ((min (ta + da) (tb + db) : Nat) : Int) - cI (v : Int)) < cI ((min da db : Nat) : Int) then some (cI 0) else some (cI 1) := by
      intro v hv
      unfold fM_areNear_b30
      simp only [if_pos ab, if_pos bb, ltI_eq, ax, bx, a6, a8, b6, b8, sa, sb]
      by_cases z : cI ((tb + db : Nat) : Int) < cI ((ta + da : Nat) : Int)
      · rw [if_pos z, g3 _ _ (by omega) hv]
        rw [q_lt (by omega) (by omega)] at z
        rw [Nat.min_eq_right (show tb + db ≤ ta + da by omega)]
      · rw [if_neg z, g3 _ _ (by omega) hv]
        rw [q_lt (by omega) (by omega)] at z
        rw [Nat.min_eq_left (show ta + da ≤ tb + db by omega)]
    unfold fM_areNear
    simp only [if_pos ab, if_pos bb, ax, bx, a6, b6]
    by_cases z : cI (ta : Int) ≤ cI (tb : Int)
    · rw [if_pos z, g2 _ (by omega)]
      rw [le_i, q_ti (by omega), q_ti (by omega)] at z
      rw [Nat.max_eq_right (show ta ≤ tb by omega)]
    · rw [if_neg z, g2 _ (by omega)]
      rw [le_i, q_ti (by omega), q_ti (by omega)] at z
      rw [Nat.max_eq_left (show tb ≤ ta by omega)]
  rw [kC, kM, hP]
  have cd := cond (min (ta + da) (tb + db)) (max ta tb) (min da db) (by omega) (by omega) (by omega)
  by_cases z : cI 2 * (cI ((min (ta + da) (tb + db) : Nat) : Int) - cI ((max ta tb : Nat) : Int)) < cI ((min da db : Nat) : Int)
  · exact Or.inr ⟨by rw [if_pos z], by rw [if_pos z], cd.mp z⟩
  · exact Or.inl ⟨by rw [if_neg z], by rw [if_neg z], Classical.not_not.mp (fun u => z (cd.mpr u))⟩
def upN (g : Nat → Nat) (i v : Nat) (p : Nat) : Nat := if p = i then v else g p
def smN (g : Nat → Nat) : Nat → Nat
  | 0 => 0
  | n + 1 => smN g n + g n
theorem smN_up {g : Nat → Nat} {i v : Nat} : ∀ n, (n ≤ i → smN (upN g i v) n = smN g n) ∧ (i < n → smN (upN g i v) n + g i = smN g n + v)
  | 0 => ⟨fun _ => rfl, fun h => absurd h (Nat.not_lt_zero _)⟩
  | n + 1 => by
    obtain ⟨h1, h2⟩ := smN_up (g := g) (i := i) (v := v) n
    constructor
    · intro h
      simp only [smN, upN]
      rw [if_neg (by omega), h1 (by omega)]
    · intro h
      simp only [smN, upN]
      by_cases z : n = i
      · rw [if_pos z, h1 (by omega), z]; omega
      · rw [if_neg z]
        have := h2 (by omega)
        omega
theorem smN_le {g : Nat → Nat} {N : Nat} : ∀ n, (∀ p, p < n → g p ≤ N) → smN g n ≤ N * n
  | 0, _ => Nat.zero_le _
  | n + 1, h => by
    have h1 := smN_le (g := g) (N := N) n (fun p hp => h p (by omega))
    have h2 := h n (by omega)
    simp only [smN]
    rw [Nat.mul_add, Nat.mul_one]
    omega
/-- what stands for a part, so far -/
def Gst (n : Nat) (E : Nat → Nat → Prop) (g : Nat → Nat) (t : ev_M) : Prop := (∀ p, p < n → t.1 656 p = cI (g p : Int) ∧ g p ≤ p) ∧ ∀ (i : Nat) (S : Nat → Prop), S i → (∀ a b, a < n → b < n → S a → E a b → S b) → ∀ j, j < n → g j = i → S j
theorem hg_in {w h n i : Nat} {s : ev_M} {k25 : ev_M → Int32 → Option ev_M} {k33 : ev_M → Int32 → Int32 → Option ev_M} (hh : h ≤ 4096) (hi : i < n) : ∀ (r m j : Nat) (g : Nat → Nat) (t : ev_M) (x1 : Int32), j + r = n → r < m → Rpt w h n s t → Gst n (nrP s) g t → ∃ (g' : Nat → Nat) (t' : ev_M) (x1' : Int32), fM_hangTogether_h43 k25 k33 m t x1 (cI (i : Int)) (cI (j : Int)) = k33 t' x1' (cI ((i + 1 : Nat) : Int)) ∧ Gst n (nrP s) g' t' ∧ ((x1' = x1 ∧ t' = t ∧ g' = g ∧ ∀ b, j ≤ b → b < n → nrP s i b → g i ≤ g b) ∨ (x1' = cI 1 ∧ smN g' n < smN g n)) ∧ fr [(656, 656, 0)] t t' := by
  intro r
  induction r with
  | zero =>
    intro m j g t x1 hj hm R G
    obtain ⟨m, rfl⟩ : ∃ k, m = k + 1 := ⟨m - 1, by omega⟩
    refine ⟨g, t, x1, ?_, G, Or.inl ⟨rfl, rfl, rfl, fun b h1 h2 => by omega⟩, fr.rf⟩
    have r3 := R.2.2.1
    rw [fM_hangTogether_h43, R.2.1, if_neg (by rw [q_lt (by omega) (by omega)]; omega), q_s (by omega)]
  | succ r ih =>
    intro m j g t x1 hj hm R G
    obtain ⟨m, rfl⟩ : ∃ k, m = k + 1 := ⟨m - 1, by omega⟩
    have r3 := R.2.2.1
    obtain ⟨G1, G2⟩ := id G
    obtain ⟨gi1, gi2⟩ := G1 i hi
    obtain ⟨gj1, gj2⟩ := G1 j (by omega)
    have lt : cI (j : Int) < cI (n : Int) := (q_lt (by omega) (by omega)).mpr (by omega)
    have ib : inb (cI (i : Int)) 200 = true := q_in (by omega) (by decide)
    have jb : inb (cI (j : Int)) 200 = true := q_in (by omega) (by decide)
    have ixx : ix (cI (i : Int)) = i := q_ix (by omega)
    have jx : ix (cI (j : Int)) = j := q_ix (by omega)
    have stay : ∀ {x : Int32}, ¬ (g j < g i ∧ nrP s i j) → fM_hangTogether_h43 k25 k33 (m + 1) t x1 (cI (i : Int)) (cI (j : Int)) = fM_hangTogether_h43 k25 k33 m t x1 (cI (i : Int)) (cI ((j + 1 : Nat) : Int)) := by
      intro x z
      rw [fM_hangTogether_h43, R.2.1, if_pos lt, if_pos jb, if_pos ib, jx, ixx, gi1, gj1]
      unfold fM_hangTogether_b89
      rw [q_s (by omega)]
      by_cases y : g j < g i
      · rw [if_pos ((q_lt (by omega) (by omega)).mpr y)]
        rcases e_near R hh hi (show j < n by omega) with ⟨-, -, u⟩ | ⟨-, u, -⟩
        · exact absurd ⟨y, u⟩ z
        · rw [u, bd1_some, if_pos (show cI 0 = 0 from rfl)]
      · rw [if_neg (fun u => y ((q_lt (by omega) (by omega)).mp u))]
    rcases Classical.em (g j < g i ∧ nrP s i j) with ⟨z1, z2⟩ | z
    · have f1 : fr [(656, 656, 0)] t (wI t 656 i (cI (g j : Int))) := fr.rf.wI rfl
      have R' : Rpt w h n s (wI t 656 i (cI (g j : Int))) := by
        obtain ⟨q1, q2, q3, q4⟩ := R
        refine ⟨q1, by rw [wI_ne (by decide)]; exact q2, q3, fun p hp => ?_⟩
        simp (disch := decide) only [ix_0, ix_1, ix_2, ix_3, ix_4, ix_5, ix_6, ix_7, ix_8, ix_9, ix_10, ix_11, ix_12, ix_13, ix_14, ix_15, ix_16, ix_17, ix_18, ix_19, ix_20, ix_21, Nat.reduceAdd, wI_c, wI_ne, wL_1, lupd_ne, up1_eq, up1_ne]
        exact q4 p hp
      have G' : Gst n (nrP s) (upN g i (g j)) (wI t 656 i (cI (g j : Int))) := by
        refine ⟨fun p hp => ?_, fun i0 S S0 Sc p hp hg => ?_⟩
        · rw [wI_c]
          unfold upN
          by_cases y : p = i
          · rw [y, up1_eq, if_pos rfl]; exact ⟨rfl, by omega⟩
          · rw [up1_ne y, if_neg y]; exact G1 p hp
        · unfold upN at hg
          by_cases y : p = i
          · rw [if_pos y] at hg
            have sj := G2 i0 S S0 Sc j (by omega) hg
            rw [y]
            exact Sc j i (by omega) hi sj z2.sy
          · rw [if_neg y] at hg
            exact G2 i0 S S0 Sc p hp hg
      have sm := (smN_up (g := g) (i := i) (v := g j) n).2 hi
      obtain ⟨g', t', x1', a1, a2, a3, a4⟩ := ih m (j + 1) (upN g i (g j)) _ (cI 1) (by omega) (by omega) R' G'
      refine ⟨g', t', x1', ?_, a2, Or.inr ?_, f1.tr a4⟩
      · rw [← a1, fM_hangTogether_h43, R.2.1, if_pos lt, if_pos jb, if_pos ib, jx, ixx, gi1, gj1, if_pos ((q_lt (by omega) (by omega)).mpr z1)]
        rcases e_near R hh hi (show j < n by omega) with ⟨-, u, -⟩ | ⟨-, -, u⟩
        · rw [u, bd1_some, if_neg (show ¬ cI 1 = 0 by decide), if_pos jb, if_pos ib, ltM_eq]
          unfold fM_hangTogether_b89
          rw [q_s (by omega)]
        · exact absurd z2 u
      · rcases a3 with ⟨u1, u2, u3, -⟩ | ⟨u1, u2⟩
        · refine ⟨u1, ?_⟩
          rw [u3]; omega
        · exact ⟨u1, by omega⟩
    · obtain ⟨g', t', x1', a1, a2, a3, a4⟩ := ih m (j + 1) g t x1 (by omega) (by omega) R G
      refine ⟨g', t', x1', (stay (x := x1) z).trans a1, a2, ?_, a4⟩
      rcases a3 with ⟨u1, u2, u3, u4⟩ | u
      · refine Or.inl ⟨u1, u2, u3, fun b h1 h2 h3 => ?_⟩
        by_cases y : b = j
        · rw [y]
          rw [y] at h3
          apply Classical.byContradiction
          intro v
          exact z ⟨by omega, h3⟩
        · exact u4 b (by omega) h2 h3
      · exact Or.inr u
theorem Rpt.kM {w h n : Nat} {s t t' : ev_M} (R : Rpt w h n s t) (h' : fr [(656, 656, 0)] t t') : Rpt w h n s t' := by
  obtain ⟨q1, q2, q3, q4⟩ := R
  refine ⟨q1, by rw [(h'.1 549 146 rfl).1]; exact q2, q3, fun p hp => ?_⟩
  rw [(h'.1 652 p rfl).1, (h'.1 653 p rfl).1, (h'.1 654 p rfl).1, (h'.1 655 p rfl).1]
  exact q4 p hp
theorem hg_ou {w h n : Nat} {s : ev_M} {k25 : ev_M → Int32 → Option ev_M} (hh : h ≤ 4096) : ∀ (r m i : Nat) (g : Nat → Nat) (t : ev_M) (x1 : Int32), i + r = n → r < m → Rpt w h n s t → Gst n (nrP s) g t → ∃ (g' : Nat → Nat) (t' : ev_M) (x1' : Int32), fM_hangTogether_h33 k25 m t x1 (cI (i : Int)) = k25 t' x1' ∧ Gst n (nrP s) g' t' ∧ ((x1' = x1 ∧ t' = t ∧ g' = g ∧ ∀ a b, i ≤ a → a < n → b < n → nrP s a b → g a ≤ g b) ∨ (x1' = cI 1 ∧ smN g' n < smN g n)) ∧ fr [(656, 656, 0)] t t' := by
  intro r
  induction r with
  | zero =>
    intro m i g t x1 hi hm R G
    obtain ⟨m, rfl⟩ : ∃ k, m = k + 1 := ⟨m - 1, by omega⟩
    have r3 := R.2.2.1
    refine ⟨g, t, x1, ?_, G, Or.inl ⟨rfl, rfl, rfl, fun a b h1 h2 => by omega⟩, fr.rf⟩
    rw [fM_hangTogether_h33, R.2.1, if_neg (by rw [q_lt (by omega) (by omega)]; omega)]
  | succ r ih =>
    intro m i g t x1 hi hm R G
    obtain ⟨m, rfl⟩ : ∃ k, m = k + 1 := ⟨m - 1, by omega⟩
    have r3 := R.2.2.1
    obtain ⟨g1, t1, y1, a1, a2, a3, a4⟩ := hg_in (k25 := k25) (k33 := fM_hangTogether_h33 k25 m) hh (show i < n by omega) n 1048576 0 g t x1 (by omega) (by omega) R G
    obtain ⟨g', t', x1', b1, b2, b3, b4⟩ := ih m (i + 1) g1 t1 y1 (by omega) (by omega) (R.kM a4) a2
    refine ⟨g', t', x1', ?_, b2, ?_, a4.tr b4⟩
    · rw [fM_hangTogether_h33, R.2.1, if_pos ((q_lt (by omega) (by omega)).mpr (by omega))]
      exact a1.trans b1
    · rcases a3 with ⟨u1, u2, u3, u4⟩ | ⟨u1, u2⟩
      · subst u1 u2 u3
        rcases b3 with ⟨v1, v2, v3, v4⟩ | v
        · refine Or.inl ⟨v1, v2, v3, fun a b h1 h2 h3 h4 => ?_⟩
          by_cases y : a = i
          · rw [y]; rw [y] at h4; exact u4 b (Nat.zero_le _) h3 h4
          · exact v4 a b (by omega) h2 h3 h4
        · exact Or.inr v
      · rcases b3 with ⟨v1, v2, v3, v4⟩ | ⟨v1, v2⟩
        · exact Or.inr ⟨v1.trans u1, by rw [v3]; exact u2⟩
        · exact Or.inr ⟨v1, by omega⟩
theorem hg_pa {w h n : Nat} {s : ev_M} (hh : h ≤ 4096) : ∀ (r m : Nat) (g : Nat → Nat) (t : ev_M), smN g n ≤ r → r + 1 < m → Rpt w h n s t → Gst n (nrP s) g t → ∃ (g' : Nat → Nat) (t' : ev_M), fM_hangTogether_h25 m t (cI 1) = some t' ∧ Gst n (nrP s) g' t' ∧ (∀ a b, a < n → b < n → nrP s a b → g' a ≤ g' b) ∧ fr [(656, 656, 0)] t t' := by
  intro r
  induction r with
  | zero =>
    intro m g t h1 hm R G
    obtain ⟨m, rfl⟩ : ∃ k, m = k + 2 := ⟨m - 2, by omega⟩
    have r3 := R.2.2.1
    obtain ⟨g1, t1, y1, a1, a2, a3, a4⟩ := hg_ou (k25 := fM_hangTogether_h25 (m + 1)) hh n 1048576 0 g t (cI 0) (by omega) (by omega) R G
    rcases a3 with ⟨u1, u2, u3, u4⟩ | ⟨u1, u2⟩
    · refine ⟨g1, t1, ?_, a2, fun a b h1 h2 h3 => ?_, a4⟩
      · rw [fM_hangTogether_h25, if_neg (show ¬ cI 1 = 0 by decide)]
        refine Eq.trans a1 ?_
        rw [u1, fM_hangTogether_h25, if_pos (show cI 0 = 0 from rfl)]
      · rw [u3]; exact u4 a b (Nat.zero_le _) h1 h2 h3
    · omega
  | succ r ih =>
    intro m g t h1 hm R G
    obtain ⟨m, rfl⟩ : ∃ k, m = k + 2 := ⟨m - 2, by omega⟩
    have r3 := R.2.2.1
    obtain ⟨g1, t1, y1, a1, a2, a3, a4⟩ := hg_ou (k25 := fM_hangTogether_h25 (m + 1)) hh n 1048576 0 g t (cI 0) (by omega) (by omega) R G
    rcases a3 with ⟨u1, u2, u3, u4⟩ | ⟨u1, u2⟩
    · refine ⟨g1, t1, ?_, a2, fun a b h1 h2 h3 => ?_, a4⟩
      · rw [fM_hangTogether_h25, if_neg (show ¬ cI 1 = 0 by decide)]
        refine Eq.trans a1 ?_
        rw [u1, fM_hangTogether_h25, if_pos (show cI 0 = 0 from rfl)]
      · rw [u3]; exact u4 a b (Nat.zero_le _) h1 h2 h3
    · obtain ⟨g', t', b1, b2, b3, b4⟩ := ih (m + 1) g1 t1 (by omega) (by omega) (R.kM a4) a2
      refine ⟨g', t', ?_, b2, b3, a4.tr b4⟩
      rw [fM_hangTogether_h25, if_neg (show ¬ cI 1 = 0 by decide)]
      refine Eq.trans a1 ?_
      rw [u1]
      exact b1
theorem hg_st {w h n : Nat} {s : ev_M} (hh : h ≤ 4096) : ∀ (r m k : Nat) (t : ev_M), k + r = n → r < m → Rpt w h n s t → (∀ p, p < k → t.1 656 p = cI (p : Int)) → ∃ (g' : Nat → Nat) (t' : ev_M), fM_hangTogether_h2 m t (cI (k : Int)) = some t' ∧ Gst n (nrP s) g' t' ∧ (∀ a b, a < n → b < n → nrP s a b → g' a ≤ g' b) ∧ fr [(656, 656, 0)] t t'
  | 0, m, k, t, hk, hm, R, hp => by
    obtain ⟨m, rfl⟩ : ∃ k, m = k + 1 := ⟨m - 1, by omega⟩
    have r3 := R.2.2.1
    have sl : smN (fun p => p) n ≤ 200 * n := smN_le n (fun p hp => by omega)
    have sl2 : 200 * n ≤ 200 * 200 := Nat.mul_le_mul_left 200 r3
    obtain ⟨g', t', a1, a2, a3, a4⟩ := hg_pa hh (smN (fun p => p) n) 1048576 (fun p => p) t (Nat.le_refl _) (by omega) R ⟨fun p h => ⟨hp p (by omega), Nat.le_refl _⟩, fun i S S0 Sc j hj hg => by
      have : j = i := hg
      rw [this]; exact S0⟩
    refine ⟨g', t', ?_, a2, a3, a4⟩
    rw [fM_hangTogether_h2, R.2.1, if_neg (by rw [q_lt (by omega) (by omega)]; omega)]
    exact a1
  | r + 1, m, k, t, hk, hm, R, hp => by
    obtain ⟨m, rfl⟩ : ∃ k, m = k + 1 := ⟨m - 1, by omega⟩
    have r3 := R.2.2.1
    have f1 : fr [(656, 656, 0)] t (wI t 656 k (cI (k : Int))) := fr.rf.wI rfl
    obtain ⟨g', t', a1, a2, a3, a4⟩ := hg_st hh r m (k + 1) (wI t 656 k (cI (k : Int))) (by omega) (by omega) (R.kM f1) (fun p h => by
      rw [wI_c]
      by_cases z : p = k
      · rw [z, up1_eq]
      · rw [up1_ne z]; exact hp p (by omega))
    refine ⟨g', t', ?_, a2, a3, f1.tr a4⟩
    rw [fM_hangTogether_h2, R.2.1, if_pos ((q_lt (by omega) (by omega)).mpr (by omega)), if_pos (q_in (by omega) (by decide)), ltM_eq, q_ix (by omega), q_s (by omega)]
    exact a1
/-- what hangs together: the reference's answer, and what it is -/
theorem hang_ok {w h n : Nat} {s t : ev_M} (R : Rpt w h n s t) (hh : h ≤ 4096) : ∃ (g : Nat → Nat) (t' : ev_M), fM_hangTogether t = some t' ∧ (∀ p, p < n → t'.1 656 p = cI (g p : Int) ∧ g p ≤ p) ∧ (∀ (i : Nat) (S : Nat → Prop), S i → (∀ a b, a < n → b < n → S a → nrP s a b → S b) → ∀ j, j < n → g j = i → S j) ∧ (∀ a b, a < n → b < n → nrP s a b → g a = g b) ∧ (∀ p, p < n → g (g p) = g p) ∧ fr [(656, 656, 0)] t t' := by
  have r3 := R.2.2.1
  obtain ⟨g, t', a1, ⟨a2, a3⟩, a4, a5⟩ := hg_st hh n 1048576 0 t (by omega) (by omega) R (fun p hp => absurd hp (Nat.not_lt_zero _))
  have eq : ∀ a b, a < n → b < n → nrP s a b → g a = g b := fun a b ha hb hn => Nat.le_antisymm (a4 a b ha hb hn) (a4 b a hb ha hn.sy)
  refine ⟨g, t', a1, a2, a3, eq, fun p hp => ?_, a5⟩
  have gp := (a2 p hp).2
  have q := a3 (g p) (fun x => x < n → g x = g (g p)) (fun _ => rfl) (fun a b ha hb hS hn _ => by rw [← eq a b ha hb hn]; exact hS ha) p hp rfl hp
  exact q.symm
