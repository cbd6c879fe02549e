/-! ===== LEVEL 3: the sheet: the class's lines ===== -/
/-- how many roots lie below -/
def rkN (g : Nat → Nat) : Nat → Nat
  | 0 => 0
  | k + 1 => rkN g k + if g k = k then 1 else 0
theorem rkN_le {g : Nat → Nat} : ∀ k, rkN g k ≤ k
  | 0 => Nat.le_refl _
  | k + 1 => by
    have := rkN_le (g := g) k
    simp only [rkN]
    split <;> omega
theorem rkN_mo {g : Nat → Nat} {i : Nat} : ∀ j, i ≤ j → rkN g i ≤ rkN g j
  | 0, h => by rw [Nat.le_zero.mp h]; exact Nat.le_refl _
  | j + 1, h => by
    by_cases z : i = j + 1
    · rw [z]; exact Nat.le_refl _
    · have := rkN_mo (g := g) (i := i) j (by omega)
      simp only [rkN]
      split <;> omega
theorem rkN_lt {g : Nat → Nat} {i j : Nat} (h : i < j) (hi : g i = i) : rkN g i < rkN g j := by
  have := rkN_mo (g := g) (i := i + 1) j h
  simp only [rkN, if_pos hi] at this
  omega
def FjlC : List (Nat × (Nat × Nat)) := [(52, 52, 9), (54, 54, 0), (60, 60, 0)]
theorem Rpt.kC {w h n : Nat} {s s' t : ev_M} (R : Rpt w h n s t) (h' : fr FjlC s s') : Rpt w h n s' t := by
  obtain ⟨q1, q2, q3, q4⟩ := R
  refine ⟨by rw [(h'.1 52 9 rfl).1]; exact q1, q2, q3, fun p hp => ?_⟩
  rw [(h'.1 56 p rfl).1, (h'.1 57 p rfl).1, (h'.1 58 p rfl).1, (h'.1 59 p rfl).1]
  exact q4 p hp
theorem nrP.kC {s s' : ev_M} {a b : Nat} (h' : fr FjlC s s') : nrP s' a b ↔ nrP s a b := by
  unfold nrP
  rw [(h'.1 57 a rfl).1, (h'.1 57 b rfl).1, (h'.1 59 a rfl).1, (h'.1 59 b rfl).1]
theorem m1_ne {l : Nat} (h : l < 100000) : ¬ cI (l : Int) = cI (-1) := fun u => by
  rw [eq_i, q_ti h, show (cI (-1)).toInt = -1 from rfl] at u
  omega
/-- the line of the root i, as far as it has grown -/
def Jq (n i : Nat) (g : Nat → Nat) (q : Nat) (s : ev_M) : Prop := s.1 52 8 = cI (q : Int) ∧ q + cntE (s.1 60) (cI (-1)) n ≤ n ∧ (∀ p, p < n → (g p < i → s.1 60 p = cI (rkN g (g p) : Int)) ∧ (i < g p → s.1 60 p = cI (-1)) ∧ (g p = i → s.1 60 p = cI (-1) ∨ s.1 60 p = cI (rkN g i : Int) ∧ ∃ j, j < q ∧ s.1 54 j = cI (p : Int))) ∧ (∀ j, j < q → ∃ p, p < n ∧ s.1 54 j = cI (p : Int) ∧ g p = i ∧ s.1 60 p = cI (rkN g i : Int)) ∧ s.1 60 i = cI (rkN g i : Int)
/-- what stands before x in the queue is done -/
def Jp (n x : Nat) (s0 s : ev_M) : Prop := ∀ j p p', j < x → p < n → p' < n → s.1 54 j = cI (p : Int) → nrP s0 p p' → ¬ s.1 60 p' = cI (-1)
theorem jl_in {w h n i x px : Nat} {g : Nat → Nat} {s0 t : ev_M} {k21 : ev_M → Int32 → Int32 → Option ev_M} (hh : h ≤ 4096) (R : Rpt w h n s0 t) (eq : ∀ a b, a < n → b < n → nrP s0 a b → g a = g b) (hi : i < n) (hpx : px < n) : ∀ (r m k q : Nat) (s : ev_M), k + r = n → r < m → fr FjlC s0 s → Jq n i g q s → x < q → s.1 54 x = cI (px : Int) → Jp n x s0 s → (∀ p, p < k → nrP s0 px p → ¬ s.1 60 p = cI (-1)) → ∃ (s' : ev_M) (q' : Nat), fSheet_joinLine_h39 k21 m s (cI (rkN g i : Int)) (cI (x : Int)) (cI (k : Int)) = k21 s' (cI (rkN g i : Int)) (cI ((x + 1 : Nat) : Int)) ∧ Jq n i g q' s' ∧ x < q' ∧ Jp n (x + 1) s0 s' ∧ fr FjlC s0 s' := by
  intro r
  induction r with
  | zero =>
    intro m k q s hk hm F J hx ex P K
    obtain ⟨m, rfl⟩ : ∃ k, m = k + 1 := ⟨m - 1, by omega⟩
    have r3 := R.2.2.1
    have R1 := R.kC F
    refine ⟨s, q, ?_, J, hx, fun j p p' h1 h2 h3 h4 h5 => ?_, F⟩
    · have := J.2.1
      rw [fSheet_joinLine_h39, R1.1, if_neg (by rw [q_lt (by omega) (by omega)]; omega), q_s (by omega)]
    · by_cases z : j = x
      · have : p = px := by
          rw [z, ex, eq_i, q_ti (by omega), q_ti (by omega)] at h4
          omega
        rw [this] at h5
        exact K p' (by omega) h5
      · exact P j p p' (by omega) h2 h3 h4 h5
  | succ r ih =>
    intro m k q s hk hm F J hx ex P K
    obtain ⟨m, rfl⟩ : ∃ k, m = k + 1 := ⟨m - 1, by omega⟩
    have r3 := R.2.2.1
    have R1 := R.kC F
    obtain ⟨j1, j2, j3, j4, j5⟩ := id J
    have lt : cI (k : Int) < cI (n : Int) := (q_lt (by omega) (by omega)).mpr (by omega)
    have kb : inb (cI (k : Int)) 200 = true := q_in (by omega) (by decide)
    have kx : ix (cI (k : Int)) = k := q_ix (by omega)
    have xb : inb (cI (x : Int)) 4096 = true := q_in (by omega) (by decide)
    have xx : ix (cI (x : Int)) = x := q_ix (by omega)
    have li : rkN g i < 200 := Nat.lt_of_le_of_lt (rkN_le i) (by omega)
    by_cases z : s.1 60 k = cI (-1)
    · rcases e_near R1 hh hpx (show k < n by omega) with ⟨u1, -, u2⟩ | ⟨u1, -, u2⟩
      · rw [nrP.kC F] at u2
        have gk : g k = i := by
          rw [← eq px k hpx (by omega) u2]
          obtain ⟨p, p1, p2, p3, -⟩ := j4 x hx
          rw [ex, eq_i, q_ti (by omega), q_ti (by omega)] at p2
          rw [show px = p by omega]; exact p3
        have cp := cntE_pos (f := s.1 60) (k := k) (x := cI (-1)) z n (by omega)
        have cu := cntE_un (f := s.1 60) (k := k) (x := cI (-1)) (y := cI (rkN g i : Int)) z (m1_ne (by omega)) n (by omega)
        have qb : inb (cI (q : Int)) 4096 = true := q_in (by omega) (by decide)
        have qx : ix (cI (q : Int)) = q := q_ix (by omega)
        have F1 : fr FjlC s0 (wI (wI (wI s 60 k (cI (rkN g i : Int))) 52 8 (cI ((q + 1 : Nat) : Int))) 54 q (cI (k : Int))) := ((F.wI rfl).wI rfl).wI rfl
        obtain ⟨s', q', a1, a2, a3, a4, a5⟩ := ih m (k + 1) (q + 1) _ (by omega) (by omega) F1 (by
          refine ⟨?_, ?_, fun p hp => ?_, fun j hj => ?_, ?_⟩ <;> simp (disch := decide) only [ix_0, ix_1, ix_2, ix_3, ix_4, ix_5, ix_6, ix_7, ix_8, ix_9, ix_10, ix_11, ix_12, ix_13, ix_14, ix_15, ix_16, ix_17, ix_18, ix_19, ix_20, ix_21, Nat.reduceAdd, wI_c, wI_ne, wL_1, lupd_ne, up1_eq, up1_ne]
          · omega
          · obtain ⟨b1, b2, b3⟩ := j3 p hp
            by_cases y : p = k
            · rw [y, up1_eq]
              refine ⟨fun v => by omega, fun v => by omega, fun _ => Or.inr ⟨rfl, q, by omega, ?_⟩⟩
              rw [up1_eq]
            · rw [up1_ne y]
              refine ⟨b1, b2, fun v => ?_⟩
              rcases b3 v with v1 | ⟨v1, j, v2, v3⟩
              · exact Or.inl v1
              · refine Or.inr ⟨v1, j, by omega, ?_⟩
                rw [up1_ne (by omega)]; exact v3
          · by_cases y : j = q
            · rw [y, up1_eq]
              exact ⟨k, by omega, rfl, gk, by rw [up1_eq]⟩
            · rw [up1_ne y]
              obtain ⟨p, p1, p2, p3, p4⟩ := j4 j (by omega)
              refine ⟨p, p1, p2, p3, ?_⟩
              by_cases v : p = k
              · rw [v, up1_eq]
              · rw [up1_ne v]; exact p4
          · by_cases v : i = k
            · rw [← v, up1_eq]
            · rw [up1_ne v]; exact j5) (by omega) (by
          simp (disch := decide) only [ix_0, ix_1, ix_2, ix_3, ix_4, ix_5, ix_6, ix_7, ix_8, ix_9, ix_10, ix_11, ix_12, ix_13, ix_14, ix_15, ix_16, ix_17, ix_18, ix_19, ix_20, ix_21, Nat.reduceAdd, wI_c, wI_ne, wL_1, lupd_ne, up1_eq, up1_ne]
          rw [up1_ne (by omega)]; exact ex) (fun j p p' h1 h2 h3 h4 h5 => by
          simp (disch := decide) only [ix_0, ix_1, ix_2, ix_3, ix_4, ix_5, ix_6, ix_7, ix_8, ix_9, ix_10, ix_11, ix_12, ix_13, ix_14, ix_15, ix_16, ix_17, ix_18, ix_19, ix_20, ix_21, Nat.reduceAdd, wI_c, wI_ne, wL_1, lupd_ne, up1_eq, up1_ne] at h4 ⊢
          rw [up1_ne (by omega)] at h4
          by_cases v : p' = k
          · rw [v, up1_eq]; exact m1_ne (by omega)
          · rw [up1_ne v]; exact P j p p' h1 h2 h3 h4 h5) (fun p hp h5 => by
          simp (disch := decide) only [ix_0, ix_1, ix_2, ix_3, ix_4, ix_5, ix_6, ix_7, ix_8, ix_9, ix_10, ix_11, ix_12, ix_13, ix_14, ix_15, ix_16, ix_17, ix_18, ix_19, ix_20, ix_21, Nat.reduceAdd, wI_c, wI_ne, wL_1, lupd_ne, up1_eq, up1_ne]
          by_cases v : p = k
          · rw [v, up1_eq]; exact m1_ne (by omega)
          · rw [up1_ne v]; exact K p (by omega) h5)
        refine ⟨s', q', ?_, a2, a3, a4, a5⟩
        rw [← a1, fSheet_joinLine_h39, R1.1, if_pos lt, if_pos kb, kx, if_pos z, if_pos xb, xx, ex, u1, bd1_some, if_neg (show ¬ cI 1 = 0 by decide), if_pos kb]
        unfold fSheet_joinLine_b100
        simp (disch := decide) only [ltM_eq, ix_0, ix_1, ix_2, ix_3, ix_4, ix_5, ix_6, ix_7, ix_8, ix_9, ix_10, ix_11, ix_12, ix_13, ix_14, ix_15, ix_16, ix_17, ix_18, ix_19, ix_20, ix_21, Nat.reduceAdd, wI_c, wI_ne, wL_1, lupd_ne, up1_eq, up1_ne, j1, if_pos qb, qx, q_s (show q < 99999 by omega), q_s (show k < 99999 by omega)]
      · obtain ⟨s', q', a1, a2, a3, a4, a5⟩ := ih m (k + 1) q s (by omega) (by omega) F J hx ex P (fun p hp h5 => by
          by_cases v : p = k
          · rw [v] at h5
            exact absurd ((nrP.kC F).mpr h5) u2
          · exact K p (by omega) h5)
        refine ⟨s', q', ?_, a2, a3, a4, a5⟩
        rw [← a1, fSheet_joinLine_h39, R1.1, if_pos lt, if_pos kb, kx, if_pos z, if_pos xb, xx, ex, u1, bd1_some, if_pos (show cI 0 = 0 from rfl)]
        unfold fSheet_joinLine_b100
        rw [q_s (by omega)]
    · obtain ⟨s', q', a1, a2, a3, a4, a5⟩ := ih m (k + 1) q s (by omega) (by omega) F J hx ex P (fun p hp h5 => by
        by_cases v : p = k
        · rw [v]; exact z
        · exact K p (by omega) h5)
      refine ⟨s', q', ?_, a2, a3, a4, a5⟩
      rw [← a1, fSheet_joinLine_h39, R1.1, if_pos lt, if_pos kb, kx, if_neg z]
      unfold fSheet_joinLine_b100
      rw [q_s (by omega)]
theorem jl_qu {w h n i : Nat} {g : Nat → Nat} {s0 t : ev_M} (hh : h ≤ 4096) (R : Rpt w h n s0 t) (eq : ∀ a b, a < n → b < n → nrP s0 a b → g a = g b) (hi : i < n) : ∀ (r m x q : Nat) (s : ev_M), n + 1 ≤ x + r → r < m → fr FjlC s0 s → Jq n i g q s → x ≤ q → Jp n x s0 s → ∃ (s' : ev_M) (q' : Nat), fSheet_joinLine_h21 m s (cI (rkN g i : Int)) (cI (x : Int)) = some s' ∧ Jq n i g q' s' ∧ Jp n q' s0 s' ∧ fr FjlC s0 s' := by
  intro r
  induction r with
  | zero =>
    intro m x q s h1 hm F J hx P
    have := J.2.1
    omega
  | succ r ih =>
    intro m x q s h1 hm F J hx P
    obtain ⟨m, rfl⟩ : ∃ k, m = k + 1 := ⟨m - 1, by omega⟩
    have r3 := R.2.2.1
    obtain ⟨j1, j2, j3, j4, j5⟩ := id J
    by_cases z : x < q
    · obtain ⟨px, p1, p2, p3, p4⟩ := j4 x z
      obtain ⟨s1, q1, a1, a2, a3, a4, a5⟩ := jl_in (k21 := fSheet_joinLine_h21 m) hh R eq hi p1 n 1048576 0 q s (by omega) (by omega) F J z p2 P (fun p hp => absurd hp (Nat.not_lt_zero _))
      obtain ⟨s', q', b1, b2, b3, b4⟩ := ih m (x + 1) q1 s1 (by omega) (by omega) a5 a2 a3 a4
      refine ⟨s', q', ?_, b2, b3, b4⟩
      rw [fSheet_joinLine_h21, j1, if_pos ((q_lt (by omega) (by omega)).mpr z), if_pos (by rw [lt_i, q_ti (by omega), show (cI 200).toInt = 200 from rfl]; omega)]
      exact a1.trans b1
    · have xq : x = q := by omega
      subst xq
      refine ⟨s, x, ?_, J, P, F⟩
      rw [fSheet_joinLine_h21, j1, if_neg (by rw [q_lt (by omega) (by omega)]; omega)]
/-- lines given so far: those of the roots below k -/
def Jl (n k : Nat) (g : Nat → Nat) (s : ev_M) : Prop := ∀ p, p < n → (g p < k → s.1 60 p = cI (rkN g (g p) : Int)) ∧ (k ≤ g p → s.1 60 p = cI (-1))
theorem jl_ok {w h n i : Nat} {g : Nat → Nat} {s0 s t : ev_M} (hh : h ≤ 4096) (R : Rpt w h n s0 t) (eq : ∀ a b, a < n → b < n → nrP s0 a b → g a = g b) (cl : ∀ (i : Nat) (S : Nat → Prop), S i → (∀ a b, a < n → b < n → S a → nrP s0 a b → S b) → ∀ j, j < n → g j = i → S j) (hi : i < n) (gi : g i = i) (F : fr FjlC s0 s) (J : Jl n i g s) : ∃ s', fSheet_joinLine s (cI (i : Int)) (cI (rkN g i : Int)) = some s' ∧ Jl n (i + 1) g s' ∧ fr FjlC s0 s' := by
  have r3 := R.2.2.1
  have ib : inb (cI (i : Int)) 200 = true := q_in (by omega) (by decide)
  have ixx : ix (cI (i : Int)) = i := q_ix (by omega)
  have li : rkN g i < 200 := Nat.lt_of_le_of_lt (rkN_le i) (by omega)
  have zi : s.1 60 i = cI (-1) := (J i hi).2 (by omega)
  have cp := cntE_pos (f := s.1 60) (k := i) (x := cI (-1)) zi n hi
  have cu := cntE_un (f := s.1 60) (k := i) (x := cI (-1)) (y := cI (rkN g i : Int)) zi (m1_ne (by omega)) n hi
  have cl0 := cntE_le (f := s.1 60) (x := cI (-1)) n
  have F1 : fr FjlC s0 (wI (wI (wI s 54 0 (cI (i : Int))) 52 8 (cI 1)) 60 i (cI (rkN g i : Int))) := ((F.wI rfl).wI rfl).wI rfl
  obtain ⟨s', q', a1, a2, a3, a4⟩ := jl_qu hh R eq hi (n + 1) 1048576 0 1 _ (by omega) (by omega) F1 (by
    refine ⟨?_, ?_, fun p hp => ?_, fun j hj => ?_, ?_⟩ <;> simp (disch := decide) only [ix_0, ix_1, ix_2, ix_3, ix_4, ix_5, ix_6, ix_7, ix_8, ix_9, ix_10, ix_11, ix_12, ix_13, ix_14, ix_15, ix_16, ix_17, ix_18, ix_19, ix_20, ix_21, Nat.reduceAdd, wI_c, wI_ne, wL_1, lupd_ne, up1_eq, up1_ne]
    · rfl
    · omega
    · obtain ⟨b1, b2⟩ := J p hp
      by_cases y : p = i
      · rw [y, up1_eq]
        refine ⟨fun v => by omega, fun v => by omega, fun _ => Or.inr ⟨rfl, 0, by omega, ?_⟩⟩
        rw [up1_eq]
      · rw [up1_ne y]
        exact ⟨b1, fun v => b2 (by omega), fun v => Or.inl (b2 (by omega))⟩
    · obtain rfl : j = 0 := by omega
      simp only [up1_eq]
      exact ⟨i, hi, rfl, gi, up1_eq⟩) (by omega) (fun j p p' hj => absurd hj (Nat.not_lt_zero _))
  obtain ⟨j1, j2, j3, j4, j5⟩ := id a2
  refine ⟨s', ?_, fun p hp => ?_, a4⟩
  · rw [← a1]
    unfold fSheet_joinLine
    rw [ltM_eq, ltM_eq, if_pos ib, ltM_eq, ix_0, ixx]
    rfl
  · obtain ⟨b1, b2, b3⟩ := j3 p hp
    refine ⟨fun v => ?_, fun v => b2 (by omega)⟩
    by_cases y : g p = i
    · have S := cl i (fun p => p < n ∧ g p = i → s'.1 60 p = cI (rkN g i : Int)) (fun _ => j5) (fun a b ha hb Sa hn hb2 => by
        have ga : g a = i := by rw [eq a b ha hb hn]; exact hb2.2
        rcases (j3 a ha).2.2 ga with u | ⟨u, j, u1, u2⟩
        · rw [Sa ⟨ha, ga⟩] at u; exact absurd u (m1_ne (by omega))
        · rcases (j3 b hb).2.2 hb2.2 with v | ⟨v, -⟩
          · exact absurd v (a3 j a b u1 ha hb u2 hn)
          · exact v) p hp y ⟨hp, y⟩
      rw [S, y]
    · exact b1 (by omega)
theorem jl_lp {w h n : Nat} {g : Nat → Nat} {s0 t : ev_M} (hh : h ≤ 4096) (R : Rpt w h n s0 t) (eq : ∀ a b, a < n → b < n → nrP s0 a b → g a = g b) (cl : ∀ (i : Nat) (S : Nat → Prop), S i → (∀ a b, a < n → b < n → S a → nrP s0 a b → S b) → ∀ j, j < n → g j = i → S j) (gl : ∀ p, p < n → g p ≤ p) (gg : ∀ p, p < n → g (g p) = g p) : ∀ (r m k : Nat) (s : ev_M), k + r = n → r < m → fr FjlC s0 s → Jl n k g s → ∃ s', fSheet_joinLines_h12 m s (cI (rkN g k : Int)) (cI (k : Int)) = some s' ∧ Jl n n g s' ∧ fr FjlC s0 s'
  | 0, m, k, s, hk, hm, F, J => by
    obtain ⟨m, rfl⟩ : ∃ k, m = k + 1 := ⟨m - 1, by omega⟩
    have r3 := R.2.2.1
    have e : k = n := by omega
    subst e
    refine ⟨s, ?_, J, F⟩
    rw [fSheet_joinLines_h12, (R.kC F).1, if_neg (by rw [q_lt (by omega) (by omega)]; omega)]
  | r + 1, m, k, s, hk, hm, F, J => by
    obtain ⟨m, rfl⟩ : ∃ k, m = k + 1 := ⟨m - 1, by omega⟩
    have r3 := R.2.2.1
    have kb : inb (cI (k : Int)) 200 = true := q_in (by omega) (by decide)
    have kx : ix (cI (k : Int)) = k := q_ix (by omega)
    have lt : cI (k : Int) < cI (n : Int) := (q_lt (by omega) (by omega)).mpr (by omega)
    have lk : rkN g k < 200 := Nat.lt_of_le_of_lt (rkN_le k) (by omega)
    have gk := gl k (by omega)
    by_cases z : g k = k
    · obtain ⟨s1, a1, a2, a3⟩ := jl_ok hh R eq cl (show k < n by omega) z F J
      have e1 : rkN g (k + 1) = rkN g k + 1 := by simp only [rkN, if_pos z]
      obtain ⟨s', b1, b2, b3⟩ := jl_lp hh R eq cl gl gg r m (k + 1) s1 (by omega) (by omega) a3 a2
      refine ⟨s', ?_, b2, b3⟩
      rw [fSheet_joinLines_h12, (R.kC F).1, if_pos lt, if_pos kb, kx, if_pos ((J k (by omega)).2 (by omega)), a1, bd1_some]
      unfold fSheet_joinLines_b39
      rw [q_s (by omega), q_s (by omega), ← e1]
      exact b1
    · have e1 : rkN g (k + 1) = rkN g k := by simp only [rkN, if_neg z, Nat.add_zero]
      obtain ⟨s', b1, b2, b3⟩ := jl_lp hh R eq cl gl gg r m (k + 1) s (by omega) (by omega) F (fun p hp => by
        refine ⟨fun v => ?_, fun v => (J p hp).2 (by omega)⟩
        have : ¬ g p = k := fun u => z (by rw [← u]; exact gg p hp)
        exact (J p hp).1 (by omega))
      refine ⟨s', ?_, b2, b3⟩
      have nk : ¬ s.1 60 k = cI (-1) := by
        rw [(J k (by omega)).1 (by omega)]
        exact m1_ne (Nat.lt_of_le_of_lt (rkN_le _) (by omega))
      rw [fSheet_joinLines_h12, (R.kC F).1, if_pos lt, if_pos kb, kx, if_neg nk]
      unfold fSheet_joinLines_b39
      rw [q_s (by omega), ← e1]
      exact b1
/-- the class's lines: one for each root, in the order of the roots -/
theorem join_ok {w h n : Nat} {g : Nat → Nat} {s t : ev_M} (hh : h ≤ 4096) (R : Rpt w h n s t) (eq : ∀ a b, a < n → b < n → nrP s a b → g a = g b) (cl : ∀ (i : Nat) (S : Nat → Prop), S i → (∀ a b, a < n → b < n → S a → nrP s a b → S b) → ∀ j, j < n → g j = i → S j) (gl : ∀ p, p < n → g p ≤ p) (gg : ∀ p, p < n → g (g p) = g p) : ∃ s', fSheet_joinLines s = some s' ∧ (∀ p, p < n → s'.1 60 p = cI (rkN g (g p) : Int)) ∧ fr FjlC s s' := by
  have r3 := R.2.2.1
  have F1 : fr FjlC s (wR s 60 0 200 (fun _ => cI (-1))) := (fr_fArr_fillI_60 (e_fArr_fillI_60 s (cI (-1)))).mono (by decide +kernel)
  obtain ⟨s', a1, a2, a3⟩ := jl_lp hh R eq cl gl gg n 1048576 0 (wR s 60 0 200 (fun _ => cI (-1))) (by omega) (by omega) F1 (fun p hp => ⟨fun v => absurd v (Nat.not_lt_zero _), fun _ => by rw [wR_1, if_pos ⟨rfl, Nat.zero_le _, by omega⟩]⟩)
  refine ⟨s', ?_, fun p hp => (a2 p hp).1 (by have := gl p hp; omega), a3⟩
  unfold fSheet_joinLines
  rw [e_fArr_fillI_60, bd1_some]
  exact a1
