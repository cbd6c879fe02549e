/-! ===== LEVEL 3: the sheet: the reference lays a line ===== -/
/-- parts and lines, class and reference -/
def Lc (w h n : Nat) (g : Nat → Nat) (s t : ev_M) : Prop := Dim w h s t ∧ Ink (w * h) s t ∧ Rpt w h n s t ∧ Tps n s ∧ (∀ p, p < n → s.1 60 p = cI (rkN g (g p) : Int)) ∧ (∀ p, p < n → t.1 656 p = cI (g p : Int) ∧ g p ≤ p ∧ g (g p) = g p) ∧ ∀ r r', r < r' → r' < n → g r = r → g r' = r' → (s.1 57 r).toInt < (s.1 57 r').toInt
def FlyM : List (Nat × (Nat × Nat)) := [(549, 549, 52), (577, 577, 0), (578, 582, 0)]
theorem Lc.kM {w h n : Nat} {g : Nat → Nat} {s t t' : ev_M} (H : Lc w h n g s t) (h' : fr FlyM t t') : Lc w h n g s t' := by
  obtain ⟨⟨⟨d1, d2, d3, d4⟩, d5⟩, I, ⟨r1, r2, r3, r4⟩, T, h1, h2, h3⟩ := H
  refine ⟨⟨⟨d1, d2, ?_, ?_⟩, d5⟩, fun q hq => ?_, ⟨r1, ?_, r3, fun p hp => ?_⟩, T, h1, fun p hp => ?_, h3⟩
  · rw [(h'.1 549 152 rfl).1]; exact d3
  · rw [(h'.1 549 153 rfl).1]; exact d4
  · rw [(h'.1 649 q rfl).1]; exact I q hq
  · rw [(h'.1 549 146 rfl).1]; exact r2
  · rw [(h'.1 652 p rfl).1, (h'.1 653 p rfl).1, (h'.1 654 p rfl).1, (h'.1 655 p rfl).1]; exact r4 p hp
  · rw [(h'.1 656 p rfl).1]; exact h2 p hp
theorem Lc.ky {w h n : Nat} {g : Nat → Nat} {s t : ev_M} (H : Lc w h n g s t) : KyB n s := fun a ha => by
  obtain ⟨⟨⟨d1, d2, d3, d4⟩, d5, d6, d7, d8, d9⟩, I, ⟨r1, r2, r3, r4⟩, T, h1, h2, h3⟩ := H
  obtain ⟨l, tp, c, d, ⟨a1, a2, a3, a4⟩, -, hl, ht, hc, hd⟩ := r4 a ha
  have q1 := rkN_le (g := g) (g a)
  have q2 := (h2 a ha).2.1
  exact ⟨rkN g (g a), l, tp, by omega, by omega, by omega, h1 a ha, a1, a2⟩
theorem e_isb {w h n a b : Nat} {g : Nat → Nat} {s t : ev_M} (H : Lc w h n g s t) (ha : a < n) (hb : b < n) (hg : g b = g a) : fM_isBefore t (cI (b : Int)) (cI (a : Int)) = if rcn (kyP s) a b = 1 then some (cI 1) else some (cI 0) := by
  have K := H.ky
  obtain ⟨⟨⟨d1, d2, d3, d4⟩, d5, d6, d7, d8, d9⟩, I, ⟨r1, r2, r3, r4⟩, T, h1, h2, h3⟩ := H
  obtain ⟨l, tp, c, d, ⟨a1, a2, -, -⟩, ⟨b1, b2, -, -⟩, hl, ht, hc, hd⟩ := r4 a ha
  obtain ⟨l', tp', c', d', ⟨a1', a2', -, -⟩, ⟨b1', b2', -, -⟩, hl', ht', hc', hd'⟩ := r4 b hb
  have q1 := rkN_le (g := g) (g a)
  have q2 := (h2 a ha).2.1
  have ka := kyP_i (n := n) (a := a) (s := s) (show rkN g (g a) < 200 by omega) (show l < 128 by omega) (show tp < 4096 by omega) (h1 a ha) a1 a2
  have kb := kyP_i (n := n) (a := b) (s := s) (show rkN g (g a) < 200 by omega) (show l' < 128 by omega) (show tp' < 4096 by omega) (by rw [h1 b hb, hg]) a1' a2'
  have ab : inb (cI (a : Int)) 200 = true := q_in (by omega) (by decide)
  have bb : inb (cI (b : Int)) 200 = true := q_in (by omega) (by decide)
  have ax : ix (cI (a : Int)) = a := q_ix (by omega)
  have bx : ix (cI (b : Int)) = b := q_ix (by omega)
  have el : (cI (l' : Int) = cI (l : Int)) ↔ l' = l := by rw [eq_i, q_ti (by omega), q_ti (by omega)]; omega
  have et : (cI (tp' : Int) = cI (tp : Int)) ↔ tp' = tp := by rw [eq_i, q_ti (by omega), q_ti (by omega)]; omega
  have ll : (cI (l' : Int) < cI (l : Int)) ↔ l' < l := q_lt (by omega) (by omega)
  have lt : (cI (tp' : Int) < cI (tp : Int)) ↔ tp' < tp := q_lt (by omega) (by omega)
  have lx : (cI (b : Int) < cI (a : Int)) ↔ b < a := q_lt (by omega) (by omega)
  have hr : rcn (kyP s) a b = 1 ↔ (l' < l ∨ l' = l ∧ (tp' < tp ∨ tp' = tp ∧ b < a)) := by
    unfold rcn
    rw [ka, kb]
    generalize rkN g (g a) = L
    by_cases z : l' < l ∨ l' = l ∧ (tp' < tp ∨ tp' = tp ∧ b < a)
    · rw [if_pos (by omega)]; exact ⟨fun _ => z, fun _ => rfl⟩
    · rw [if_neg (by omega)]; exact ⟨fun u => absurd u (by decide), fun u => absurd u z⟩
  unfold fM_isBefore
  simp only [if_pos ab, if_pos bb, ax, bx, b1, b2, b1', b2']
  by_cases z1 : l' = l
  · rw [if_pos (el.mpr z1)]
    by_cases z2 : tp' = tp
    · rw [if_pos (et.mpr z2)]
      by_cases z3 : b < a
      · rw [if_pos (lx.mpr z3), if_pos (hr.mpr (Or.inr ⟨z1, Or.inr ⟨z2, z3⟩⟩))]
      · rw [if_neg (fun u => z3 (lx.mp u)), if_neg (fun u => by have := hr.mp u; omega)]
    · rw [if_neg (fun u => z2 (et.mp u))]
      by_cases z3 : tp' < tp
      · rw [if_pos (lt.mpr z3), if_pos (hr.mpr (Or.inr ⟨z1, Or.inl z3⟩))]
      · rw [if_neg (fun u => z3 (lt.mp u)), if_neg (fun u => by have := hr.mp u; omega)]
  · rw [if_neg (fun u => z1 (el.mp u))]
    by_cases z3 : l' < l
    · rw [if_pos (ll.mpr z3), if_pos (hr.mpr (Or.inl z3))]
    · rw [if_neg (fun u => z3 (ll.mp u)), if_neg (fun u => by have := hr.mp u; omega)]
/-- one part of a line before another of it -/
def bfR (g : Nat → Nat) (s : ev_M) (a b : Nat) : Int32 := if g b = g a ∧ rcn (kyP s) a b = 1 then 1 else 0
/-- a part of the lines before -/
def blw (g : Nat → Nat) (r b : Nat) : Int32 := if g b < r then 1 else 0
theorem rc_sum {w h n a : Nat} {g : Nat → Nat} {s t : ev_M} (H : Lc w h n g s t) (ha : a < n) : ∀ k, k ≤ n → cntE (blw g (g a)) 1 k + cntE (bfR g s a) 1 k = cntE (rcn (kyP s) a) 1 k
  | 0, _ => rfl
  | k + 1, hk => by
    have ih := rc_sum H ha k (by omega)
    have K := H.ky
    obtain ⟨-, -, ⟨-, -, r3, r4⟩, -, h1, h2, -⟩ := H
    obtain ⟨L, x, y, a1, a2, a3, a4, a5, a6⟩ := K a ha
    obtain ⟨M, u, v, b1, b2, b3, b4, b5, b6⟩ := K k (by omega)
    have ka := kyP_i (n := n) a1 a2 a3 a4 a5 a6
    have kb := kyP_i (n := n) b1 b2 b3 b4 b5 b6
    have eL : L = rkN g (g a) := by
      have e := h1 a ha
      have := rkN_le (g := g) (g a)
      have := (h2 a ha).2.1
      rw [a4, eq_i, q_ti (by omega), q_ti (by omega)] at e
      omega
    have eM : M = rkN g (g k) := by
      have e := h1 k (by omega)
      have := rkN_le (g := g) (g k)
      have := (h2 k (by omega)).2.1
      rw [b4, eq_i, q_ti (by omega), q_ti (by omega)] at e
      omega
    have s1 : ∀ (P : Nat → Int32), cntE P 1 (k + 1) = cntE P 1 k + (if P k = 1 then 1 else 0) := fun P => by
      simp only [cntE]
    rw [s1, s1, s1]
    have n01 : ¬ (0 : Int32) = 1 := by decide
    rcases Nat.lt_trichotomy (g k) (g a) with z | z | z
    · have lm : M < L := by rw [eL, eM]; exact rkN_lt z (h2 k (by omega)).2.2
      have e1 : blw g (g a) k = 1 := by unfold blw; rw [if_pos z]
      have e2 : bfR g s a k = 0 := by unfold bfR; rw [if_neg (fun u => by omega)]
      have e3 : rcn (kyP s) a k = 1 := by unfold rcn; rw [ka, kb, if_pos (by omega)]
      rw [e1, e2, e3, if_pos rfl, if_neg n01]
      omega
    · have e1 : blw g (g a) k = 0 := by unfold blw; rw [if_neg (by omega)]
      rw [e1, if_neg n01]
      by_cases y2 : rcn (kyP s) a k = 1
      · have e2 : bfR g s a k = 1 := by unfold bfR; rw [if_pos ⟨z, y2⟩]
        rw [e2, if_pos rfl, if_pos y2]
        omega
      · have e2 : bfR g s a k = 0 := by unfold bfR; rw [if_neg (fun u => y2 u.2)]
        rw [e2, if_neg n01, if_neg y2]
        omega
    · have lm : L < M := by rw [eL, eM]; exact rkN_lt z (h2 a ha).2.2
      have e1 : blw g (g a) k = 0 := by unfold blw; rw [if_neg (by omega)]
      have e2 : bfR g s a k = 0 := by unfold bfR; rw [if_neg (fun u => by omega)]
      have e3 : rcn (kyP s) a k = 0 := by unfold rcn; rw [ka, kb, if_neg (by omega)]
      rw [e1, e2, e3, if_neg n01]
      omega
/-- a part's box in the reference -/
def Bx (s t : ev_M) (P a : Nat) : Prop := t.1 578 P = s.1 56 a ∧ t.1 579 P = s.1 57 a ∧ t.1 580 P = s.1 58 a ∧ t.1 581 P = s.1 59 a ∧ (t.1 582 P).toBitVec.toNat < 2 ^ 15 ∧ fSheet_cellsOf s (cI (a : Int)) = some (t.1 582 P)
theorem ly_in {w h n a P f : Nat} {g : Nat → Nat} {s : ev_M} {k15 : ev_M → Int32 → Int32 → Int32 → Int32 → Option ev_M} (ha : a < n) (hP : P < n) (eP : f + cntE (bfR g s a) 1 n = P) : ∀ (q m x3 b : Nat) (t : ev_M), b + q = n → q < m → x3 < n → Lc w h n g s t → ∃ t', fM_lay_h41 k15 m t (cI (g a : Int)) (cI (f : Int)) (cI (x3 : Int)) (cI (a : Int)) (cI (cntE (bfR g s a) 1 b : Int)) (cI (b : Int)) = k15 t' (cI (g a : Int)) (cI (f : Int)) (cI ((x3 + 1 : Nat) : Int)) (cI ((a + 1 : Nat) : Int)) ∧ Bx s t' P a ∧ (∀ c j, 578 ≤ c → c ≤ 582 → j ≠ P → t'.1 c j = t.1 c j) ∧ fr [(578, 582, 0)] t t' := by
  intro q
  induction q with
  | zero =>
    intro m x3 b t hb hm hx H
    obtain ⟨m, rfl⟩ : ∃ k, m = k + 1 := ⟨m - 1, by omega⟩
    obtain rfl : b = n := by omega
    have r3 := H.2.2.1.2.2.1
    obtain ⟨l, tp, c, d, ⟨a1, a2, a3, a4⟩, ⟨b1, b2, b3, b4⟩, -, -, -, -⟩ := H.2.2.1.2.2.2 a ha
    have ab : inb (cI (a : Int)) 200 = true := q_in (by omega) (by decide)
    have ax : ix (cI (a : Int)) = a := q_ix (by omega)
    have pb : inb (cI (P : Int)) 200 = true := q_in (by omega) (by decide)
    have px : ix (cI (P : Int)) = P := q_ix (by omega)
    have f4 : fr [(578, 582, 0)] t (wI (wI (wI (wI t 578 P (cI (l : Int))) 579 P (cI (tp : Int))) 580 P (cI (c : Int))) 581 P (cI (d : Int))) := (((fr.rf.wI rfl).wI rfl).wI rfl).wI rfl
    have H4 := H.kM (f4.mono (G := [(578, 582, 0)]) (F := FlyM) (by decide +kernel))
    obtain ⟨v, v1, v2, v3⟩ := e_cells H4.1 H4.2.1 H4.2.2.1 ha
    refine ⟨wI (wI (wI (wI (wI t 578 P (cI (l : Int))) 579 P (cI (tp : Int))) 580 P (cI (c : Int))) 581 P (cI (d : Int))) 582 P v, ?_, ?_, fun cc j h1 h2 hj => ?_, f4.wI rfl⟩
    · rw [fM_lay_h41, H.2.2.1.2.1, if_neg (by rw [q_lt (by omega) (by omega)]; omega), q_ad (by omega), eP, ltI_eq]
      simp (disch := decide) only [ltM_eq, if_pos ab, if_pos pb, ax, px, ix_0, ix_1, ix_2, ix_3, ix_4, ix_5, ix_6, ix_7, ix_8, ix_9, ix_10, ix_11, ix_12, ix_13, ix_14, ix_15, ix_16, ix_17, ix_18, ix_19, ix_20, ix_21, Nat.reduceAdd, wI_c, wI_ne, wL_1, lupd_ne, up1_eq, up1_ne, b1, b2, b3, b4]
      rw [v3, bd1_some]
      unfold fM_lay_b174
      rw [q_s (by omega), q_s (by omega)]
    · unfold Bx
      simp (disch := decide) only [ix_0, ix_1, ix_2, ix_3, ix_4, ix_5, ix_6, ix_7, ix_8, ix_9, ix_10, ix_11, ix_12, ix_13, ix_14, ix_15, ix_16, ix_17, ix_18, ix_19, ix_20, ix_21, Nat.reduceAdd, wI_c, wI_ne, wL_1, lupd_ne, up1_eq, up1_ne]
      exact ⟨a1.symm, a2.symm, a3.symm, a4.symm, v1, v2⟩
    · simp only [wI_1, if_neg hj, ite_self]
  | succ q ih =>
    intro m x3 b t hb hm hx H
    obtain ⟨m, rfl⟩ : ∃ k, m = k + 1 := ⟨m - 1, by omega⟩
    have r3 := H.2.2.1.2.2.1
    obtain ⟨t', c1, c2, c3, c4⟩ := ih m x3 (b + 1) t (by omega) (by omega) hx H
    refine ⟨t', ?_, c2, c3, c4⟩
    rw [← c1]
    have bb : inb (cI (b : Int)) 200 = true := q_in (by omega) (by decide)
    have bx : ix (cI (b : Int)) = b := q_ix (by omega)
    have cl := cntE_le (f := bfR g s a) (x := 1) b
    have gb := (H.2.2.2.2.2.1 b (by omega)).1
    have glb := (H.2.2.2.2.2.1 b (by omega)).2.1
    have gla := (H.2.2.2.2.2.1 a ha).2.1
    have s1 : cntE (bfR g s a) 1 (b + 1) = cntE (bfR g s a) 1 b + (if bfR g s a b = 1 then 1 else 0) := by simp only [cntE]
    have n01 : ¬ (0 : Int32) = 1 := by decide
    have ge : (cI (g b : Int) = cI (g a : Int)) ↔ g b = g a := by rw [eq_i, q_ti (by omega), q_ti (by omega)]; omega
    rw [fM_lay_h41, H.2.2.1.2.1, if_pos ((q_lt (by omega) (by omega)).mpr (by omega)), if_pos bb, bx, gb]
    unfold fM_lay_b86 fM_lay_b88
    rw [q_s (show b < 99999 by omega)]
    by_cases z : g b = g a
    · rw [if_pos (ge.mpr z)]
      by_cases y : b = a
      · have e0 : bfR g s a b = 0 := by
          unfold bfR rcn
          rw [y, if_neg (fun u => by
            have := u.2
            rw [if_neg (by omega)] at this
            exact n01 this)]
        rw [if_pos (by rw [y]), s1, e0, if_neg n01, Nat.add_zero (cntE (bfR g s a) 1 b)]
      · rw [if_neg (fun u => by rw [eq_i, q_ti (by omega), q_ti (by omega)] at u; omega), e_isb H ha (show b < n by omega) z]
        by_cases x : rcn (kyP s) a b = 1
        · have e1 : bfR g s a b = 1 := by unfold bfR; rw [if_pos ⟨z, x⟩]
          rw [if_pos x, bd1_some, if_neg (show ¬ cI 1 = 0 by decide), s1, e1, if_pos rfl, q_s (by omega)]
        · have e1 : bfR g s a b = 0 := by unfold bfR; rw [if_neg (fun u => x u.2)]
          rw [if_neg x, bd1_some, if_pos (show cI 0 = 0 from rfl), s1, e1, if_neg n01, Nat.add_zero (cntE (bfR g s a) 1 b)]
    · have e1 : bfR g s a b = 0 := by unfold bfR; rw [if_neg (fun u => z u.1)]
      rw [if_neg (fun u => z (ge.mp u)), s1, e1, if_neg n01, Nat.add_zero (cntE (bfR g s a) 1 b)]
