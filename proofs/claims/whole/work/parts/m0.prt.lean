/-! ===== LEVEL 3: the sheet: its parts ===== -/
theorem q_mn {s : ev_M} {a b : Nat} (ha : a < 100000) (hb : b < 100000) : fMath_min s (cI (a : Int)) (cI (b : Int)) = some (cI ((min a b : Nat) : Int)) := by
  unfold fMath_min
  by_cases z : cI (a : Int) ≤ cI (b : Int)
  · rw [if_pos z]
    rw [le_i, q_ti ha, q_ti hb] at z
    rw [Nat.min_eq_left (by omega)]
  · rw [if_neg z]
    rw [le_i, q_ti ha, q_ti hb] at z
    rw [Nat.min_eq_right (by omega)]
theorem q_mx {s : ev_M} {a b : Nat} (ha : a < 100000) (hb : b < 100000) : fMath_max s (cI (a : Int)) (cI (b : Int)) = some (cI ((max a b : Nat) : Int)) := by
  unfold fMath_max
  by_cases z : cI (a : Int) < cI (b : Int)
  · rw [if_pos z]
    rw [q_lt ha hb] at z
    rw [Nat.max_eq_right (by omega)]
  · rw [if_neg z]
    rw [q_lt ha hb] at z
    rw [Nat.max_eq_left (by omega)]
/-- a part grows until no more hangs on it -/
theorem bf_lp {w h f : Nat} (hf : f < w * h) : ∀ (r m m' x q l rr tp bt : Nat) (s t : ev_M), w * h + 1 - x ≤ r → r < m → r < m' → x ≤ q → 1 ≤ q → Flo w h f q s t → (x = 0 → s.1 54 0 = cI (f : Int)) → (x = 0 ∧ tp = h ∨ tp = f / w) → l ≤ w → rr < w → bt < h → (0 < x → l ≤ rr ∧ f / w ≤ bt) → ∃ (s' t' : ev_M) (q' l' r' b' : Nat), Flo w h f q' s' t' ∧ fSheet_takePart_h38 m s (cI (l : Int)) (cI (rr : Int)) (cI (tp : Int)) (cI (bt : Int)) (cI (x : Int)) = fSheet_takePart_b131 s' (cI (l' : Int)) (cI (r' : Int)) (cI ((f / w : Nat) : Int)) (cI (b' : Int)) ∧ fM_part_h30 m' t (cI (f : Int)) (cI (x : Int)) (cI (q : Int)) (cI (l : Int)) (cI (rr : Int)) (cI (bt : Int)) = fM_part_h30 1 t' (cI (f : Int)) (cI (q' : Int)) (cI (q' : Int)) (cI (l' : Int)) (cI (r' : Int)) (cI (b' : Int)) ∧ l' ≤ r' ∧ r' < w ∧ f / w ≤ b' ∧ b' < h ∧ fr FflC s s' ∧ fr FflM t t' := by
  intro r
  induction r with
  | zero =>
    intro m m' x q l rr tp bt s t h1 hm hm' hxq hq F h0 ht hl hr hb hlr
    have := F.2.2.2.1
    omega
  | succ r ih =>
    intro m m' x q l rr tp bt s t h1 hm hm' hxq hq F h0 ht hl hr hb hlr
    obtain ⟨m, rfl⟩ : ∃ k, m = k + 1 := ⟨m - 1, by omega⟩
    obtain ⟨m', rfl⟩ : ∃ k, m' = k + 1 := ⟨m' - 1, by omega⟩
    obtain ⟨⟨⟨d1, d2, d3, d4⟩, d5, d6, d7, d8, d9⟩, S, e8, c1, Q, N⟩ := id F
    by_cases z : x < q
    · obtain ⟨p, p1, p2, p3, p4⟩ := Q x z
      have pw : p % w < w := Nat.mod_lt _ (by omega)
      have ph : p / w < h := Nat.div_lt_of_lt_mul p1
      have pf : f / w ≤ p / w := Nat.div_le_div_right p2
      obtain ⟨s1, t1, q1, F1, l1, a1, a2, a3, a4⟩ := tn_ok F pw ph
      have nw : ¬ cI (w : Int) = 0 := fun u => by rw [eq_i, q_ti (by omega), i32_0] at u; omega
      have e4096 : (cI 4096).toInt = 4096 := rfl
      have xb : inb (cI (x : Int)) 4096 = true := q_in (by omega) (by decide)
      have xx : ix (cI (x : Int)) = x := q_ix (by omega)
      have tpn : min tp (p / w) = f / w := by
        rcases ht with ⟨u1, u2⟩ | u
        · have e := h0 u1
          rw [u1, e] at p3
          have pe : p = f := by
            rw [eq_i, q_ti (by omega), q_ti (by omega)] at p3
            omega
          rw [u2, pe, Nat.min_eq_right]
          rw [← pe]; omega
        · rw [u, Nat.min_eq_left pf]
      have tph : tp < 100000 := by
        rcases ht with ⟨-, u⟩ | u
        · omega
        · omega
      obtain ⟨s', t', q', l', r', b', b0, b1, b2, b3, b4, b5, b6, b7, b8⟩ := ih m m' (x + 1) q1 (min l (p % w)) (max rr (p % w)) (f / w) (max bt (p / w)) s1 t1 (by omega) (by omega) (by omega) (by omega) (by omega) F1 (fun u => by omega) (Or.inr rfl) (Nat.le_trans (Nat.min_le_left _ _) hl) (Nat.max_lt.mpr ⟨hr, pw⟩) (Nat.max_lt.mpr ⟨hb, ph⟩) (fun _ => ⟨Nat.le_trans (Nat.min_le_right _ _) (Nat.le_max_right _ _), Nat.le_trans pf (Nat.le_max_right _ _)⟩)
      refine ⟨s', t', q', l', r', b', b0, ?_, ?_, b3, b4, b5, b6, a3.tr b7, a4.tr b8⟩
      · rw [fSheet_takePart_h38, e8, if_pos ((q_lt (by omega) (by omega)).mpr z), if_pos (by rw [lt_i, q_ti (by omega), e4096]; omega), if_pos xb, d1, if_neg nw, ltI_eq, xx, p3, q_rem (by omega) (by omega) (by omega), if_pos xb, if_neg nw, ltI_eq, q_div (by omega) (by omega) (by omega), q_mn (by omega) (by omega), bd1_some, q_mx (by omega) (by omega), bd1_some, q_mn tph (by omega), bd1_some, q_mx (by omega) (by omega), bd1_some, a1, bd1_some, tpn, q_s (by omega)]
        exact b1
      · rw [fM_part_h30, if_pos ((q_lt (by omega) (by omega)).mpr z), if_pos xb, d3, if_neg nw, ltI_eq, xx, p4, q_rem (by omega) (by omega) (by omega), if_pos xb, if_neg nw, ltI_eq, q_div (by omega) (by omega) (by omega), q_s (by omega)]
        have key : ∀ (L : Int32), fM_part_b78 (fM_part_h30 m') t (cI (f : Int)) (cI ((x + 1 : Nat) : Int)) (cI (q : Int)) (cI (rr : Int)) (cI (bt : Int)) (cI ((p % w : Nat) : Int)) (cI ((p / w : Nat) : Int)) L = fM_part_h30 m' t1 (cI (f : Int)) (cI ((x + 1 : Nat) : Int)) (cI (q1 : Int)) L (cI ((max rr (p % w) : Nat) : Int)) (cI ((max bt (p / w) : Nat) : Int)) := by
          intro L
          unfold fM_part_b78 fM_part_b94 fM_part_b110
          by_cases y1 : cI ((p % w : Nat) : Int) ≤ cI (rr : Int)
          · rw [if_pos y1]
            rw [le_i, q_ti (by omega), q_ti (by omega)] at y1
            rw [Nat.max_eq_left (show p % w ≤ rr by omega)]
            by_cases y2 : cI ((p / w : Nat) : Int) ≤ cI (bt : Int)
            · rw [if_pos y2]
              rw [le_i, q_ti (by omega), q_ti (by omega)] at y2
              rw [Nat.max_eq_left (show p / w ≤ bt by omega)]
              exact a2 _ _ _ _ _ _
            · rw [if_neg y2]
              rw [le_i, q_ti (by omega), q_ti (by omega)] at y2
              rw [Nat.max_eq_right (show bt ≤ p / w by omega)]
              exact a2 _ _ _ _ _ _
          · rw [if_neg y1]
            rw [le_i, q_ti (by omega), q_ti (by omega)] at y1
            rw [Nat.max_eq_right (show rr ≤ p % w by omega)]
            by_cases y2 : cI ((p / w : Nat) : Int) ≤ cI (bt : Int)
            · rw [if_pos y2]
              rw [le_i, q_ti (by omega), q_ti (by omega)] at y2
              rw [Nat.max_eq_left (show p / w ≤ bt by omega)]
              exact a2 _ _ _ _ _ _
            · rw [if_neg y2]
              rw [le_i, q_ti (by omega), q_ti (by omega)] at y2
              rw [Nat.max_eq_right (show bt ≤ p / w by omega)]
              exact a2 _ _ _ _ _ _
        rw [key, key, ← b2]
        by_cases y : cI ((p % w : Nat) : Int) < cI (l : Int)
        · rw [if_pos y]
          rw [q_lt (by omega) (by omega)] at y
          rw [Nat.min_eq_right (show p % w ≤ l by omega)]
        · rw [if_neg y]
          rw [q_lt (by omega) (by omega)] at y
          rw [Nat.min_eq_left (show l ≤ p % w by omega)]
    · have xq : x = q := by omega
      subst xq
      obtain ⟨u1, u2⟩ := hlr (by omega)
      have tpe : tp = f / w := by
        rcases ht with ⟨v, -⟩ | v
        · omega
        · exact v
      refine ⟨s, t, x, l, rr, bt, F, ?_, ?_, u1, hr, u2, hb, fr.rf, fr.rf⟩
      · rw [fSheet_takePart_h38, e8, if_neg (by rw [q_lt (by omega) (by omega)]; omega), tpe]
      · have hc : ¬ cI (x : Int) < cI (x : Int) := by rw [q_lt (by omega) (by omega)]; omega
        have k : ∀ n, fM_part_h30 (n + 1) t (cI (f : Int)) (cI (x : Int)) (cI (x : Int)) (cI (l : Int)) (cI (rr : Int)) (cI (bt : Int)) = fM_part_h30 (0 + 1) t (cI (f : Int)) (cI (x : Int)) (cI (x : Int)) (cI (l : Int)) (cI (rr : Int)) (cI (bt : Int)) := fun n => by
          rw [fM_part_h30, if_neg hc]
          symm
          rw [fM_part_h30, if_neg hc]
        exact k m'
/-- the first pixel is taken -/
theorem fl_in {w h f : Nat} {s t : ev_M} (D : Dim w h s t) (S : Shd (w * h) s t) (hf : f < w * h) (h1 : s.1 53 f = cI 1) (N : ∀ k, k < f → k < w * h → ¬ s.1 53 k = cI 1) : Flo w h f 1 (wI (wI (wI s 54 0 (cI (f : Int))) 52 8 (cI 1)) 53 f (cI 2)) (wI (wI t 651 0 (cI (f : Int))) 650 f (cI 1)) := by
  obtain ⟨⟨d1, d2, d3, d4⟩, d5, d6, d7, d8, d9⟩ := D
  have cp := cntE_pos (f := s.1 53) (k := f) (x := cI 1) h1 (w * h) hf
  have cu := cntE_un (f := s.1 53) (k := f) (x := cI 1) (y := cI 2) h1 (by decide) (w * h) hf
  have cl := cntE_le (f := s.1 53) (x := cI 1) (w * h)
  refine ⟨⟨⟨?_, ?_, ?_, ?_⟩, d5, d6, d7, d8, d9⟩, fun p hp => ?_, ?_, ?_, fun j hj => ?_, fun p h2 h3 => ?_⟩ <;> simp (disch := decide) only [ix_0, ix_1, ix_2, ix_3, ix_4, ix_5, ix_6, ix_7, ix_8, ix_9, ix_10, ix_11, ix_12, ix_13, ix_14, ix_15, ix_16, ix_17, ix_18, ix_19, ix_20, ix_21, Nat.reduceAdd, wI_c, wI_ne, wL_1, lupd_ne, up1_eq, up1_ne]
  · exact d1
  · exact d2
  · exact d3
  · exact d4
  · by_cases z : p = f
    · rw [z, up1_eq, up1_eq]
      rcases S f hf with ⟨u, -⟩ | ⟨-, u, -⟩ | ⟨u, -⟩
      · rw [h1] at u; exact absurd u (by decide)
      · exact Or.inr (Or.inr ⟨rfl, u, rfl⟩)
      · rw [h1] at u; exact absurd u (by decide)
    · rw [up1_ne z, up1_ne z]; exact S p hp
  · rfl
  · omega
  · obtain rfl : j = 0 := by omega
    simp only [up1_eq]
    exact ⟨f, hf, Nat.le_refl _, rfl, rfl⟩
  · by_cases z : p = f
    · rw [z, up1_eq]; decide
    · rw [up1_ne z]; exact N p (by omega) h3
/-- the parts found: class and reference -/
def Rpt (w h np : Nat) (s t : ev_M) : Prop := s.1 52 9 = cI (np : Int) ∧ t.1 549 146 = cI (np : Int) ∧ np ≤ 200 ∧ ∀ p, p < np → ∃ a b c d : Nat, (s.1 56 p = cI (a : Int) ∧ s.1 57 p = cI (b : Int) ∧ s.1 58 p = cI (c : Int) ∧ s.1 59 p = cI (d : Int)) ∧ (t.1 652 p = cI (a : Int) ∧ t.1 653 p = cI (b : Int) ∧ t.1 654 p = cI (c : Int) ∧ t.1 655 p = cI (d : Int)) ∧ a + c ≤ w ∧ b + d ≤ h ∧ 0 < c ∧ 0 < d
def FptC : List (Nat × (Nat × Nat)) := [(53, 53, 0), (54, 54, 0), (52, 52, 9), (52, 52, 10), (56, 59, 0)]
def FptM : List (Nat × (Nat × Nat)) := [(650, 650, 0), (651, 651, 0), (549, 549, 147), (652, 655, 0)]
theorem tp_ok {w h f : Nat} {s t : ev_M} (D : Dim w h s t) (S : Shd (w * h) s t) (hf : f < w * h) (h1 : s.1 53 f = cI 1) (N : ∀ k, k < f → k < w * h → ¬ s.1 53 k = cI 1) : ∃ (s' t' : ev_M) (q l r b : Nat), Flo w h f q s' t' ∧ fSheet_takePart s (cI (f : Int)) = fSheet_takePart_b131 s' (cI (l : Int)) (cI (r : Int)) (cI ((f / w : Nat) : Int)) (cI (b : Int)) ∧ fM_part t (cI (f : Int)) = fM_part_h30 1 t' (cI (f : Int)) (cI (q : Int)) (cI (q : Int)) (cI (l : Int)) (cI (r : Int)) (cI (b : Int)) ∧ l ≤ r ∧ r < w ∧ f / w ≤ b ∧ b < h ∧ fr FflC s s' ∧ fr FflM t t' := by
  obtain ⟨⟨d1, d2, d3, d4⟩, d5, d6, d7, d8, d9⟩ := id D
  have F := fl_in D S hf h1 N
  have fb : inb (cI (f : Int)) 4096 = true := q_in (by omega) (by decide)
  have fx : ix (cI (f : Int)) = f := q_ix (by omega)
  obtain ⟨s', t', q, l, r, b, a0, a1, a2, a3, a4, a5, a6, a7, a8⟩ := bf_lp hf (w * h + 1) 1048576 1048576 0 1 w 0 h 0 _ _ (by omega) (by omega) (by omega) (by omega) (Nat.le_refl _) F (fun _ => by simp (disch := decide) only [ix_0, ix_1, ix_2, ix_3, ix_4, ix_5, ix_6, ix_7, ix_8, ix_9, ix_10, ix_11, ix_12, ix_13, ix_14, ix_15, ix_16, ix_17, ix_18, ix_19, ix_20, ix_21, Nat.reduceAdd, wI_c, wI_ne, wL_1, lupd_ne, up1_eq, up1_ne]) (Or.inl ⟨rfl, rfl⟩) (Nat.le_refl _) (by omega) (by omega) (fun u => by omega)
  refine ⟨s', t', q, l, r, b, a0, ?_, ?_, a3, a4, a5, a6, (((fr.rf.wI rfl).wI rfl).wI rfl).tr a7, ((fr.rf.wI rfl).wI rfl).tr a8⟩
  · rw [← a1]
    unfold fSheet_takePart
    rw [ltI_eq, ltI_eq, d1, d2, ltM_eq, ltM_eq, if_pos fb, ltM_eq, ix_0, fx, show i2b (cI 2) = cI 2 by decide]
    rfl
  · rw [← a2]
    unfold fM_part
    rw [ltM_eq, if_pos fb, ltM_eq, ltI_eq, ix_0, fx, show cI 1 &&& 1 = cI 1 by decide, wI_ne (show 549 ≠ 650 by decide), wI_ne (show 549 ≠ 651 by decide), d3]
    rfl
/-- one part, stored in both -/
theorem tp_st {w h f np : Nat} {s t : ev_M} (D : Dim w h s t) (S : Shd (w * h) s t) (hf : f < w * h) (h1 : s.1 53 f = cI 1) (N : ∀ k, k < f → k < w * h → ¬ s.1 53 k = cI 1) (R : Rpt w h np s t) (hn : np < 200) : ∃ (s' t' : ev_M) (n' : Nat), fSheet_takePart s (cI (f : Int)) = some s' ∧ fM_part t (cI (f : Int)) = some t' ∧ Dim w h s' t' ∧ Shd (w * h) s' t' ∧ (∀ k, k < f + 1 → k < w * h → ¬ s'.1 53 k = cI 1) ∧ Rpt w h n' s' t' ∧ (n' = np ∨ n' = np + 1) ∧ (∀ p, p < np → s'.1 57 p = s.1 57 p) ∧ (n' = np + 1 → s'.1 57 np = cI ((f / w : Nat) : Int)) ∧ fr FptC s s' ∧ fr FptM t t' := by
  obtain ⟨s1, t1, q, l, r, b, F, a1, a2, a3, a4, a5, a6, a7, a8⟩ := tp_ok D S hf h1 N
  obtain ⟨⟨⟨d1, d2, d3, d4⟩, d5, d6, d7, d8, d9⟩, S1, e8, c1, Q, N1⟩ := id F
  obtain ⟨r1, r2, r3, r4⟩ := R
  have k9 : s1.1 52 9 = cI (np : Int) := by rw [(a7.1 52 9 rfl).1]; exact r1
  have k146 : t1.1 549 146 = cI (np : Int) := by rw [(a8.1 549 146 rfl).1]; exact r2
  have e4 : (cI 4).toInt = 4 := rfl
  have e1 : (cI 1).toInt = 1 := rfl
  have c56 : ∀ c, 56 ≤ c → c ≤ 59 → s1.1 c = s.1 c := fun c g1 g2 => by
    have : c = 56 ∨ c = 57 ∨ c = 58 ∨ c = 59 := by omega
    rcases this with u | u | u | u <;> subst u <;> exact funext fun k => (a7.1 _ k rfl).1
  have c652 : ∀ c, 652 ≤ c → c ≤ 655 → t1.1 c = t.1 c := fun c g1 g2 => by
    have : c = 652 ∨ c = 653 ∨ c = 654 ∨ c = 655 := by omega
    rcases this with u | u | u | u <;> subst u <;> exact funext fun k => (a8.1 _ k rfl).1
  have kM : fM_part_h30 1 t1 (cI (f : Int)) (cI (q : Int)) (cI (q : Int)) (cI (l : Int)) (cI (r : Int)) (cI (b : Int)) = if cI (q : Int) < cI 4 then some t1 else some (wI (wI (wI (wI (wI t1 652 np (cI (l : Int))) 653 np (cI ((f / w : Nat) : Int))) 654 np (cI (r : Int) - cI (l : Int) + cI 1)) 655 np (cI (b : Int) - cI ((f / w : Nat) : Int) + cI 1)) 549 146 (cI ((np + 1 : Nat) : Int))) := by
    have nw : ¬ cI (w : Int) = 0 := fun u => by rw [eq_i, q_ti (by omega), i32_0] at u; omega
    have nb : inb (cI (np : Int)) 200 = true := q_in hn (by decide)
    have nx : ix (cI (np : Int)) = np := q_ix (by omega)
    rw [fM_part_h30, if_neg (by rw [q_lt (by omega) (by omega)]; omega)]
    by_cases z : cI (q : Int) < cI 4
    · rw [if_pos z, if_pos z]
    · rw [if_neg z, if_neg z, k146, if_pos (by rw [lt_i, q_ti (by omega), show (cI 200).toInt = 200 from rfl]; omega), if_pos nb, ltM_eq, nx]
      simp (disch := decide) only [ltM_eq, ix_0, ix_1, ix_2, ix_3, ix_4, ix_5, ix_6, ix_7, ix_8, ix_9, ix_10, ix_11, ix_12, ix_13, ix_14, ix_15, ix_16, ix_17, ix_18, ix_19, ix_20, ix_21, Nat.reduceAdd, wI_c, wI_ne, wL_1, lupd_ne, up1_eq, up1_ne, d3, k146, if_neg nw, if_pos nb, nx, q_div (show f < 100000 by omega) (show 0 < w by omega) (show w < 100000 by omega), q_s (show np < 99999 by omega)]
  have kC : fSheet_takePart_b131 s1 (cI (l : Int)) (cI (r : Int)) (cI ((f / w : Nat) : Int)) (cI (b : Int)) = if cI (q : Int) < cI 4 then some s1 else some (wI (wI (wI (wI (wI s1 56 np (cI (l : Int))) 57 np (cI ((f / w : Nat) : Int))) 58 np (cI (r : Int) - cI (l : Int) + cI 1)) 52 9 (cI ((np + 1 : Nat) : Int))) 59 np (cI (b : Int) - cI ((f / w : Nat) : Int) + cI 1)) := by
    have nb : inb (cI (np : Int)) 200 = true := q_in hn (by decide)
    have nx : ix (cI (np : Int)) = np := q_ix (by omega)
    unfold fSheet_takePart_b131
    rw [e8]
    by_cases z : cI (q : Int) < cI 4
    · rw [if_pos z, if_pos z]
    · rw [if_neg z, if_neg z]
      simp (disch := decide) only [ltM_eq, ix_0, ix_1, ix_2, ix_3, ix_4, ix_5, ix_6, ix_7, ix_8, ix_9, ix_10, ix_11, ix_12, ix_13, ix_14, ix_15, ix_16, ix_17, ix_18, ix_19, ix_20, ix_21, Nat.reduceAdd, wI_c, wI_ne, wL_1, lupd_ne, up1_eq, up1_ne, Nat.add_zero, k9, if_pos nb, nx, q_s (show np < 99999 by omega)]
  rw [kC] at a1
  rw [kM] at a2
  have fw : f / w < h := Nat.lt_of_le_of_lt a5 a6
  by_cases z : cI (q : Int) < cI 4
  · rw [if_pos z] at a1 a2
    refine ⟨s1, t1, np, a1, a2, F.1, S1, fun k g1 g2 => N1 k (by omega) g2, ⟨k9, k146, r3, fun p hp => ?_⟩, Or.inl rfl, fun p hp => by rw [c56 57 (by decide) (by decide)], fun u => by omega, a7.mono (by decide +kernel), a8.mono (by decide +kernel)⟩
    rw [c56 56 (by decide) (by decide), c56 57 (by decide) (by decide), c56 58 (by decide) (by decide), c56 59 (by decide) (by decide), c652 652 (by decide) (by decide), c652 653 (by decide) (by decide), c652 654 (by decide) (by decide), c652 655 (by decide) (by decide)]
    exact r4 p hp
  · rw [if_neg z] at a1 a2
    have wd : cI (r : Int) - cI (l : Int) + cI 1 = cI ((r - l + 1 : Nat) : Int) := by
      have sb : (cI (r : Int) - cI (l : Int)).toInt = (r : Int) - (l : Int) := by rw [sub_b (by rw [q_ti (by omega), q_ti (by omega)]; omega) (by rw [q_ti (by omega), q_ti (by omega)]; omega), q_ti (by omega), q_ti (by omega)]
      rw [eq_i, add_b (by rw [sb, e1]; omega) (by rw [sb, e1]; omega), sb, e1, q_ti (by omega)]; omega
    obtain ⟨g, eg⟩ : ∃ g : Nat, g = f / w := ⟨_, rfl⟩
    rw [← eg] at a1 a2 a5 fw ⊢
    have ht : cI (b : Int) - cI (g : Int) + cI 1 = cI ((b - g + 1 : Nat) : Int) := by
      have sb : (cI (b : Int) - cI (g : Int)).toInt = (b : Int) - (g : Int) := by rw [sub_b (by rw [q_ti (by omega), q_ti (by omega)]; omega) (by rw [q_ti (by omega), q_ti (by omega)]; omega), q_ti (by omega), q_ti (by omega)]
      rw [eq_i, add_b (by rw [sb, e1]; omega) (by rw [sb, e1]; omega), sb, e1, q_ti (by omega)]; omega
    rw [wd, ht] at a1 a2
    refine ⟨_, _, np + 1, a1, a2, ⟨⟨?_, ?_, ?_, ?_⟩, d5, d6, d7, d8, d9⟩, ?_, fun k g1 g2 => ?_, ⟨?_, ?_, by omega, fun p hp => ?_⟩, Or.inr rfl, fun p hp => ?_, fun _ => ?_, ((((((a7.mono (by decide +kernel)).wI rfl).wI rfl).wI rfl).wI rfl).wI rfl), ((((((a8.mono (by decide +kernel)).wI rfl).wI rfl).wI rfl).wI rfl).wI rfl)⟩
    · simp (disch := decide) only [ix_0, ix_1, ix_2, ix_3, ix_4, ix_5, ix_6, ix_7, ix_8, ix_9, ix_10, ix_11, ix_12, ix_13, ix_14, ix_15, ix_16, ix_17, ix_18, ix_19, ix_20, ix_21, Nat.reduceAdd, wI_c, wI_ne, wL_1, lupd_ne, up1_eq, up1_ne]; exact d1
    · simp (disch := decide) only [ix_0, ix_1, ix_2, ix_3, ix_4, ix_5, ix_6, ix_7, ix_8, ix_9, ix_10, ix_11, ix_12, ix_13, ix_14, ix_15, ix_16, ix_17, ix_18, ix_19, ix_20, ix_21, Nat.reduceAdd, wI_c, wI_ne, wL_1, lupd_ne, up1_eq, up1_ne]; exact d2
    · simp (disch := decide) only [ix_0, ix_1, ix_2, ix_3, ix_4, ix_5, ix_6, ix_7, ix_8, ix_9, ix_10, ix_11, ix_12, ix_13, ix_14, ix_15, ix_16, ix_17, ix_18, ix_19, ix_20, ix_21, Nat.reduceAdd, wI_c, wI_ne, wL_1, lupd_ne, up1_eq, up1_ne]; exact d3
    · simp (disch := decide) only [ix_0, ix_1, ix_2, ix_3, ix_4, ix_5, ix_6, ix_7, ix_8, ix_9, ix_10, ix_11, ix_12, ix_13, ix_14, ix_15, ix_16, ix_17, ix_18, ix_19, ix_20, ix_21, Nat.reduceAdd, wI_c, wI_ne, wL_1, lupd_ne, up1_eq, up1_ne]; exact d4
    · intro p hp
      simp (disch := decide) only [ix_0, ix_1, ix_2, ix_3, ix_4, ix_5, ix_6, ix_7, ix_8, ix_9, ix_10, ix_11, ix_12, ix_13, ix_14, ix_15, ix_16, ix_17, ix_18, ix_19, ix_20, ix_21, Nat.reduceAdd, wI_c, wI_ne, wL_1, lupd_ne, up1_eq, up1_ne]
      exact S1 p hp
    · simp (disch := decide) only [ix_0, ix_1, ix_2, ix_3, ix_4, ix_5, ix_6, ix_7, ix_8, ix_9, ix_10, ix_11, ix_12, ix_13, ix_14, ix_15, ix_16, ix_17, ix_18, ix_19, ix_20, ix_21, Nat.reduceAdd, wI_c, wI_ne, wL_1, lupd_ne, up1_eq, up1_ne]
      exact N1 k (by omega) g2
    · simp (disch := decide) only [ix_0, ix_1, ix_2, ix_3, ix_4, ix_5, ix_6, ix_7, ix_8, ix_9, ix_10, ix_11, ix_12, ix_13, ix_14, ix_15, ix_16, ix_17, ix_18, ix_19, ix_20, ix_21, Nat.reduceAdd, wI_c, wI_ne, wL_1, lupd_ne, up1_eq, up1_ne]
    · simp (disch := decide) only [ix_0, ix_1, ix_2, ix_3, ix_4, ix_5, ix_6, ix_7, ix_8, ix_9, ix_10, ix_11, ix_12, ix_13, ix_14, ix_15, ix_16, ix_17, ix_18, ix_19, ix_20, ix_21, Nat.reduceAdd, wI_c, wI_ne, wL_1, lupd_ne, up1_eq, up1_ne]
    · simp (disch := decide) only [ix_0, ix_1, ix_2, ix_3, ix_4, ix_5, ix_6, ix_7, ix_8, ix_9, ix_10, ix_11, ix_12, ix_13, ix_14, ix_15, ix_16, ix_17, ix_18, ix_19, ix_20, ix_21, Nat.reduceAdd, wI_c, wI_ne, wL_1, lupd_ne, up1_eq, up1_ne]
      by_cases y : p = np
      · rw [y]
        simp only [up1_eq]
        exact ⟨l, g, r - l + 1, b - g + 1, ⟨rfl, rfl, rfl, rfl⟩, ⟨rfl, rfl, rfl, rfl⟩, by omega, by omega, by omega, by omega⟩
      · simp only [up1_ne y]
        rw [c56 56 (by decide) (by decide), c56 57 (by decide) (by decide), c56 58 (by decide) (by decide), c56 59 (by decide) (by decide), c652 652 (by decide) (by decide), c652 653 (by decide) (by decide), c652 654 (by decide) (by decide), c652 655 (by decide) (by decide)]
        exact r4 p (by omega)
    · simp (disch := decide) only [ix_0, ix_1, ix_2, ix_3, ix_4, ix_5, ix_6, ix_7, ix_8, ix_9, ix_10, ix_11, ix_12, ix_13, ix_14, ix_15, ix_16, ix_17, ix_18, ix_19, ix_20, ix_21, Nat.reduceAdd, wI_c, wI_ne, wL_1, lupd_ne, up1_eq, up1_ne]
      rw [up1_ne (by omega), c56 57 (by decide) (by decide)]
    · simp (disch := decide) only [ix_0, ix_1, ix_2, ix_3, ix_4, ix_5, ix_6, ix_7, ix_8, ix_9, ix_10, ix_11, ix_12, ix_13, ix_14, ix_15, ix_16, ix_17, ix_18, ix_19, ix_20, ix_21, Nat.reduceAdd, wI_c, wI_ne, wL_1, lupd_ne, up1_eq, up1_ne]
