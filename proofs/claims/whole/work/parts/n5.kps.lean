/-! ===== LEVEL 3: the sheet: the class keeps its lines ===== -/
abbrev Ff (g : Nat → Nat) (n r : Nat) : Nat := cntE (blw g r) 1 n
/-- whether the sign at q begins a word -/
def bgV (g : Nat → Nat) (S : List Nat) (s0 : ev_M) (q : Nat) : Int32 := if q = 0 ∨ g (gF S q) ≠ g (gF S (q - 1)) then cI 1 else if cI 5 * (s0.1 56 (gF S q) - s0.1 56 (gF S (q - 1)) - s0.1 58 (gF S (q - 1))) < cI 2 * s0.1 59 (gF S (q - 1)) then cI 0 else cI 1
def Bk (g : Nat → Nat) (S : List Nat) (s0 s : ev_M) (q : Nat) : Prop := s.1 68 q = s0.1 56 (gF S q) ∧ s.1 69 q = s0.1 57 (gF S q) ∧ s.1 70 q = s0.1 58 (gF S q) ∧ s.1 71 q = s0.1 59 (gF S q) ∧ (s.1 72 q).toBitVec.toNat < 2 ^ 15 ∧ fSheet_cellsOf s0 (cI (gF S q : Int)) = some (s.1 72 q) ∧ fSheet_nearest s0 (s.1 72 q) (cI 0) (cI 10) = some (s.1 73 q) ∧ fSheet_nearest s0 (s.1 72 q) (cI 10) (cI 36) = some (s.1 74 q) ∧ s.1 75 q = bgV g S s0 q
theorem Bk.k {g : Nat → Nat} {S : List Nat} {s0 s s' : ev_M} {q : Nat} (h : Bk g S s0 s q) (e : ∀ c, 68 ≤ c → c ≤ 75 → s'.1 c q = s.1 c q) : Bk g S s0 s' q := by
  unfold Bk at h ⊢
  rw [e 68 (by decide) (by decide), e 69 (by decide) (by decide), e 70 (by decide) (by decide), e 71 (by decide) (by decide), e 72 (by decide) (by decide), e 73 (by decide) (by decide), e 74 (by decide) (by decide), e 75 (by decide) (by decide)]
  exact h
def Ln (n : Nat) (g : Nat → Nat) (S : List Nat) (s0 s : ev_M) (p r : Nat) : Prop := s.1 66 (rkN g r) = cI (Ff g n r : Int) ∧ s.1 63 (rkN g r) = cI ((min p (Ff g n (r + 1)) - Ff g n r : Nat) : Int) ∧ s.1 64 (rkN g r) = mnC (fun j => s0.1 57 (gF S j)) (Ff g n r) (min p (Ff g n (r + 1)) - Ff g n r) ∧ s.1 65 (rkN g r) = mnC (fun j => s0.1 56 (gF S j)) (Ff g n r) (min p (Ff g n (r + 1)) - Ff g n r)
/-- what is kept: p parts, the lines of the roots below K -/
def Ks (n : Nat) (g : Nat → Nat) (S : List Nat) (s0 s : ev_M) (p K : Nat) : Prop := fr FkbC s0 s ∧ s.1 52 13 = cI (rkN g K : Int) ∧ rkN g K ≤ 10 ∧ K ≤ n ∧ (∀ q, q < p → Bk g S s0 s q) ∧ ∀ r, r < K → r < n → g r = r → Ln n g S s0 s p r
theorem mnC_1 {f : Nat → Int32} {lo : Nat} {v : Int32} (h1 : f lo = v) (h2 : v.toInt < 4096) : mnC f lo 1 = v := by
  show (if f lo < cI 4096 then f lo else cI 4096) = v
  rw [h1, if_pos (by rw [lt_i, show (cI 4096).toInt = 4096 from rfl]; exact h2)]
theorem kp_lp {w h n : Nat} {g : Nat → Nat} {S : List Nat} {s0 t : ev_M} (H : Lc w h n g s0 t) (Sy : Sym s0 t) (h61 : ∀ q, q < n → s0.1 61 q = cI (gF S q : Int)) (hin : ∀ q, q < n → gF S q < n) (hps : ∀ q, q < n → pos n s0 (gF S q) = q) (hpl : ∀ a, a < n → pos n s0 a < n) : ∀ (q m p : Nat) (s : ev_M) (K : Nat), p + q = n → q < m → Ks n g S s0 s p K → (p = 0 ∧ K = 0 ∨ ∃ p', p = p' + 1 ∧ K = g (gF S p') + 1) → ∃ (K' : Nat) (s' : ev_M), fSheet_keepLines_h7 m s (cI (p : Int)) = some s' ∧ Ks n g S s0 s' (Ff g n K') K' ∧ (rkN g K' = 10 ∨ ∀ j, K' ≤ j → j < n → ¬ g j = j) := by
  have r3 := H.2.2.1.2.2.1
  have hg := H.2.2.2.2.2.1
  have iv := fun a ha => pos_iv (a := a) H ha
  have mo := fun r r' (hh : r ≤ r') => ff_mo (g := g) (n := n) hh
  intro q
  have pK : ∀ p K, p ≤ n → (p = 0 ∧ K = 0 ∨ ∃ p', p = p' + 1 ∧ K = g (gF S p') + 1) → p ≤ Ff g n K := by
    intro p K hp hk
    rcases hk with ⟨u, -⟩ | ⟨p', u, v⟩
    · rw [u]; exact Nat.zero_le _
    · have i1 := (iv (gF S p') (hin p' (by omega))).2
      rw [hps p' (by omega), ← v] at i1
      show p ≤ cntE (blw g K) 1 n
      omega
  induction q with
  | zero =>
    intro m p s K hp hm Z hk
    obtain ⟨m, rfl⟩ : ∃ k, m = k + 1 := ⟨m - 1, by omega⟩
    obtain rfl : p = n := by omega
    have e9 : s.1 52 9 = cI (p : Int) := by rw [(Z.1.1 52 9 rfl).1]; exact H.2.2.1.1
    have a1 := pK p K (by omega) hk
    have a2 : Ff g p K ≤ p := cntE_le p
    have a3 : Ff g p K = p := by omega
    refine ⟨K, s, ?_, by rw [a3]; exact Z, Or.inr fun j h1 h2 h3 => ?_⟩
    · rw [fSheet_keepLines_h7, e9, if_neg (by rw [q_lt (by omega) (by omega)]; omega)]
    · have i1 := (iv j h2).1
      rw [h3] at i1
      have i2 := mo K j h1
      have i3 := hpl j h2
      unfold Ff at a1
      omega
  | succ q ih =>
    intro m p s K hp hm Z hk
    obtain ⟨m, rfl⟩ : ∃ k, m = k + 1 := ⟨m - 1, by omega⟩
    obtain ⟨z1, z2, z3, z4, z5, z6⟩ := id Z
    have e9 : s.1 52 9 = cI (n : Int) := by rw [(z1.1 52 9 rfl).1]; exact H.2.2.1.1
    obtain ⟨a, ea⟩ : ∃ a, a = gF S p := ⟨_, rfl⟩
    have an : a < n := by rw [ea]; exact hin p (by omega)
    have pa : pos n s0 a = p := by rw [ea]; exact hps p (by omega)
    obtain ⟨r, er⟩ : ∃ r, r = g a := ⟨_, rfl⟩
    have rn : r < n := by have := (hg a an).2.1; omega
    have gr : g r = r := by rw [er]; exact (hg a an).2.2
    have i1 := iv a an
    rw [← er, pa] at i1
    have p1 := pK p K (by omega) hk
    have gap : ∀ j, K ≤ j → j < r → ¬ g j = j := fun j h1 h2 h3 => by
      have i2 := iv j (by omega)
      rw [h3] at i2
      have i3 := mo (j + 1) r (by omega)
      have i4 := mo K j h1
      unfold Ff at p1
      omega
    have ab : inb (cI (a : Int)) 200 = true := q_in (by omega) (by decide)
    have ax : ix (cI (a : Int)) = a := q_ix (by omega)
    have pb : inb (cI (p : Int)) 200 = true := q_in (by omega) (by decide)
    have px : ix (cI (p : Int)) = p := q_ix (by omega)
    have lt : cI (p : Int) < cI (n : Int) := (q_lt (by omega) (by omega)).mpr (by omega)
    have e61 : s.1 61 p = cI (a : Int) := by rw [(z1.1 61 p rfl).1, h61 p (by omega), ea]
    have e60 : ∀ b, b < n → s.1 60 b = cI (rkN g (g b) : Int) := fun b hb => by rw [(z1.1 60 b rfl).1]; exact H.2.2.2.2.1 b hb
    have rs : rkN g (r + 1) = rkN g r + 1 := by simp only [rkN, if_pos gr]
    have fin : ∀ (s1 : ev_M) (x3 : Int32), fr FkbC s0 s1 → s1.1 52 13 = cI ((rkN g r + 1 : Nat) : Int) → rkN g r ≤ 9 → s1.1 63 (rkN g r) = cI ((p - Ff g n r : Nat) : Int) → s1.1 66 (rkN g r) = cI (Ff g n r : Int) → (if s0.1 57 a < s1.1 64 (rkN g r) then s0.1 57 a else s1.1 64 (rkN g r)) = mnC (fun j => s0.1 57 (gF S j)) (Ff g n r) (p + 1 - Ff g n r) → (if s0.1 56 a < s1.1 65 (rkN g r) then s0.1 56 a else s1.1 65 (rkN g r)) = mnC (fun j => s0.1 56 (gF S j)) (Ff g n r) (p + 1 - Ff g n r) → (∀ q, q < p → Bk g S s0 s1 q) → (∀ r', r' < r → g r' = r' → Ln n g S s0 s1 p r') → bwV s1 p a x3 = bgV g S s0 p → ∃ (K' : Nat) (s' : ev_M), fSheet_keepLines_b78 (fSheet_keepLines_h7 m) s1 (cI (p : Int)) (cI (a : Int)) x3 = some s' ∧ Ks n g S s0 s' (Ff g n K') K' ∧ (rkN g K' = 10 ∨ ∀ j, K' ≤ j → j < n → ¬ g j = j) := by
      intro s1 x3 y1 y2 y3 y4 y5 y6 y7 y8 y9 y10
      obtain ⟨s', b1, ⟨b2, b3, b4⟩, b5, b6, b7, ⟨c1, c2, c3, c4, c5, c6, c7, c8, c9⟩, b9, b10⟩ := kl_ok (p := p) (x3 := x3) (k7 := fSheet_keepLines_h7 m) (H.kC y1) (Sy.kC y1) an (by omega) y3 y2 y4 (by omega)
      have mp : min (p + 1) (Ff g n (r + 1)) = p + 1 := Nat.min_eq_left (by unfold Ff; omega)
      obtain ⟨K', s2, d1, d2, d3⟩ := ih m (p + 1) s' (r + 1) (by omega) (by omega) ⟨y1.tr b10, by rw [b7, y2, rs], by omega, by omega, fun k hk2 => by
        by_cases v : k = p
        · rw [v]
          unfold Bk
          rw [← ea]
          refine ⟨c1.trans (y1.1 56 a rfl).1, c2.trans (y1.1 57 a rfl).1, c3.trans (y1.1 58 a rfl).1, c4.trans (y1.1 59 a rfl).1, c5, ?_, ?_, ?_, c9.trans y10⟩
          · rw [← c6]; exact (kb_cg H y1 an).symm
          · rw [← c7]; exact (ns_cg (lo := 0) (hi := 10) Sy (Sy.kC y1) c5 (by decide) (by decide)).symm
          · rw [← c8]; exact (ns_cg (lo := 10) (hi := 36) Sy (Sy.kC y1) c5 (by decide) (by decide)).symm
        · exact (y8 k (by omega)).k fun c h1 h2 => b9 c k h1 h2 v, fun r' h1 h2 h3 => by
        by_cases v : r' = r
        · rw [v]
          unfold Ln
          rw [mp, b6, b2, b3, b4, (y1.1 57 a rfl).1, (y1.1 56 a rfl).1]
          exact ⟨y5, by rw [show p + 1 - Ff g n r = p - Ff g n r + 1 by unfold Ff; omega], y6, y7⟩
        · have L := y9 r' (by omega) h3
          have lr := rkN_lt (show r' < r by omega) h3
          have f1 := mo (r' + 1) r (by omega)
          have m1 : min (p + 1) (Ff g n (r' + 1)) = min p (Ff g n (r' + 1)) := by
            rw [Nat.min_eq_right (show Ff g n (r' + 1) ≤ p + 1 by unfold Ff; omega), Nat.min_eq_right (show Ff g n (r' + 1) ≤ p by unfold Ff; omega)]
          unfold Ln at L ⊢
          rw [m1, b6, b5 63 _ (by decide) (by decide) (by omega), b5 64 _ (by decide) (by decide) (by omega), b5 65 _ (by decide) (by decide) (by omega)]
          exact L⟩ (Or.inr ⟨p, rfl, by rw [← ea, ← er]⟩)
      exact ⟨K', s2, b1.trans d1, d2, d3⟩
    have mnS : ∀ (f : Nat → Int32) (v : Int32), f p = v → Ff g n r ≤ p → (if v < mnC f (Ff g n r) (p - Ff g n r) then v else mnC f (Ff g n r) (p - Ff g n r)) = mnC f (Ff g n r) (p + 1 - Ff g n r) := by
      intro f v hv hle
      obtain ⟨d, ed⟩ : ∃ d, p = Ff g n r + d := ⟨p - Ff g n r, by omega⟩
      rw [show p + 1 - Ff g n r = d + 1 by omega, show p - Ff g n r = d by omega]
      simp only [mnC]
      rw [← ed, hv]
    by_cases z : K = r + 1
    · rcases hk with ⟨-, u⟩ | ⟨p', u, v⟩
      · omega
      · have gp : g (gF S p') = r := by omega
        have pn : gF S p' < n := hin p' (by omega)
        have e1 : cI (p : Int) - cI 1 = cI (p' : Int) := (q_sb (a := p) (b := 1) (by omega) (by omega)).trans (by rw [show p - 1 = p' by omega])
        have p'b : inb (cI (p' : Int)) 200 = true := q_in (by omega) (by decide)
        have p'x : ix (cI (p' : Int)) = p' := q_ix (by omega)
        have bb : inb (cI (gF S p' : Int)) 200 = true := q_in (by omega) (by decide)
        have bx : ix (cI (gF S p' : Int)) = gF S p' := q_ix (by omega)
        have e61' : s.1 61 p' = cI (gF S p' : Int) := by rw [(z1.1 61 p' rfl).1, h61 p' (by omega)]
        have L := z6 r (by omega) rn gr
        unfold Ln at L
        rw [Nat.min_eq_left (show p ≤ Ff g n (r + 1) by unfold Ff; omega)] at L
        obtain ⟨l1, l2, l3, l4⟩ := L
        have B := z5 p' (by omega)
        obtain ⟨K', s', d1, d2, d3⟩ := fin s (cI 0) z1 (by rw [z2, z, rs]) (by rw [z, rs] at z3; omega) l2 l1 (by rw [l3]; exact mnS _ _ (by rw [← ea]) i1.1) (by rw [l4]; exact mnS _ _ (by rw [← ea]) i1.1) z5 (fun r' h1 h2 => z6 r' (by omega) (by omega) h2) (by
          unfold bwV bgV
          rw [if_pos (show cI 0 = 0 from rfl), if_neg (show ¬ p = 0 by omega), ← ea, show p - 1 = p' by omega, if_neg (show ¬ (p = 0 ∨ g a ≠ g (gF S p')) by rw [gp, er]; omega), B.1, B.2.2.1, B.2.2.2.1, (z1.1 56 a rfl).1])
        refine ⟨K', s', ?_, d2, d3⟩
        rw [← d1, fSheet_keepLines_h7, e9, if_pos lt, if_pos pb, px, e61, ltI_eq, if_neg (by rw [eq_i, q_ti (by omega), i32_0]; omega), if_pos ab, e1, if_pos p'b, p'x, e61', if_pos bb, ax, bx, e60 a an, e60 _ pn, gp, ← er, if_pos rfl]
        unfold fSheet_keepLines_b53 fSheet_keepLines_b68
        rw [if_pos (show cI 0 = 0 from rfl), if_pos (show cI 0 = 0 from rfl)]
    · have hKr : K ≤ r := by
        rcases hk with ⟨-, u⟩ | ⟨p', u, v⟩
        · omega
        · have i2 := iv (gF S p') (hin p' (by omega))
          rw [hps p' (by omega)] at i2
          by_cases y : r < g (gF S p')
          · have := mo (r + 1) (g (gF S p')) y
            omega
          · omega
      have eL := rk_gap r hKr gap
      have eF := ff_gap (fun p hp => (hg p hp).2) hKr gap n (Nat.le_refl _)
      have pF : Ff g n r = p := by unfold Ff at p1 ⊢; omega
      have new : fSheet_keepLines_h7 (m + 1) s (cI (p : Int)) = fSheet_keepLines_b53 (fSheet_keepLines_h7 m) s (cI (p : Int)) (cI (a : Int)) (cI 1) ∧ (p = 0 ∨ g (gF S p) ≠ g (gF S (p - 1))) := by
        rcases hk with ⟨u, -⟩ | ⟨p', u, v⟩
        · refine ⟨?_, Or.inl u⟩
          rw [fSheet_keepLines_h7, e9, if_pos lt, if_pos pb, px, e61, ltI_eq, if_pos (show cI (p : Int) = 0 by rw [u]; rfl)]
          rfl
        · have pn : gF S p' < n := hin p' (by omega)
          have e1 : cI (p : Int) - cI 1 = cI (p' : Int) := (q_sb (a := p) (b := 1) (by omega) (by omega)).trans (by rw [show p - 1 = p' by omega])
          have p'b : inb (cI (p' : Int)) 200 = true := q_in (by omega) (by decide)
          have p'x : ix (cI (p' : Int)) = p' := q_ix (by omega)
          have bb : inb (cI (gF S p' : Int)) 200 = true := q_in (by omega) (by decide)
          have bx : ix (cI (gF S p' : Int)) = gF S p' := q_ix (by omega)
          have e61' : s.1 61 p' = cI (gF S p' : Int) := by rw [(z1.1 61 p' rfl).1, h61 p' (by omega)]
          have gl : g (gF S p') < r := by omega
          have rl := rkN_lt gl (hg _ pn).2.2
          have rle := rkN_le (g := g) r
          refine ⟨?_, Or.inr (by rw [← ea, ← er, show p - 1 = p' by omega]; omega)⟩
          rw [fSheet_keepLines_h7, e9, if_pos lt, if_pos pb, px, e61, ltI_eq, if_neg (by rw [eq_i, q_ti (by omega), i32_0]; omega), if_pos ab, e1, if_pos p'b, p'x, e61', if_pos bb, ax, bx, e60 a an, e60 _ pn, ← er, if_neg (fun u => by rw [eq_i, q_ti (by omega), q_ti (by omega)] at u; omega)]
          rfl
      rw [new.1]
      unfold fSheet_keepLines_b53
      rw [if_neg (show ¬ cI 1 = 0 by decide), z2]
      by_cases y : rkN g K = 10
      · rw [if_pos (by rw [y]; rfl)]
        refine ⟨K, s, rfl, ?_, Or.inl y⟩
        rw [show Ff g n K = p by unfold Ff at pF ⊢; omega]
        exact Z
      · rw [if_neg (fun u => y (by rw [eq_i, q_ti (by omega), show (cI 10).toInt = 10 from rfl] at u; omega))]
        unfold fSheet_keepLines_b68
        rw [if_neg (show ¬ cI 1 = 0 by decide), bl_ok (L := rkN g r) (by omega) (by omega) (by rw [z2, eL]), bd1_some]
        have y1 : fr FkbC s (wI (wI (wI (wI (wI s 66 (rkN g r) (cI (p : Int))) 63 (rkN g r) (cI 0)) 64 (rkN g r) (s.1 57 a)) 65 (rkN g r) (s.1 56 a)) 52 13 (cI ((rkN g r + 1 : Nat) : Int))) := ((((fr.rf.wI rfl).wI rfl).wI rfl).wI rfl).wI rfl
        obtain ⟨l, tp, c, d, ⟨v1, v2, -, -⟩, -, hl, ht, hc, hd⟩ := H.2.2.1.2.2.2 a an
        have w128 := H.1.2.2.1
        have h4096 := H.1.2.2.2.2.1
        have e4096 : (cI 4096).toInt = 4096 := rfl
        refine fin _ (cI 1) (z1.tr y1) (by simp (disch := decide) only [ix_0, ix_1, ix_2, ix_3, ix_4, ix_5, ix_6, ix_7, ix_8, ix_9, ix_10, ix_11, ix_12, ix_13, ix_14, ix_15, ix_16, ix_17, ix_18, ix_19, ix_20, ix_21, Nat.reduceAdd, wI_c, wI_ne, wL_1, lupd_ne, up1_eq, up1_ne]) (by omega) (by simp (disch := decide) only [ix_0, ix_1, ix_2, ix_3, ix_4, ix_5, ix_6, ix_7, ix_8, ix_9, ix_10, ix_11, ix_12, ix_13, ix_14, ix_15, ix_16, ix_17, ix_18, ix_19, ix_20, ix_21, Nat.reduceAdd, wI_c, wI_ne, wL_1, lupd_ne, up1_eq, up1_ne]; rw [pF, Nat.sub_self]; rfl) (by simp (disch := decide) only [ix_0, ix_1, ix_2, ix_3, ix_4, ix_5, ix_6, ix_7, ix_8, ix_9, ix_10, ix_11, ix_12, ix_13, ix_14, ix_15, ix_16, ix_17, ix_18, ix_19, ix_20, ix_21, Nat.reduceAdd, wI_c, wI_ne, wL_1, lupd_ne, up1_eq, up1_ne]; rw [pF]) ?_ ?_ (fun k hk2 => (z5 k hk2).k fun c h1 h2 => ?_) (fun r' h1 h2 => ?_) ?_
        · simp (disch := decide) only [ix_0, ix_1, ix_2, ix_3, ix_4, ix_5, ix_6, ix_7, ix_8, ix_9, ix_10, ix_11, ix_12, ix_13, ix_14, ix_15, ix_16, ix_17, ix_18, ix_19, ix_20, ix_21, Nat.reduceAdd, wI_c, wI_ne, wL_1, lupd_ne, up1_eq, up1_ne]
          rw [(z1.1 57 a rfl).1, ite_self, pF, show p + 1 - p = 1 by omega]
          exact (mnC_1 (f := fun j => s0.1 57 (gF S j)) (by show s0.1 57 (gF S p) = s0.1 57 a; rw [← ea]) (by rw [v2, q_ti (by omega)]; omega)).symm
        · simp (disch := decide) only [ix_0, ix_1, ix_2, ix_3, ix_4, ix_5, ix_6, ix_7, ix_8, ix_9, ix_10, ix_11, ix_12, ix_13, ix_14, ix_15, ix_16, ix_17, ix_18, ix_19, ix_20, ix_21, Nat.reduceAdd, wI_c, wI_ne, wL_1, lupd_ne, up1_eq, up1_ne]
          rw [(z1.1 56 a rfl).1, ite_self, pF, show p + 1 - p = 1 by omega]
          exact (mnC_1 (f := fun j => s0.1 56 (gF S j)) (by show s0.1 56 (gF S p) = s0.1 56 a; rw [← ea]) (by rw [v1, q_ti (by omega)]; omega)).symm
        · rw [wI_ne (by omega), wI_ne (by omega), wI_ne (by omega), wI_ne (by omega), wI_ne (by omega)]
        · have rr : r' < K := by
            apply Classical.byContradiction
            intro u
            exact gap r' (by omega) h1 h2
          have L := z6 r' rr (by omega) h2
          have lr := rkN_lt h1 h2
          have ne : rkN g r' ≠ rkN g r := by omega
          unfold Ln at L ⊢
          simp (disch := decide) only [ix_0, ix_1, ix_2, ix_3, ix_4, ix_5, ix_6, ix_7, ix_8, ix_9, ix_10, ix_11, ix_12, ix_13, ix_14, ix_15, ix_16, ix_17, ix_18, ix_19, ix_20, ix_21, Nat.reduceAdd, wI_c, wI_ne, wL_1, lupd_ne, up1_eq, up1_ne, up1_ne ne]
          exact L
        · unfold bwV bgV
          rw [if_neg (show ¬ cI 1 = 0 by decide), if_pos new.2]
