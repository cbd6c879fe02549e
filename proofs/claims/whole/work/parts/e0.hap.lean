/-! ===== LEVEL 3: an item comes to a state: the event and the notice, class and reference ===== -/
def wbitOk (x k : Nat) : Bool := let w := (cI (x : Int) >>> (cI (k : Int) &&& 31)) &&& cI 1; decide (w = 0) || decide (w = cI 1)
theorem wbit_all : ((List.range 512).all fun x => (List.range 9).all fun k => wbitOk x k) = true := by decide +kernel
theorem wbit {X K : Int32} (h : 0 ≤ X.toInt ∧ X.toInt ≤ 511) (hk : InR K (cI 0) (cI 8)) : (X >>> (K &&& 31)) &&& cI 1 = 0 ∨ (X >>> (K &&& 31)) &&& cI 1 = cI 1 := by
  have k1 : 0 ≤ K.toInt := hk.1
  have k2 : K.toInt ≤ 8 := hk.2
  have h1 := List.all_eq_true.mp wbit_all (ix X) (List.mem_range.mpr (by rw [ix_toNat]; omega))
  have q : wbitOk (ix X) (ix K) = true := List.all_eq_true.mp h1 (ix K) (List.mem_range.mpr (by rw [ix_toNat]; omega))
  unfold wbitOk at q
  rw [cI_ix h.1, cI_ix hk.1] at q
  simpa using q
/-- the cells of the reference's event and notice -/
def F_evno : List (Nat × (Nat × Nat)) := [(549, 549, 130), (640, 640, 0), (641, 641, 0), (642, 642, 0), (643, 643, 0), (549, 549, 135), (644, 644, 0), (645, 645, 0), (646, 646, 0)]
theorem hap {n : Nat} {s t : ev_M} {i c ac pl : Int32} (he : REv n s t) (hno : RNt n s t) (hcu : RCu s t) (ht : RTim s t) (hn : n < 2147483646) (hi : Has i (s.1 100 5)) (h5 : (s.1 100 5).toInt ≤ 300) (ha : s.1 106 (ix i) = ac) (ham : t.1 587 (ix i) = ac) (hac : Cus ac (s.1 78 3)) (hpl : t.1 591 (ix i) = pl) (hc : InR c (cI 0) (cI 8)) : ∃ s' t', fChron_happen s i ac c pl = some s' ∧ fM_comes t i c = some t' ∧ REv (n + 1) s' t' ∧ RNt (n + 1) s' t' ∧ fr F_Chron_happen s s' ∧ fr F_evno (wI t 583 (ix i) c) t' := by
  have hb : inb i 300 = true := hi.inb h5
  have i2 := hi.2
  obtain ⟨⟨k1, k2, k3⟩, -, u1, -, -, u2⟩ := hcu
  obtain ⟨⟨c1, c2⟩, -⟩ := ht
  have a1 := hac.1
  have a2 := hac.2
  have e4 : (ac - cI 4).toInt = ac.toInt - 4 := sub_toInt (by rw [show (cI 4).toInt = 4 from rfl]; omega) (by rw [show (cI 4).toInt = 4 from rfl]; omega)
  have ei : ix (ac - cI 4) + 4 = ix ac := by rw [ix_toNat, ix_toNat, e4]; omega
  have hb2 : inb ac 34 = true := inb_iff.mpr ⟨by omega, by omega⟩
  have hb4 : inb (ac - cI 4) 30 = true := inb_iff.mpr ⟨by omega, by omega⟩
  have hX : t.1 627 (ix (ac - cI 4)) = s.1 28 (ix ac) := by rw [u1 _ (by rw [ix_toNat, ix_toNat]; omega), ei]
  obtain ⟨s2, t3, f1, f2, f3⟩ := ev_add (n := n) (s := s) (t := wI t 583 (ix i) c) (i := i) (so := c) (pl := pl) (wh := s.1 15 1) (he.keep rf_fr (fr.rf.wI (F := [(583, 583, 0)]) rfl) rfl rfl) (by omega) hi.1 (by omega)
  have r1 := fr_fChron_keep f1
  have r2 := fr_fM_event f2
  have q1 : RNt n s2 t3 := (hno.keep (t' := wI t 583 (ix i) c) rf_fr (fr.rf.wI (F := [(583, 583, 0)]) rfl) rfl rfl).keep r1 r2 rfl rfl
  have s28 : s2.1 28 = s.1 28 := (nof_c r1 (L := [(28, 0)]) rfl (c := 28) rfl).1
  have s15 : s2.1 15 1 = s.1 15 1 := (nof_s r1 (L := [(15, 2)]) rfl (c := 15) (k := 1) rfl).1
  have s157 : s2.1 15 7 = s.1 15 7 := (nof_s r1 (L := [(15, 8)]) rfl (c := 15) (k := 7) rfl).1
  have s1005 : s2.1 100 5 = s.1 100 5 := (nof_s r1 (L := [(100, 6)]) rfl (c := 100) (k := 5) rfl).1
  have s106 : s2.1 106 = s.1 106 := (nof_c r1 (L := [(106, 0)]) rfl (c := 106) rfl).1
  have t587 : t3.1 587 (ix i) = ac := by rw [(nof_c r2 (L := [(587, 0)]) rfl (c := 587) rfl).1, wI_ne (by decide), ham]
  have t627 : t3.1 627 = t.1 627 := by rw [(nof_c r2 (L := [(627, 0)]) rfl (c := 627) rfl).1, wI_ne (by decide)]
  have t22 : t3.1 549 22 = s.1 15 1 := by rw [(nof_s r2 (L := [(549, 23)]) rfl (c := 549) (k := 22) rfl).1, wI_ne (by decide), c1]
  obtain ⟨⟨n1, n2, n3⟩, g1, g2, g3, b1⟩ := id q1
  have y1 : fChron_happen s i ac c pl = if (s.1 28 (ix ac) >>> (c &&& 31)) &&& cI 1 = 0 then some s2 else if s2.1 15 7 < cI 3000 then (if inb (s2.1 15 7) 3000 = true then fChron_happen_b87 (wI (wI (wI (wI s2 24 (ix (s2.1 15 7)) ac) 25 (ix (s2.1 15 7)) i) 26 (ix (s2.1 15 7)) c) 27 (ix (s2.1 15 7)) (s.1 15 1)) else none) else fChron_happen_b87 s2 := by
    by_cases z1 : (s.1 28 (ix ac) >>> (c &&& 31)) &&& cI 1 = 0
    · simp only [fChron_happen, f1, bd1_some, if_pos hb2, s28, if_pos z1]
    · by_cases z2 : s2.1 15 7 < cI 3000
      · by_cases z3 : inb (s2.1 15 7) 3000 = true
        · simp (disch := decide) only [fChron_happen, f1, bd1_some, if_pos hb2, s28, if_neg z1, if_pos z2, if_pos z3, ix_0, ix_1, ix_2, ix_3, ix_4, ix_5, ix_6, ix_7, ix_8, ix_9, ix_10, ix_11, ix_12, ix_13, ix_14, ix_15, ix_16, ix_17, ix_18, ix_19, ix_20, ix_21, Nat.reduceAdd, wI_c, wI_ne, wL_1, lupd_ne, up1_eq, up1_ne, ltM_eq, s15]
        · simp only [fChron_happen, f1, bd1_some, if_pos hb2, s28, if_neg z1, if_pos z2, if_neg z3]
      · simp only [fChron_happen, f1, bd1_some, if_pos hb2, s28, if_neg z1, if_neg z2]
  have y2 : fM_comes t i c = if (s.1 28 (ix ac) >>> (c &&& 31)) &&& cI 1 = cI 1 then (if s2.1 15 7 < cI 3000 then (if inb (s2.1 15 7) 3000 = true then fM_comes_b87 (wI (wI (wI t3 644 (ix (s2.1 15 7)) i) 645 (ix (s2.1 15 7)) c) 646 (ix (s2.1 15 7)) (s.1 15 1)) else none) else fM_comes_b87 t3) else some t3 := by
    have w1 : (wI t 583 (ix i) c).1 591 (ix i) = pl := by rw [wI_ne (by decide)]; exact hpl
    have w2 : (wI t 583 (ix i) c).1 549 22 = s.1 15 1 := by rw [wI_ne (by decide)]; exact c1
    by_cases z1 : (s.1 28 (ix ac) >>> (c &&& 31)) &&& cI 1 = cI 1
    · by_cases z2 : s2.1 15 7 < cI 3000
      · by_cases z3 : inb (s2.1 15 7) 3000 = true
        · simp (disch := decide) only [fM_comes, if_pos hb, ltM_eq, w1, w2, f2, bd1_some, t587, if_pos hb4, t627, hX, if_pos z1, n1, if_pos z2, if_pos z3, ix_0, ix_1, ix_2, ix_3, ix_4, ix_5, ix_6, ix_7, ix_8, ix_9, ix_10, ix_11, ix_12, ix_13, ix_14, ix_15, ix_16, ix_17, ix_18, ix_19, ix_20, ix_21, Nat.reduceAdd, wI_c, wI_ne, wL_1, lupd_ne, up1_eq, up1_ne, t22]
        · simp (disch := decide) only [fM_comes, if_pos hb, ltM_eq, w1, w2, f2, bd1_some, t587, if_pos hb4, t627, hX, if_pos z1, n1, if_pos z2, if_neg z3]
      · simp (disch := decide) only [fM_comes, if_pos hb, ltM_eq, w1, w2, f2, bd1_some, t587, if_pos hb4, t627, hX, if_pos z1, n1, if_neg z2]
    · simp (disch := decide) only [fM_comes, if_pos hb, ltM_eq, w1, w2, f2, bd1_some, t587, if_pos hb4, t627, hX, if_neg z1]
  have r1' : fr F_Chron_happen s s2 := r1.mono (by decide +kernel)
  have r2' : fr F_evno (wI t 583 (ix i) c) t3 := r2.mono (by decide +kernel)
  rcases wbit (u2 (ix ac) (by rw [ix_toNat]; omega)) hc with z | z
  · have z2 : ¬ (s.1 28 (ix ac) >>> (c &&& 31)) &&& cI 1 = cI 1 := fun w => by rw [z] at w; exact absurd w (by decide)
    refine ⟨s2, t3, by rw [y1, if_pos z], by rw [y2, if_neg z2], f3, ?_, r1', r2'⟩
    exact ⟨⟨n1, n2, by omega⟩, g1, g2, g3, b1⟩
  · have z2 : ¬ (s.1 28 (ix ac) >>> (c &&& 31)) &&& cI 1 = 0 := fun w => by rw [z] at w; exact absurd w (by decide)
    rw [if_neg z2] at y1
    rw [if_pos z] at y2
    have xi : (s2.1 15 7 + cI 1).toInt = (s2.1 15 7).toInt + 1 := inc_i (by omega)
    have ex : ix (s2.1 15 7 + cI 1) = ix (s2.1 15 7) + 1 := ix_inc n2 (by omega)
    by_cases w : s2.1 15 7 < cI 3000
    · have hk : (s2.1 15 7).toInt < 3000 := lt_n w
      have hk2 : ix (s2.1 15 7) < 3000 := by rw [ix_toNat]; omega
      have w2 : inb (s2.1 15 7) 3000 = true := inb_iff.mpr ⟨n2, hk⟩
      rw [if_pos w, if_pos w2] at y1 y2
      have k0 : kept (s2.1 15 7) 3000 = ix (s2.1 15 7) := kept_lt hk2
      have kk : kept (s2.1 15 7 + cI 1) 3000 = ix (s2.1 15 7) + 1 := kept_in hk2 ex
      rw [k0] at g1 g2 g3 b1
      refine ⟨_, _, by rw [y1]; simp (disch := decide) only [fChron_happen_b87, ix_0, ix_1, ix_2, ix_3, ix_4, ix_5, ix_6, ix_7, ix_8, ix_9, ix_10, ix_11, ix_12, ix_13, ix_14, ix_15, ix_16, ix_17, ix_18, ix_19, ix_20, ix_21, Nat.reduceAdd, wI_c, wI_ne, wL_1, lupd_ne, up1_eq, up1_ne, ltM_eq]; rfl, by rw [y2]; simp (disch := decide) only [fM_comes_b87, ix_0, ix_1, ix_2, ix_3, ix_4, ix_5, ix_6, ix_7, ix_8, ix_9, ix_10, ix_11, ix_12, ix_13, ix_14, ix_15, ix_16, ix_17, ix_18, ix_19, ix_20, ix_21, Nat.reduceAdd, wI_c, wI_ne, wL_1, lupd_ne, up1_eq, up1_ne, ltM_eq]; rfl, f3.keep (((((fr.rf (F := [(15, 15, 8), (24, 27, 0)]).wI rfl).wI rfl).wI rfl).wI rfl).wI rfl) ((((fr.rf (F := [(549, 549, 135), (644, 646, 0)]).wI rfl).wI rfl).wI rfl).wI rfl) rfl rfl, ?_, (((((r1'.wI rfl).wI rfl).wI rfl).wI rfl).wI rfl), ((((r2'.wI rfl).wI rfl).wI rfl).wI rfl)⟩
      unfold RNt
      simp (disch := decide) only [ix_0, ix_1, ix_2, ix_3, ix_4, ix_5, ix_6, ix_7, ix_8, ix_9, ix_10, ix_11, ix_12, ix_13, ix_14, ix_15, ix_16, ix_17, ix_18, ix_19, ix_20, ix_21, Nat.reduceAdd, wI_c, wI_ne, wL_1, lupd_ne, up1_eq, up1_ne, n1, kk]
      refine ⟨⟨trivial, by omega, by omega⟩, g1.ext rfl rfl, g2.ext rfl rfl, g3.ext rfl rfl, fun e h => ?_⟩
      by_cases q : e = ix (s2.1 15 7)
      · rw [q, up1_eq, up1_eq, s1005, s106, ha]
        exact ⟨hi, rfl⟩
      · rw [up1_ne q, up1_ne q]
        exact b1 e (by omega)
    · rw [if_neg w] at y1 y2
      have hk : 3000 ≤ (s2.1 15 7).toInt := by
        rw [lt_i, show (cI 3000).toInt = 3000 from rfl] at w
        omega
      have k0 : kept (s2.1 15 7) 3000 = 3000 := kept_ge (by rw [ix_toNat]; omega)
      have kk : kept (s2.1 15 7 + cI 1) 3000 = 3000 := kept_ge (by rw [ex, ix_toNat]; omega)
      rw [k0] at g1 g2 g3 b1
      refine ⟨_, _, by rw [y1]; simp only [fChron_happen_b87, ltM_eq]; rfl, by rw [y2]; simp only [fM_comes_b87, ltM_eq]; rfl, f3.keep (fr.rf (F := [(15, 15, 8)]).wI rfl) (fr.rf (F := [(549, 549, 135)]).wI rfl) rfl rfl, ?_, r1'.wI rfl, r2'.wI rfl⟩
      unfold RNt
      simp (disch := decide) only [ix_0, ix_1, ix_2, ix_3, ix_4, ix_5, ix_6, ix_7, ix_8, ix_9, ix_10, ix_11, ix_12, ix_13, ix_14, ix_15, ix_16, ix_17, ix_18, ix_19, ix_20, ix_21, Nat.reduceAdd, wI_c, wI_ne, wL_1, lupd_ne, up1_eq, up1_ne, n1, kk]
      exact ⟨⟨trivial, by omega, by omega⟩, g1, g2, g3, b1⟩
