/-! ===== LEVEL 3: a count grows: what else speaks of it ===== -/
def gwr (s : ev_M) (c k : Nat) (x : Int32) (y : Int64) : ev_M := wL (wI s c k x) c k y
theorem gwr_id {m : ev_M} {c k : Nat} {a : Int32} {b : Int64} : gwr (gwr m c k a b) c k (m.1 c k) (m.2.1 c k) = m := by
  refine Prod.ext (funext fun p => funext fun q => ?_) (Prod.ext (funext fun p => funext fun q => ?_) rfl)
  · show (if p = c then (if q = k then m.1 c k else (if p = c then (if q = k then a else m.1 p q) else m.1 p q)) else (if p = c then (if q = k then a else m.1 p q) else m.1 p q)) = m.1 p q
    by_cases z : p = c
    · rw [if_pos z]
      by_cases y : q = k
      · rw [if_pos y, z, y]
      · rw [if_neg y, if_pos z, if_neg y]
    · rw [if_neg z, if_neg z]
  · show (if p = c then (if q = k then m.2.1 c k else (if p = c then (if q = k then b else m.2.1 p q) else m.2.1 p q)) else (if p = c then (if q = k then b else m.2.1 p q) else m.2.1 p q)) = m.2.1 p q
    by_cases z : p = c
    · rw [if_pos z]
      by_cases y : q = k
      · rw [if_pos y, z, y]
      · rw [if_neg y, if_pos z, if_neg y]
    · rw [if_neg z, if_neg z]
theorem fr_fix {F : List (Nat × (Nat × Nat))} {s s' : ev_M} {c k : Nat} (h : fr F s s') : fr (F.filter fun q => !(q == (c, c, k + 1))) s (gwr s' c k (s.1 c k) (s.2.1 c k)) := by
  refine ⟨fun p q hn => ?_, h.2⟩
  by_cases z : p = c ∧ q = k
  · obtain ⟨rfl, rfl⟩ := z
    constructor
    · show (if p = p then (if q = q then s.1 p q else s'.1 p q) else s'.1 p q) = s.1 p q
      rw [if_pos rfl, if_pos rfl]
    · show (if p = p then (if q = q then s.2.1 p q else s'.2.1 p q) else s'.2.1 p q) = s.2.1 p q
      rw [if_pos rfl, if_pos rfl]
  · have hF : inF F p q = false := by
      cases w : inF F p q with
      | false => rfl
      | true =>
        obtain ⟨r, r1, r2⟩ := List.any_eq_true.mp w
        by_cases y : r = (c, c, k + 1)
        · rw [y] at r2
          have r3 := (Bool.and_eq_true _ _).mp r2
          have r4 := (Bool.and_eq_true _ _).mp r3.1
          have a1 := Nat.le_of_ble_eq_true r4.1
          have a2 := Nat.le_of_ble_eq_true r4.2
          have a3 : k + 1 = q + 1 := by
            rcases (Bool.or_eq_true _ _).mp r3.2 with u | u
            · exact absurd (Nat.eq_of_beq_eq_true u) (Nat.succ_ne_zero k)
            · exact Nat.eq_of_beq_eq_true u
          exact absurd ⟨Nat.le_antisymm a2 a1, by omega⟩ z
        · have : inF (F.filter fun q => !(q == (c, c, k + 1))) p q = true := List.any_eq_true.mpr ⟨r, List.mem_filter.mpr ⟨r1, by simpa using y⟩, r2⟩
          rw [hn] at this
          exact absurd this (by decide)
    have k1 := h.1 p q hF
    constructor
    · show (if p = c then (if q = k then s.1 c k else s'.1 p q) else s'.1 p q) = s.1 p q
      by_cases y : p = c
      · rw [if_pos y, if_neg (fun u => z ⟨y, u⟩)]; exact k1.1
      · rw [if_neg y]; exact k1.1
    · show (if p = c then (if q = k then s.2.1 c k else s'.2.1 p q) else s'.2.1 p q) = s.2.1 p q
      by_cases y : p = c
      · rw [if_pos y, if_neg (fun u => z ⟨y, u⟩)]; exact k1.2
      · rw [if_neg y]; exact k1.2
theorem grow {X : ev_M → ev_M → Prop} {LC LM : List (Nat × Nat)} {c k : Nat} (hk : ∀ {F G : List (Nat × (Nat × Nat))} {s t s' t' : ev_M}, X s t → fr F s s' → fr G t t' → nof F LC = true → nof G LM = true → X s' t') (hg : ∀ (s t : ev_M) (x : Int32) (y : Int64), X s t → (s.1 c k).toInt ≤ x.toInt → X (gwr s c k x y) t) {F G : List (Nat × (Nat × Nat))} {s t s' t' : ev_M} (h : X s t) (hs : fr F s s') (ht : fr G t t') (d1 : nof (F.filter fun q => !(q == (c, c, k + 1))) LC = true) (d2 : nof G LM = true) (hc : (s.1 c k).toInt ≤ (s'.1 c k).toInt) : X s' t' := by
  have a := hk h (fr_fix (c := c) (k := k) hs) ht d1 d2
  have b := hg _ t' (s'.1 c k) (s'.2.1 c k) a (by
    show (if c = c then (if k = k then s.1 c k else s'.1 c k) else s'.1 c k).toInt ≤ _
    rw [if_pos rfl, if_pos rfl]; exact hc)
  rw [gwr_id] at b
  exact b
theorem ix_le {x y : Int32} (h : x.toInt ≤ y.toInt) : ix x ≤ ix y := by rw [ix_toNat, ix_toNat]; omega
section
variable {k q n : Nat}
theorem RLg.g78 (s t : ev_M) (x : Int32) (y : Int64) (h : RLg s t) (hx : (s.1 78 3).toInt ≤ x.toInt) : RLg (gwr s 78 3 x y) t := by
  obtain ⟨n1, g1, g2, g3, g4, g5, g6, g7, g8, g9⟩ := h
  have := ix_le hx
  unfold RLg gwr
  simp (disch := decide) only [ix_0, ix_1, ix_2, ix_3, ix_4, ix_5, ix_6, ix_7, ix_8, ix_9, ix_10, ix_11, ix_12, ix_13, ix_14, ix_15, ix_16, ix_17, ix_18, ix_19, ix_20, ix_21, Nat.reduceAdd, wI_c, wI_ne, wL_1, lupd_ne, up1_eq, up1_ne, wL_ne, wI_L]
  exact ⟨n1, g1, g2, g3, g4, g5, g6, g7, g8, fun k h1 h2 => g9 k (by omega) h2⟩
theorem ROm.g78 (s t : ev_M) (x : Int32) (y : Int64) (h : ROm s t) (hx : (s.1 78 3).toInt ≤ x.toInt) : ROm (gwr s 78 3 x y) t := by
  obtain ⟨n1, g1, g2, g3, g4, g5, g6, g7, g8, g9⟩ := h
  unfold ROm gwr
  simp (disch := decide) only [ix_0, ix_1, ix_2, ix_3, ix_4, ix_5, ix_6, ix_7, ix_8, ix_9, ix_10, ix_11, ix_12, ix_13, ix_14, ix_15, ix_16, ix_17, ix_18, ix_19, ix_20, ix_21, Nat.reduceAdd, wI_c, wI_ne, wL_1, lupd_ne, up1_eq, up1_ne, wL_ne, wI_L]
  exact ⟨n1, g1, g2, g3, g4, g5, g6, g7, fun k h1 => ⟨(g8 k h1).1, by have := (g8 k h1).2; omega⟩, g9⟩
theorem RIt.g78 (s t : ev_M) (x : Int32) (y : Int64) (h : RIt s t) (hx : (s.1 78 3).toInt ≤ x.toInt) : RIt (gwr s 78 3 x y) t := by
  obtain ⟨n1, g1, g2, g3, g4, g5, g6, g7, g8, g9, b1, b2, b3, b4, b5, b6⟩ := h
  unfold RIt gwr
  simp (disch := decide) only [ix_0, ix_1, ix_2, ix_3, ix_4, ix_5, ix_6, ix_7, ix_8, ix_9, ix_10, ix_11, ix_12, ix_13, ix_14, ix_15, ix_16, ix_17, ix_18, ix_19, ix_20, ix_21, Nat.reduceAdd, wI_c, wI_ne, wL_1, lupd_ne, up1_eq, up1_ne, wL_ne, wI_L]
  exact ⟨n1, g1, g2, g3, g4, g5, g6, g7, g8, g9, b1, b2, b3, b4, fun k h1 => ⟨(b5 k h1).1, by have := (b5 k h1).2; omega⟩, b6⟩
theorem RIt.g30 (s t : ev_M) (x : Int32) (y : Int64) (h : RIt s t) (hx : (s.1 30 9).toInt ≤ x.toInt) : RIt (gwr s 30 9 x y) t := by
  obtain ⟨n1, g1, g2, g3, g4, g5, g6, g7, g8, g9, b1, b2, b3, b4, b5, b6, b7, b8, b9⟩ := h
  unfold RIt gwr
  simp (disch := decide) only [ix_0, ix_1, ix_2, ix_3, ix_4, ix_5, ix_6, ix_7, ix_8, ix_9, ix_10, ix_11, ix_12, ix_13, ix_14, ix_15, ix_16, ix_17, ix_18, ix_19, ix_20, ix_21, Nat.reduceAdd, wI_c, wI_ne, wL_1, lupd_ne, up1_eq, up1_ne, wL_ne, wI_L]
  exact ⟨n1, g1, g2, g3, g4, g5, g6, g7, g8, g9, b1, b2, b3, b4, b5, b6, b7, fun k h1 => ⟨(b8 k h1).1, by have := (b8 k h1).2; omega⟩, b9⟩
theorem RIr.g30 (s t : ev_M) (x : Int32) (y : Int64) (h : RIr s t) (hx : (s.1 30 2).toInt ≤ x.toInt) : RIr (gwr s 30 2 x y) t := by
  obtain ⟨g1, g2, g3, g4, g5, g6, g7, b1, b2, b3, b4, b5, b6, b7⟩ := h
  unfold RIr gwr
  simp (disch := decide) only [ix_0, ix_1, ix_2, ix_3, ix_4, ix_5, ix_6, ix_7, ix_8, ix_9, ix_10, ix_11, ix_12, ix_13, ix_14, ix_15, ix_16, ix_17, ix_18, ix_19, ix_20, ix_21, Nat.reduceAdd, wI_c, wI_ne, wL_1, lupd_ne, up1_eq, up1_ne, wL_ne, wI_L]
  exact ⟨g1, g2, g3, g4, g5, g6, g7, fun k h1 => ⟨(b1 k h1).1, by have := (b1 k h1).2; omega⟩, b2, b3, b4, b5, b6, b7⟩
theorem RIr.g125 (s t : ev_M) (x : Int32) (y : Int64) (h : RIr s t) (hx : (s.1 125 3).toInt ≤ x.toInt) : RIr (gwr s 125 3 x y) t := by
  obtain ⟨g1, g2, g3, g4, g5, g6, g7, b1, b2, b3, b4, b5, b6, b7⟩ := h
  unfold RIr gwr
  simp (disch := decide) only [ix_0, ix_1, ix_2, ix_3, ix_4, ix_5, ix_6, ix_7, ix_8, ix_9, ix_10, ix_11, ix_12, ix_13, ix_14, ix_15, ix_16, ix_17, ix_18, ix_19, ix_20, ix_21, Nat.reduceAdd, wI_c, wI_ne, wL_1, lupd_ne, up1_eq, up1_ne, wL_ne, wI_L]
  exact ⟨g1, g2, g3, g4, g5, g6, g7, b1, b2, b3, b4, b5, fun k h1 => ⟨(b6 k h1).1, by have := (b6 k h1).2; omega⟩, b7⟩
theorem RIr.g449 (s t : ev_M) (x : Int32) (y : Int64) (h : RIr s t) (hx : (s.1 449 6).toInt ≤ x.toInt) : RIr (gwr s 449 6 x y) t := by
  obtain ⟨g1, g2, g3, g4, g5, g6, g7, b1, b2, b3, b4, b5, b6, b7⟩ := h
  unfold RIr gwr
  simp (disch := decide) only [ix_0, ix_1, ix_2, ix_3, ix_4, ix_5, ix_6, ix_7, ix_8, ix_9, ix_10, ix_11, ix_12, ix_13, ix_14, ix_15, ix_16, ix_17, ix_18, ix_19, ix_20, ix_21, Nat.reduceAdd, wI_c, wI_ne, wL_1, lupd_ne, up1_eq, up1_ne, wL_ne, wI_L]
  exact ⟨g1, g2, g3, g4, g5, g6, g7, b1, fun k h1 => ⟨(b2 k h1).1, by have := (b2 k h1).2; omega⟩, b3, b4, b5, b6, b7⟩
theorem RBg.g449 (s t : ev_M) (x : Int32) (y : Int64) (h : RBg s t) (hx : (s.1 449 4).toInt ≤ x.toInt) : RBg (gwr s 449 4 x y) t := by
  obtain ⟨n1, g1, g2, g3, g4, g5, b1, b2, b3, b4⟩ := h
  unfold RBg gwr
  simp (disch := decide) only [ix_0, ix_1, ix_2, ix_3, ix_4, ix_5, ix_6, ix_7, ix_8, ix_9, ix_10, ix_11, ix_12, ix_13, ix_14, ix_15, ix_16, ix_17, ix_18, ix_19, ix_20, ix_21, Nat.reduceAdd, wI_c, wI_ne, wL_1, lupd_ne, up1_eq, up1_ne, wL_ne, wI_L]
  exact ⟨n1, g1, g2, g3, g4, fun b hb => ⟨(g5 b hb).1, fun w => ⟨((g5 b hb).2 w).1, ((g5 b hb).2 w).2.1, by have := ((g5 b hb).2 w).2.2; omega⟩⟩, b1, b2, b3, fun k h1 => ⟨(b4 k h1).1, by have := (b4 k h1).2; omega⟩⟩
theorem RBg.g30 (s t : ev_M) (x : Int32) (y : Int64) (h : RBg s t) (hx : (s.1 30 2).toInt ≤ x.toInt) : RBg (gwr s 30 2 x y) t := by
  obtain ⟨n1, g1, g2, g3, g4, g5, b1, b2, b3, b4⟩ := h
  unfold RBg gwr
  simp (disch := decide) only [ix_0, ix_1, ix_2, ix_3, ix_4, ix_5, ix_6, ix_7, ix_8, ix_9, ix_10, ix_11, ix_12, ix_13, ix_14, ix_15, ix_16, ix_17, ix_18, ix_19, ix_20, ix_21, Nat.reduceAdd, wI_c, wI_ne, wL_1, lupd_ne, up1_eq, up1_ne, wL_ne, wI_L]
  exact ⟨n1, g1, g2, g3, g4, g5, b1, fun k h1 => ⟨(b2 k h1).1, by have := (b2 k h1).2; omega⟩, fun k h1 => ⟨(b3 k h1).1, by have := (b3 k h1).2; omega⟩, b4⟩
theorem RSy.g100 (s t : ev_M) (x : Int32) (y : Int64) (h : RSy s t) (hx : (s.1 100 5).toInt ≤ x.toInt) : RSy (gwr s 100 5 x y) t := by
  obtain ⟨n1, L, l1, l2, l3, l4⟩ := h
  have := ix_le hx
  unfold RSy gwr
  simp (disch := decide) only [ix_0, ix_1, ix_2, ix_3, ix_4, ix_5, ix_6, ix_7, ix_8, ix_9, ix_10, ix_11, ix_12, ix_13, ix_14, ix_15, ix_16, ix_17, ix_18, ix_19, ix_20, ix_21, Nat.reduceAdd, wI_c, wI_ne, wL_1, lupd_ne, up1_eq, up1_ne, wL_ne, wI_L]
  exact ⟨n1, L, l1, l2, fun x hx => by have := l3 x hx; omega, l4⟩
theorem ROr.g30 (s t : ev_M) (x : Int32) (y : Int64) (h : ROr s t) (hx : (s.1 30 9).toInt ≤ x.toInt) : ROr (gwr s 30 9 x y) t := by
  obtain ⟨n1, g1, g2, g3, g4, b1, b2, b3⟩ := h
  unfold ROr gwr
  simp (disch := decide) only [ix_0, ix_1, ix_2, ix_3, ix_4, ix_5, ix_6, ix_7, ix_8, ix_9, ix_10, ix_11, ix_12, ix_13, ix_14, ix_15, ix_16, ix_17, ix_18, ix_19, ix_20, ix_21, Nat.reduceAdd, wI_c, wI_ne, wL_1, lupd_ne, up1_eq, up1_ne, wL_ne, wI_L]
  exact ⟨n1, g1, g2, g3, g4, fun k h1 => ⟨(b1 k h1).1, by have := (b1 k h1).2; omega⟩, fun k h1 => ⟨(b2 k h1).1, by have := (b2 k h1).2; omega⟩, b3⟩
theorem RCu.g30 (s t : ev_M) (x : Int32) (y : Int64) (h : RCu s t) (hx : (s.1 30 9).toInt ≤ x.toInt) : RCu (gwr s 30 9 x y) t := by
  obtain ⟨n1, g1, g2, g3, b1, b2⟩ := h
  unfold RCu gwr
  simp (disch := decide) only [ix_0, ix_1, ix_2, ix_3, ix_4, ix_5, ix_6, ix_7, ix_8, ix_9, ix_10, ix_11, ix_12, ix_13, ix_14, ix_15, ix_16, ix_17, ix_18, ix_19, ix_20, ix_21, Nat.reduceAdd, wI_c, wI_ne, wL_1, lupd_ne, up1_eq, up1_ne, wL_ne, wI_L]
  exact ⟨n1, g1, g2, g3, fun k h1 => ⟨(b1 k h1).1, by have := (b1 k h1).2; omega⟩, b2⟩
theorem RSg.g30 (s t : ev_M) (x : Int32) (y : Int64) (h : RSg s t) (hx : (s.1 30 9).toInt ≤ x.toInt) : RSg (gwr s 30 9 x y) t := by
  obtain ⟨n1, g1⟩ := h
  unfold RSg gwr
  simp (disch := decide) only [ix_0, ix_1, ix_2, ix_3, ix_4, ix_5, ix_6, ix_7, ix_8, ix_9, ix_10, ix_11, ix_12, ix_13, ix_14, ix_15, ix_16, ix_17, ix_18, ix_19, ix_20, ix_21, Nat.reduceAdd, wI_c, wI_ne, wL_1, lupd_ne, up1_eq, up1_ne, wL_ne, wI_L]
  refine ⟨n1, ?_⟩
  rcases g1 with u | ⟨u1, u2, u3⟩
  · exact Or.inl u
  · exact Or.inr ⟨u1, u2, by omega⟩
theorem RLn.g30 (s t : ev_M) (x : Int32) (y : Int64) (h : RLn k s t) (hx : (s.1 30 2).toInt ≤ x.toInt) : RLn k (gwr s 30 2 x y) t := by
  obtain ⟨n1, g1, g2, g3, g4, g5, g6, g7, b1, b2, b3⟩ := h
  unfold RLn gwr
  simp (disch := decide) only [ix_0, ix_1, ix_2, ix_3, ix_4, ix_5, ix_6, ix_7, ix_8, ix_9, ix_10, ix_11, ix_12, ix_13, ix_14, ix_15, ix_16, ix_17, ix_18, ix_19, ix_20, ix_21, Nat.reduceAdd, wI_c, wI_ne, wL_1, lupd_ne, up1_eq, up1_ne, wL_ne, wI_L]
  exact ⟨n1, g1, g2, g3, g4, g5, g6, g7, fun k h1 => ⟨(b1 k h1).1, by have := (b1 k h1).2; omega⟩, fun k h1 => ⟨(b2 k h1).1, by have := (b2 k h1).2; omega⟩, b3⟩
theorem RRo.g30 (s t : ev_M) (x : Int32) (y : Int64) (h : RRo s t) (hx : (s.1 30 2).toInt ≤ x.toInt) : RRo (gwr s 30 2 x y) t := by
  obtain ⟨n1, g1, g2, g3, b1, b2⟩ := h
  unfold RRo gwr
  simp (disch := decide) only [ix_0, ix_1, ix_2, ix_3, ix_4, ix_5, ix_6, ix_7, ix_8, ix_9, ix_10, ix_11, ix_12, ix_13, ix_14, ix_15, ix_16, ix_17, ix_18, ix_19, ix_20, ix_21, Nat.reduceAdd, wI_c, wI_ne, wL_1, lupd_ne, up1_eq, up1_ne, wL_ne, wI_L]
  exact ⟨n1, g1, g2, g3, fun k h1 => ⟨(b1 k h1).1, by have := (b1 k h1).2; omega⟩, b2⟩
theorem RLk.g30 (s t : ev_M) (x : Int32) (y : Int64) (h : RLk s t) (hx : (s.1 30 2).toInt ≤ x.toInt) : RLk (gwr s 30 2 x y) t := by
  obtain ⟨n1, g1, g2, g3, b1, b2⟩ := h
  unfold RLk gwr
  simp (disch := decide) only [ix_0, ix_1, ix_2, ix_3, ix_4, ix_5, ix_6, ix_7, ix_8, ix_9, ix_10, ix_11, ix_12, ix_13, ix_14, ix_15, ix_16, ix_17, ix_18, ix_19, ix_20, ix_21, Nat.reduceAdd, wI_c, wI_ne, wL_1, lupd_ne, up1_eq, up1_ne, wL_ne, wI_L]
  exact ⟨n1, g1, g2, g3, fun k h1 => ⟨(b1 k h1).1, by have := (b1 k h1).2; omega⟩, b2⟩
theorem RLn.mono {m : Nat} {s t : ev_M} (h : RLn k s t) (hm : k ≤ m) : RLn m s t := by
  obtain ⟨n1, g1, g2, g3, g4, g5, g6, g7, b1, b2, b3, b4, b5, b6, b7⟩ := h
  exact ⟨n1, g1, g2, g3, g4, g5, g6, g7, b1, b2, b3, b4, b5, fun q hq => ⟨(b6 q hq).1, by have := (b6 q hq).2; omega⟩, fun q hq => ⟨(b7 q hq).1, by have := (b7 q hq).2; omega⟩⟩
/-- a new round's row is empty -/
theorem RRw.newR {s t s' t' : ev_M} {F G : List (Nat × (Nat × Nat))} (h : RRw s t) (n2 : 0 ≤ (s.1 138 3).toInt) (hs : fr F s s') (ht : fr G t t') (d1 : nof F [(100, 6), (160, 0), (161, 0), (162, 0), (163, 0), (164, 0), (165, 0), (166, 0), (167, 0), (168, 0), (169, 0), (170, 0), (171, 0)] = true) (d2 : nof G RRw_M = true) (e1 : s'.1 138 3 = s.1 138 3 + cI 1) (e2 : s'.1 144 = up1 (s.1 144) (ix (s.1 138 3)) (cI 0)) (h12 : (s.1 138 3).toInt < 12) : RRw s' t' := by
  obtain ⟨g1, g2⟩ := h
  have ei : ix (s.1 138 3 + cI 1) = ix (s.1 138 3) + 1 := ix_inc n2 (by omega)
  have e4 : (s.1 138 3 + cI 1).toInt = (s.1 138 3).toInt + 1 := inc_i (by omega)
  have nx := ix_toNat (s.1 138 3)
  have e100 : s'.1 100 5 = s.1 100 5 := (nof_s hs d1 (c := 100) (k := 5) rfl).1
  have m595 : t'.1 595 = t.1 595 := (nof_c ht d2 (c := 595) rfl).1
  have m596 : t'.1 596 = t.1 596 := (nof_c ht d2 (c := 596) rfl).1
  have er : rowsOf s' 160 12 = rowsOf s 160 12 := rows_eq (fun r hr => (nof_c hs d1 (c := 160 + r) (List.all_eq_true.mp (show (List.range 12).all (fun r => [(100, 6), (160, 0), (161, 0), (162, 0), (163, 0), (164, 0), (165, 0), (166, 0), (167, 0), (168, 0), (169, 0), (170, 0), (171, 0)].contains (160 + r, 0)) = true from by decide +kernel) r (List.mem_range.mpr hr))).1)
  unfold RRw
  rw [e1, e2, e100, m595, m596, er, ei, e4]
  refine ⟨fun i hi => ⟨(g1 i hi).1, by have := (g1 i hi).2; omega⟩, fun r hr => ?_⟩
  by_cases z : r = ix (s.1 138 3)
  · rw [z, up1_eq]
    refine ⟨[], ⟨rfl, fun k hk => absurd hk (Nat.not_lt_zero _)⟩, List.Pairwise.nil, fun i => ⟨fun u => absurd u List.not_mem_nil, fun u => ?_⟩⟩
    have := (g1 i u.1).2
    rw [u.2, q_ti (by omega)] at this
    omega
  · rw [up1_ne z]
    exact g2 r (by omega)
/-- a new line carries nothing yet -/
theorem RAv.leg {s t s' t' : ev_M} {F : List (Nat × (Nat × Nat))} {e : Int32} (h : RAv s t) (hB : RBg s t) (n2 : 0 ≤ (s.1 449 4).toInt) (hs : fr F s s') (d1 : nof F [(449, 7), (459, 0), (463, 0), (464, 0), (15, 2)] = true) (e1 : s'.1 449 4 = s.1 449 4 + cI 1) (e2 : s'.1 455 = up1 (s.1 455) (ix (s.1 449 4)) e) (h20 : (s.1 449 4).toInt < 20) (he : 1 ≤ e.toInt) : RAv s' t' := by
  obtain ⟨g1, g2⟩ := h
  obtain ⟨-, -, -, -, -, -, -, -, -, b4⟩ := hB
  have ei : ix (s.1 449 4 + cI 1) = ix (s.1 449 4) + 1 := ix_inc n2 (by omega)
  have nx := ix_toNat (s.1 449 4)
  unfold RAv
  rw [e1, e2, ei, (nof_s hs d1 (c := 449) (k := 6) rfl).1, (nof_c hs d1 (c := 459) rfl).1, (nof_c hs d1 (c := 463) rfl).1, (nof_c hs d1 (c := 464) rfl).1, (nof_s hs d1 (c := 15) (k := 1) rfl).1]
  refine ⟨g1, fun l hl => ?_⟩
  by_cases z : l = ix (s.1 449 4)
  · rw [z, up1_eq, cntE_0 _ (fun j hj u => by
      have := (b4 j hj).2
      rw [u, q_ti (by omega)] at this
      omega)]
    show ((0 : Nat) : Int) ≤ _
    omega
  · rw [up1_ne z]
    exact g2 l (by omega)
/-- a new bag is on no line -/
theorem RAv.bag {s t s' t' : ev_M} {F : List (Nat × (Nat × Nat))} (h : RAv s t) (n2 : 0 ≤ (s.1 449 6).toInt) (n4 : (s.1 449 4).toInt ≤ 20) (hs : fr F s s') (d1 : nof F [(449, 5), (455, 0), (15, 2)] = true) (e1 : s'.1 449 6 = s.1 449 6 + cI 1) (e2 : s'.1 459 = up1 (s.1 459) (ix (s.1 449 6)) (cI 0)) (e3 : s'.1 463 = up1 (s.1 463) (ix (s.1 449 6)) (cI (-1))) (e4 : s'.1 464 = up1 (s.1 464) (ix (s.1 449 6)) (cI (-1))) (h80 : (s.1 449 6).toInt < 80) : RAv s' t' := by
  obtain ⟨g1, g2⟩ := h
  have ei : ix (s.1 449 6 + cI 1) = ix (s.1 449 6) + 1 := ix_inc n2 (by omega)
  have n4x := ix_toNat (s.1 449 4)
  unfold RAv
  rw [e1, e2, e3, e4, ei, (nof_s hs d1 (c := 449) (k := 4) rfl).1, (nof_c hs d1 (c := 455) rfl).1, (nof_s hs d1 (c := 15) (k := 1) rfl).1]
  refine ⟨fun b hb h2 => ?_, fun l hl => ?_⟩
  · by_cases z : b = ix (s.1 449 6)
    · rw [z, up1_eq] at h2; exact absurd h2 (by decide)
    · rw [up1_ne z] at h2 ⊢
      exact g1 b (by omega) h2
  · rw [cntE_s, up1_eq, if_neg (neg1_ne (by omega)), Nat.add_zero]
    have w := cnt_un (f := s.1 463) (b := ix (s.1 449 6)) (show ¬ cI (-1) = cI (l : Int) from neg1_ne (by omega)) (ix (s.1 449 6))
    have := g2 l hl
    omega
/-- a bag that isn't on a line after changes nothing -/
theorem RAv.sub {s t s' t' : ev_M} {F : List (Nat × (Nat × Nat))} {a : Nat} {v : Int32} (h : RAv s t) (hs : fr F s s') (d1 : nof F [(449, 5), (449, 7), (455, 0), (463, 0), (464, 0), (15, 2)] = true) (e : s'.1 459 = up1 (s.1 459) a v) (hv : ¬ v = cI 2) : RAv s' t' := by
  obtain ⟨g1, g2⟩ := h
  unfold RAv
  rw [e, (nof_s hs d1 (c := 449) (k := 4) rfl).1, (nof_s hs d1 (c := 449) (k := 6) rfl).1, (nof_c hs d1 (c := 455) rfl).1, (nof_c hs d1 (c := 463) rfl).1, (nof_c hs d1 (c := 464) rfl).1, (nof_s hs d1 (c := 15) (k := 1) rfl).1]
  refine ⟨fun b hb h2 => ?_, g2⟩
  by_cases z : b = a
  · rw [z, up1_eq] at h2; exact absurd h2 hv
  · rw [up1_ne z] at h2; exact g1 b hb h2
end
