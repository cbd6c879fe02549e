/-! ===== THE VALUES that the constructors leave (printed) ===== -/
def mkS (m : Nat → Nat → Int32) (l : Nat → Nat → Int64) (n : Nat) (g : Nat → Nat → Bool) (c1 c2 : Nat) : ev_M := (m, (l, (n, (g, (c1, c2)))))
def rR (m : Nat → Nat → Int32) (c lo hi : Nat) (f : Nat → Int32) : Nat → Nat → Int32 := fun a b => if a = c ∧ lo ≤ b ∧ b < hi then f b else m a b
section
variable {m : Nat → Nat → Int32} {l : Nat → Nat → Int64} {n : Nat} {g : Nat → Nat → Bool} {c1 c2 : Nat}
theorem mk_nx : (mkS m l n g c1 c2).2.2.1 = n := rfl
theorem mk_fl : (mkS m l n g c1 c2).2.2.2.1 = g := rfl
theorem mk_c : (mkS m l n g c1 c2).2.2.2.2 = (c1, c2) := rfl
theorem mk_1 : (mkS m l n g c1 c2).1 = m := rfl
theorem mk_wI {c k : Nat} {x : Int32} : wI (mkS m l n g c1 c2) c k x = mkS (u2 m c k x) l n g c1 c2 := rfl
theorem mk_wF {c k : Nat} : wF (mkS m l n g c1 c2) c k = mkS m l n (u2 g c k true) c1 c2 := rfl
theorem mk_make {a w : Nat} : s_make a w (mkS m l n g c1 c2) = mkS (z_row 0 n (n + a) m) (z_row 0 n (n + a) l) (n + a) (z_row false n (n + a) g) (c1 + a) (c2 + w) := rfl
theorem mk_wR {c lo hi : Nat} {f : Nat → Int32} : wR (mkS m l n g c1 c2) c lo hi f = mkS (rR m c lo hi f) l n g c1 c2 := rfl
theorem u2_ap {α : Type} {f : Nat → Nat → α} {c k a b : Nat} {x : α} : u2 f c k x a b = if a = c then (if b = k then x else f a b) else f a b := rfl
theorem zr_ap {α : Type} {f : Nat → Nat → α} {lo hi a b : Nat} {z : α} : z_row z lo hi f a b = if lo ≤ a ∧ a < hi then z else f a b := rfl
theorem rR_ap {c lo hi a b : Nat} {f : Nat → Int32} : rR m c lo hi f a b = if a = c ∧ lo ≤ b ∧ b < hi then f b else m a b := rfl
end
set_option maxRecDepth 20000 in
set_option maxHeartbeats 40000000 in
theorem inv_C (m : Nat → Nat → Int32) (l : Nat → Nat → Int64) (g : Nat → Nat → Bool) (c1 c2 : Nat) : Ok (gPH_init (mkS m l 1 g c1 c2)) fun q => (q.2.2.2.2.1 ≤ c1 + 1000 ∧ q.2.2.2.2.2 ≤ c2 + 3000000) ∧ q.1 15 1 = 0 ∧ q.1 15 2 = 0 ∧ q.1 15 7 = 0 ∧ q.1 52 2 = 0 ∧ q.1 52 13 = 0 ∧ q.1 138 3 = 0 ∧ q.1 138 9 = 0 ∧ q.1 138 10 = 0 ∧ q.1 52 3 = -1 ∧ q.1 7 1 = -1 ∧ q.1 9 10 = -1 ∧ q.1 172 0 = 4 ∧ q.1 172 1 = 100 ∧ q.1 172 2 = 50 ∧ q.1 172 3 = 80 ∧ (∀ k, k < 300 → q.1 20 k = -1) ∧ (∀ k, k < 300 → q.1 21 k = -1) ∧ (∀ k, k < 34 → q.1 28 k = 0) ∧ (∀ k, k < 8 → q.1 29 k = 0) ∧ (∀ k, k < 120 → q.1 158 k = -1) := by
  simp only [gTape_init_1, gTape_init_4, gBars_init, gLog_init_1, gChron_clear, gChron_init_9, gBook_init_9_15, gSheet_clear, gSheet_init_9_30, gMoney_init_9_15_30, gItems_init_9_15_30_52_78, gLock_init_9_30_100, gRounds_clear, gRounds_init_9_30_100, gLines_init_9_15_30_100, gPH_init, e_gArr_fillI_20, e_gArr_fillI_21, e_gArr_fillI_28, e_gArr_fillI_29, e_gArr_fillI_158, ↓ltM_eq, ↓reduceIte, bd1_some, mk_nx, mk_fl, mk_wI, mk_wF, mk_make, mk_wR, u2_ap, zr_ap, cond_true, cond_false, Nat.reduceEqDiff, Nat.reduceLeDiff, Nat.reduceAdd, reduceIte, and_true, true_and, and_false, false_and, if_true, if_false]
  rw [ok_some]
  refine ⟨⟨by rw [mk_c]; dsimp only; omega, by rw [mk_c]; dsimp only; omega⟩, ?_⟩
  simp (config := { decide := true }) only [mk_1, u2_ap, zr_ap, rR_ap, Nat.reduceEqDiff, Nat.reduceLeDiff, Nat.reduceAdd, reduceIte, and_true, true_and, and_false, false_and, if_true, if_false, ix_toNat]
def symL : List Int := [31599, 11415, 29671, 29647, 23497, 31183, 31215, 29266, 31727, 31695, 11245, 27566, 14627, 27502, 31143, 31140, 14699, 23533, 29847, 4714, 23469, 18727, 24557, 31597, 11114, 27556, 11123, 27565, 14478, 29842, 23407, 23402, 23549, 23213, 23186, 29351]
def fcM (i : Nat) (t : ev_M) : Prop := if i = 0 then t.1 549 6 = cI (-1) else if i = 1 then t.1 549 161 = cI (-1) else t.2.2.2.1 549 i = true
/-- what stands while the reference is made: symbols, roots, facts, the next cell -/
def PM (c0 s0 j r : Nat) (b : List Nat) (n W : Nat) (t : ev_M) : Prop := (t.2.2.1 = n ∧ t.2.2.2.2.1 + 550 = c0 + n ∧ t.2.2.2.2.2 = s0 + W) ∧ (∀ k, k < j → t.1 657 k = cI (symL.getD k 0)) ∧ (∀ k, k < r → t.1 661 k = cI (rootsL.getD k 0)) ∧ ∀ i, i ∈ b → fcM i t
section
variable {c0 s0 j r n W : Nat} {b : List Nat} {t : ev_M}
theorem PM_make {a w : Nat} (h : PM c0 s0 j r b n W t) (h1 : 549 < n) (h2 : 657 < n ∨ j = 0) (h3 : 661 < n ∨ r = 0) : PM c0 s0 j r b (n + a) (W + w) (s_make a w t) := by
  obtain ⟨⟨e, e8, e9⟩, p1, p2, p3⟩ := h
  have z : ∀ c k, c < n → (s_make a w t).1 c k = t.1 c k := fun c k hc => if_neg (by rw [e]; omega)
  have zf : ∀ k, (s_make a w t).2.2.2.1 549 k = t.2.2.2.1 549 k := fun k => if_neg (by rw [e]; omega)
  refine ⟨⟨by show t.2.2.1 + a = _; rw [e], by show t.2.2.2.2.1 + a + 550 = _; omega, by show t.2.2.2.2.2 + w = _; omega⟩, fun k hk => (z _ _ (by omega)).trans (p1 k hk), fun k hk => (z _ _ (by omega)).trans (p2 k hk), fun i hi => ?_⟩
  have := p3 i hi
  unfold fcM at this ⊢
  rw [z _ _ h1, z _ _ h1, zf]
  exact this
theorem PM_wF {k : Nat} (h : PM c0 s0 j r b n W t) : PM c0 s0 j r b n W (wF t 549 k) := by
  obtain ⟨e, p1, p2, p3⟩ := h
  refine ⟨e, p1, p2, fun i hi => ?_⟩
  have := p3 i hi
  unfold fcM at this ⊢
  split
  · next h => rw [if_pos h] at this; exact this
  · next h =>
    rw [if_neg h] at this
    split
    · next h => rw [if_pos h] at this; exact this
    · next h =>
      rw [if_neg h] at this
      show u2 t.2.2.2.1 549 k true 549 i = true
      unfold u2
      rw [if_pos rfl]
      split
      · rfl
      · exact this
theorem PM_wFa {k : Nat} (h : PM c0 s0 j r b n W t) (hk : 2 ≤ k) : PM c0 s0 j r (k :: b) n W (wF t 549 k) := by
  obtain ⟨e, p1, p2, p3⟩ := PM_wF (k := k) h
  refine ⟨e, p1, p2, fun i hi => ?_⟩
  rcases List.mem_cons.mp hi with rfl | hi
  · unfold fcM
    rw [if_neg (by omega), if_neg (by omega)]
    show u2 t.2.2.2.1 549 i true 549 i = true
    unfold u2
    rw [if_pos rfl, if_pos rfl]
  · exact p3 i hi
theorem PM_wI {c k : Nat} {x : Int32} (h : PM c0 s0 j r b n W t) (h1 : c ≠ 657) (h2 : c ≠ 661) (h3 : c ≠ 549) : PM c0 s0 j r b n W (wI t c k x) := by
  obtain ⟨e, p1, p2, p3⟩ := h
  refine ⟨e, fun k hk => (congrFun (wI_ne h1.symm) k).trans (p1 k hk), fun k hk => (congrFun (wI_ne h2.symm) k).trans (p2 k hk), fun i hi => ?_⟩
  have := p3 i hi
  unfold fcM at this ⊢
  rw [wI_ne h3.symm]
  exact this
theorem PM_w6 (h : PM c0 s0 j r b n W t) : PM c0 s0 j r (0 :: b) n W (wI t 549 6 (cI (-1))) := by
  obtain ⟨e, p1, p2, p3⟩ := h
  refine ⟨e, fun k hk => (congrFun (wI_ne (by decide)) k).trans (p1 k hk), fun k hk => (congrFun (wI_ne (by decide)) k).trans (p2 k hk), fun i hi => ?_⟩
  unfold fcM
  rcases List.mem_cons.mp hi with rfl | hi
  · rw [if_pos rfl, wI_c, up1_eq]
  · have := p3 i hi
    unfold fcM at this
    rw [wI_c, up1_eq, up1_ne (by decide)]
    split
    · rfl
    · next h => rw [if_neg h] at this; exact this
theorem PM_w161 (h : PM c0 s0 j r b n W t) : PM c0 s0 j r (1 :: b) n W (wI t 549 161 (cI (-1))) := by
  obtain ⟨e, p1, p2, p3⟩ := h
  refine ⟨e, fun k hk => (congrFun (wI_ne (by decide)) k).trans (p1 k hk), fun k hk => (congrFun (wI_ne (by decide)) k).trans (p2 k hk), fun i hi => ?_⟩
  unfold fcM
  rcases List.mem_cons.mp hi with rfl | hi
  · rw [if_neg (by decide), if_pos rfl, wI_c, up1_eq]
  · have := p3 i hi
    unfold fcM at this
    rw [wI_c, up1_eq, up1_ne (by decide)]
    split
    · next h => rw [if_pos h] at this; exact this
    · next h =>
      rw [if_neg h] at this
      split
      · rfl
      · next h => rw [if_neg h] at this; exact this
theorem PM_sy {x : Int32} (h : PM c0 s0 j r b n W t) (e1 : x = cI (symL.getD j 0)) : PM c0 s0 (j + 1) r b n W (wI t 657 j x) := by
  obtain ⟨e, p1, p2, p3⟩ := h
  refine ⟨e, fun k hk => ?_, fun k hk => (congrFun (wI_ne (by decide)) k).trans (p2 k hk), fun i hi => ?_⟩
  · rw [wI_c]
    by_cases hq : k = j
    · rw [hq, up1_eq, e1]
    · rw [up1_ne hq]; exact p1 k (by omega)
  · have := p3 i hi
    unfold fcM at this ⊢
    rw [wI_ne (by decide)]
    exact this
theorem PM_ro {x : Int32} (h : PM c0 s0 j r b n W t) (e1 : x = cI (rootsL.getD r 0)) : PM c0 s0 j (r + 1) b n W (wI t 661 r x) := by
  obtain ⟨e, p1, p2, p3⟩ := h
  refine ⟨e, fun k hk => (congrFun (wI_ne (by decide)) k).trans (p1 k hk), fun k hk => ?_, fun i hi => ?_⟩
  · rw [wI_c]
    by_cases hq : k = r
    · rw [hq, up1_eq, e1]
    · rw [up1_ne hq]; exact p2 k (by omega)
  · have := p3 i hi
    unfold fcM at this ⊢
    rw [wI_ne (by decide)]
    exact this
theorem ok_if1 {α : Type} {c : Prop} [Decidable c] {a : Option α} {Q : α → Prop} (h : c) (k : Ok a Q) : Ok (if c then a else none) Q := by
  rw [if_pos h]; exact k
theorem ok_lt9 {α : Type} {v : ev_M} {B : ev_M → Option α} {Q : α → Prop} {R : ev_M → Prop} (h : R v) (k : ∀ s, R s → Ok (B s) Q) : Ok (ltM v B) Q := k v h
end
set_option maxHeartbeats 4000000 in
theorem inv_M {s : ev_M} (hs : s.2.2.1 = 550) : Ok (gM_init s) fun q => (∀ k, k < 36 → q.1 657 k = cI (symL.getD k 0)) ∧ (∀ k, k < 4 → q.1 661 k = cI (rootsL.getD k 0)) ∧ (∀ k, k < 60 → q.1 663 k = cI (powsL.getD k 0)) ∧ q.1 549 6 = cI (-1) ∧ q.1 549 161 = cI (-1) ∧ (∀ k, k < 300 → q.1 610 k = 0) ∧ (∀ k, k < 8 → q.1 647 k = 0) ∧ (∀ k, [22, 23, 24, 27, 33, 38, 43, 48, 49, 51, 58, 87, 91, 93, 101, 107, 111, 114, 119, 125, 129, 134].contains k = true → q.1 549 k = 0) ∧ q.1 549 50 = cI (-1) ∧ q.1 549 83 = cI 4 ∧ q.1 549 84 = cI 100 ∧ q.1 549 85 = cI 50 ∧ q.1 549 86 = cI 80 ∧ q.2.2.2.2.1 = s.2.2.2.2.1 + 131 ∧ q.2.2.2.2.2 = s.2.2.2.2.2 + 187941 := by
  have g0 : PM s.2.2.2.2.1 s.2.2.2.2.2 0 0 [] 550 0 s := ⟨⟨hs, rfl, rfl⟩, fun k hk => absurd hk (Nat.not_lt_zero k), fun k hk => absurd hk (Nat.not_lt_zero k), fun i hi => (by cases hi)⟩
  refine ok_if1 g0.1.1 ?_
  refine ok_lt9 (R := PM s.2.2.2.2.1 s.2.2.2.2.2 0 0 [] 551 4096) (PM_make g0 (by decide) (by decide) (by decide)) fun s4 g2 => ?_
  refine ok_lt9 (R := PM s.2.2.2.2.1 s.2.2.2.2.2 0 0 [] 551 4096) (PM_wF g2) fun s5 g3 => ?_
  refine ok_if1 g3.1.1 ?_
  refine ok_lt9 (R := PM s.2.2.2.2.1 s.2.2.2.2.2 0 0 [] 552 42752) (PM_make g3 (by decide) (by decide) (by decide)) fun s6 g5 => ?_
  refine ok_lt9 (R := PM s.2.2.2.2.1 s.2.2.2.2.2 0 0 [] 552 42752) (PM_wF g5) fun s7 g6 => ?_
  refine ok_lt9 (R := PM s.2.2.2.2.1 s.2.2.2.2.2 0 0 [0] 552 42752) (PM_w6 g6) fun s8 g7 => ?_
  refine ok_if1 g7.1.1 ?_
  refine ok_lt9 (R := PM s.2.2.2.2.1 s.2.2.2.2.2 0 0 [0] 553 79952) (PM_make g7 (by decide) (by decide) (by decide)) fun s9 g9 => ?_
  refine ok_lt9 (R := PM s.2.2.2.2.1 s.2.2.2.2.2 0 0 [0] 553 79952) (PM_wF g9) fun s10 g10 => ?_
  refine ok_if1 g10.1.1 ?_
  refine ok_lt9 (R := PM s.2.2.2.2.1 s.2.2.2.2.2 0 0 [0] 554 79958) (PM_make g10 (by decide) (by decide) (by decide)) fun s11 g12 => ?_
  refine ok_lt9 (R := PM s.2.2.2.2.1 s.2.2.2.2.2 0 0 [0] 554 79958) (PM_wF g12) fun s12 g13 => ?_
  refine ok_if1 g13.1.1 ?_
  refine ok_lt9 (R := PM s.2.2.2.2.1 s.2.2.2.2.2 0 0 [0] 555 84054) (PM_make g13 (by decide) (by decide) (by decide)) fun s13 g15 => ?_
  refine ok_lt9 (R := PM s.2.2.2.2.1 s.2.2.2.2.2 0 0 [0] 555 84054) (PM_wF g15) fun s14 g16 => ?_
  refine ok_if1 g16.1.1 ?_
  refine ok_lt9 (R := PM s.2.2.2.2.1 s.2.2.2.2.2 0 0 [0] 556 84205) (PM_make g16 (by decide) (by decide) (by decide)) fun s15 g18 => ?_
  refine ok_lt9 (R := PM s.2.2.2.2.1 s.2.2.2.2.2 0 0 [0] 556 84205) (PM_wF g18) fun s16 g19 => ?_
  refine ok_if1 g19.1.1 ?_
  refine ok_lt9 (R := PM s.2.2.2.2.1 s.2.2.2.2.2 0 0 [0] 557 84461) (PM_make g19 (by decide) (by decide) (by decide)) fun s17 g21 => ?_
  refine ok_lt9 (R := PM s.2.2.2.2.1 s.2.2.2.2.2 0 0 [0] 557 84461) (PM_wF g21) fun s18 g22 => ?_
  refine ok_if1 g22.1.1 ?_
  refine ok_lt9 (R := PM s.2.2.2.2.1 s.2.2.2.2.2 0 0 [0] 558 121661) (PM_make g22 (by decide) (by decide) (by decide)) fun s19 g24 => ?_
  refine ok_lt9 (R := PM s.2.2.2.2.1 s.2.2.2.2.2 0 0 [0] 558 121661) (PM_wF g24) fun s20 g25 => ?_
  refine ok_if1 g25.1.1 ?_
  refine ok_lt9 (R := PM s.2.2.2.2.1 s.2.2.2.2.2 0 0 [0] 559 121673) (PM_make g25 (by decide) (by decide) (by decide)) fun s21 g27 => ?_
  refine ok_lt9 (R := PM s.2.2.2.2.1 s.2.2.2.2.2 0 0 [0] 559 121673) (PM_wF g27) fun s22 g28 => ?_
  refine ok_if1 g28.1.1 ?_
  refine ok_lt9 (R := PM s.2.2.2.2.1 s.2.2.2.2.2 0 0 [0] 560 121685) (PM_make g28 (by decide) (by decide) (by decide)) fun s23 g30 => ?_
  refine ok_lt9 (R := PM s.2.2.2.2.1 s.2.2.2.2.2 0 0 [0] 560 121685) (PM_wF g30) fun s24 g31 => ?_
  refine ok_if1 g31.1.1 ?_
  refine ok_lt9 (R := PM s.2.2.2.2.1 s.2.2.2.2.2 0 0 [0] 561 121715) (PM_make g31 (by decide) (by decide) (by decide)) fun s25 g33 => ?_
  refine ok_lt9 (R := PM s.2.2.2.2.1 s.2.2.2.2.2 0 0 [0] 561 121715) (PM_wF g33) fun s26 g34 => ?_
  refine ok_if1 g34.1.1 ?_
  refine ok_lt9 (R := PM s.2.2.2.2.1 s.2.2.2.2.2 0 0 [0] 562 121745) (PM_make g34 (by decide) (by decide) (by decide)) fun s27 g36 => ?_
  refine ok_lt9 (R := PM s.2.2.2.2.1 s.2.2.2.2.2 0 0 [0] 562 121745) (PM_wF g36) fun s28 g37 => ?_
  refine ok_if1 g37.1.1 ?_
  refine ok_lt9 (R := PM s.2.2.2.2.1 s.2.2.2.2.2 0 0 [0] 563 121775) (PM_make g37 (by decide) (by decide) (by decide)) fun s29 g39 => ?_
  refine ok_lt9 (R := PM s.2.2.2.2.1 s.2.2.2.2.2 0 0 [0] 563 121775) (PM_wF g39) fun s30 g40 => ?_
  refine ok_if1 g40.1.1 ?_
  refine ok_lt9 (R := PM s.2.2.2.2.1 s.2.2.2.2.2 0 0 [0] 564 121805) (PM_make g40 (by decide) (by decide) (by decide)) fun s31 g42 => ?_
  refine ok_lt9 (R := PM s.2.2.2.2.1 s.2.2.2.2.2 0 0 [0] 564 121805) (PM_wF g42) fun s32 g43 => ?_
  refine ok_if1 g43.1.1 ?_
  refine ok_lt9 (R := PM s.2.2.2.2.1 s.2.2.2.2.2 0 0 [0] 565 121835) (PM_make g43 (by decide) (by decide) (by decide)) fun s33 g45 => ?_
  refine ok_lt9 (R := PM s.2.2.2.2.1 s.2.2.2.2.2 0 0 [0] 565 121835) (PM_wF g45) fun s34 g46 => ?_
  refine ok_if1 g46.1.1 ?_
  refine ok_lt9 (R := PM s.2.2.2.2.1 s.2.2.2.2.2 0 0 [0] 566 121895) (PM_make g46 (by decide) (by decide) (by decide)) fun s35 g48 => ?_
  refine ok_lt9 (R := PM s.2.2.2.2.1 s.2.2.2.2.2 0 0 [0] 566 121895) (PM_wF g48) fun s36 g49 => ?_
  refine ok_if1 g49.1.1 ?_
  refine ok_lt9 (R := PM s.2.2.2.2.1 s.2.2.2.2.2 0 0 [0] 567 121955) (PM_make g49 (by decide) (by decide) (by decide)) fun s37 g51 => ?_
  refine ok_lt9 (R := PM s.2.2.2.2.1 s.2.2.2.2.2 0 0 [0] 567 121955) (PM_wF g51) fun s38 g52 => ?_
  refine ok_if1 g52.1.1 ?_
  refine ok_lt9 (R := PM s.2.2.2.2.1 s.2.2.2.2.2 0 0 [0] 568 122015) (PM_make g52 (by decide) (by decide) (by decide)) fun s39 g54 => ?_
  refine ok_lt9 (R := PM s.2.2.2.2.1 s.2.2.2.2.2 0 0 [0] 568 122015) (PM_wF g54) fun s40 g55 => ?_
  refine ok_if1 g55.1.1 ?_
  refine ok_lt9 (R := PM s.2.2.2.2.1 s.2.2.2.2.2 0 0 [0] 569 122075) (PM_make g55 (by decide) (by decide) (by decide)) fun s41 g57 => ?_
  refine ok_lt9 (R := PM s.2.2.2.2.1 s.2.2.2.2.2 0 0 [0] 569 122075) (PM_wF g57) fun s42 g58 => ?_
  refine ok_if1 g58.1.1 ?_
  refine ok_lt9 (R := PM s.2.2.2.2.1 s.2.2.2.2.2 0 0 [0] 570 122195) (PM_make g58 (by decide) (by decide) (by decide)) fun s43 g60 => ?_
  refine ok_lt9 (R := PM s.2.2.2.2.1 s.2.2.2.2.2 0 0 [0] 570 122195) (PM_wF g60) fun s44 g61 => ?_
  refine ok_if1 g61.1.1 ?_
  refine ok_lt9 (R := PM s.2.2.2.2.1 s.2.2.2.2.2 0 0 [0] 571 122315) (PM_make g61 (by decide) (by decide) (by decide)) fun s45 g63 => ?_
  refine ok_lt9 (R := PM s.2.2.2.2.1 s.2.2.2.2.2 0 0 [0] 571 122315) (PM_wF g63) fun s46 g64 => ?_
  refine ok_if1 g64.1.1 ?_
  refine ok_lt9 (R := PM s.2.2.2.2.1 s.2.2.2.2.2 0 0 [0] 572 122435) (PM_make g64 (by decide) (by decide) (by decide)) fun s47 g66 => ?_
  refine ok_lt9 (R := PM s.2.2.2.2.1 s.2.2.2.2.2 0 0 [0] 572 122435) (PM_wF g66) fun s48 g67 => ?_
  refine ok_if1 g67.1.1 ?_
  refine ok_lt9 (R := PM s.2.2.2.2.1 s.2.2.2.2.2 0 0 [0] 573 122555) (PM_make g67 (by decide) (by decide) (by decide)) fun s49 g69 => ?_
  refine ok_lt9 (R := PM s.2.2.2.2.1 s.2.2.2.2.2 0 0 [0] 573 122555) (PM_wF g69) fun s50 g70 => ?_
  refine ok_if1 g70.1.1 ?_
  refine ok_lt9 (R := PM s.2.2.2.2.1 s.2.2.2.2.2 0 0 [0] 574 122615) (PM_make g70 (by decide) (by decide) (by decide)) fun s51 g72 => ?_
  refine ok_lt9 (R := PM s.2.2.2.2.1 s.2.2.2.2.2 0 0 [0] 574 122615) (PM_wF g72) fun s52 g73 => ?_
  refine ok_if1 g73.1.1 ?_
  refine ok_lt9 (R := PM s.2.2.2.2.1 s.2.2.2.2.2 0 0 [0] 575 122675) (PM_make g73 (by decide) (by decide) (by decide)) fun s53 g75 => ?_
  refine ok_lt9 (R := PM s.2.2.2.2.1 s.2.2.2.2.2 0 0 [0] 575 122675) (PM_wF g75) fun s54 g76 => ?_
  refine ok_if1 g76.1.1 ?_
  refine ok_lt9 (R := PM s.2.2.2.2.1 s.2.2.2.2.2 0 0 [0] 576 122735) (PM_make g76 (by decide) (by decide) (by decide)) fun s55 g78 => ?_
  refine ok_lt9 (R := PM s.2.2.2.2.1 s.2.2.2.2.2 0 0 [0] 576 122735) (PM_wF g78) fun s56 g79 => ?_
  refine ok_if1 g79.1.1 ?_
  refine ok_lt9 (R := PM s.2.2.2.2.1 s.2.2.2.2.2 0 0 [0] 577 122795) (PM_make g79 (by decide) (by decide) (by decide)) fun s57 g81 => ?_
  refine ok_lt9 (R := PM s.2.2.2.2.1 s.2.2.2.2.2 0 0 [0] 577 122795) (PM_wF g81) fun s58 g82 => ?_
  refine ok_if1 g82.1.1 ?_
  refine ok_lt9 (R := PM s.2.2.2.2.1 s.2.2.2.2.2 0 0 [0] 578 122806) (PM_make g82 (by decide) (by decide) (by decide)) fun s59 g84 => ?_
  refine ok_lt9 (R := PM s.2.2.2.2.1 s.2.2.2.2.2 0 0 [0] 578 122806) (PM_wF g84) fun s60 g85 => ?_
  refine ok_if1 g85.1.1 ?_
  refine ok_lt9 (R := PM s.2.2.2.2.1 s.2.2.2.2.2 0 0 [0] 579 123006) (PM_make g85 (by decide) (by decide) (by decide)) fun s61 g87 => ?_
  refine ok_lt9 (R := PM s.2.2.2.2.1 s.2.2.2.2.2 0 0 [0] 579 123006) (PM_wF g87) fun s62 g88 => ?_
  refine ok_if1 g88.1.1 ?_
  refine ok_lt9 (R := PM s.2.2.2.2.1 s.2.2.2.2.2 0 0 [0] 580 123206) (PM_make g88 (by decide) (by decide) (by decide)) fun s63 g90 => ?_
  refine ok_lt9 (R := PM s.2.2.2.2.1 s.2.2.2.2.2 0 0 [0] 580 123206) (PM_wF g90) fun s64 g91 => ?_
  refine ok_if1 g91.1.1 ?_
  refine ok_lt9 (R := PM s.2.2.2.2.1 s.2.2.2.2.2 0 0 [0] 581 123406) (PM_make g91 (by decide) (by decide) (by decide)) fun s65 g93 => ?_
  refine ok_lt9 (R := PM s.2.2.2.2.1 s.2.2.2.2.2 0 0 [0] 581 123406) (PM_wF g93) fun s66 g94 => ?_
  refine ok_if1 g94.1.1 ?_
  refine ok_lt9 (R := PM s.2.2.2.2.1 s.2.2.2.2.2 0 0 [0] 582 123606) (PM_make g94 (by decide) (by decide) (by decide)) fun s67 g96 => ?_
  refine ok_lt9 (R := PM s.2.2.2.2.1 s.2.2.2.2.2 0 0 [0] 582 123606) (PM_wF g96) fun s68 g97 => ?_
  refine ok_if1 g97.1.1 ?_
  refine ok_lt9 (R := PM s.2.2.2.2.1 s.2.2.2.2.2 0 0 [0] 583 123806) (PM_make g97 (by decide) (by decide) (by decide)) fun s69 g99 => ?_
  refine ok_lt9 (R := PM s.2.2.2.2.1 s.2.2.2.2.2 0 0 [0] 583 123806) (PM_wF g99) fun s70 g100 => ?_
  refine ok_if1 g100.1.1 ?_
  refine ok_lt9 (R := PM s.2.2.2.2.1 s.2.2.2.2.2 0 0 [0] 584 124106) (PM_make g100 (by decide) (by decide) (by decide)) fun s71 g102 => ?_
  refine ok_lt9 (R := PM s.2.2.2.2.1 s.2.2.2.2.2 0 0 [0] 584 124106) (PM_wF g102) fun s72 g103 => ?_
  refine ok_if1 g103.1.1 ?_
  refine ok_lt9 (R := PM s.2.2.2.2.1 s.2.2.2.2.2 0 0 [0] 585 124406) (PM_make g103 (by decide) (by decide) (by decide)) fun s73 g105 => ?_
  refine ok_lt9 (R := PM s.2.2.2.2.1 s.2.2.2.2.2 0 0 [0] 585 124406) (PM_wF g105) fun s74 g106 => ?_
  refine ok_if1 g106.1.1 ?_
  refine ok_lt9 (R := PM s.2.2.2.2.1 s.2.2.2.2.2 0 0 [0] 586 124706) (PM_make g106 (by decide) (by decide) (by decide)) fun s75 g108 => ?_
  refine ok_lt9 (R := PM s.2.2.2.2.1 s.2.2.2.2.2 0 0 [0] 586 124706) (PM_wF g108) fun s76 g109 => ?_
  refine ok_if1 g109.1.1 ?_
  refine ok_lt9 (R := PM s.2.2.2.2.1 s.2.2.2.2.2 0 0 [0] 587 125006) (PM_make g109 (by decide) (by decide) (by decide)) fun s77 g111 => ?_
  refine ok_lt9 (R := PM s.2.2.2.2.1 s.2.2.2.2.2 0 0 [0] 587 125006) (PM_wF g111) fun s78 g112 => ?_
  refine ok_if1 g112.1.1 ?_
  refine ok_lt9 (R := PM s.2.2.2.2.1 s.2.2.2.2.2 0 0 [0] 588 125306) (PM_make g112 (by decide) (by decide) (by decide)) fun s79 g114 => ?_
  refine ok_lt9 (R := PM s.2.2.2.2.1 s.2.2.2.2.2 0 0 [0] 588 125306) (PM_wF g114) fun s80 g115 => ?_
  refine ok_if1 g115.1.1 ?_
  refine ok_lt9 (R := PM s.2.2.2.2.1 s.2.2.2.2.2 0 0 [0] 589 125606) (PM_make g115 (by decide) (by decide) (by decide)) fun s81 g117 => ?_
  refine ok_lt9 (R := PM s.2.2.2.2.1 s.2.2.2.2.2 0 0 [0] 589 125606) (PM_wF g117) fun s82 g118 => ?_
  refine ok_if1 g118.1.1 ?_
  refine ok_lt9 (R := PM s.2.2.2.2.1 s.2.2.2.2.2 0 0 [0] 590 125906) (PM_make g118 (by decide) (by decide) (by decide)) fun s83 g120 => ?_
  refine ok_lt9 (R := PM s.2.2.2.2.1 s.2.2.2.2.2 0 0 [0] 590 125906) (PM_wF g120) fun s84 g121 => ?_
  refine ok_if1 g121.1.1 ?_
  refine ok_lt9 (R := PM s.2.2.2.2.1 s.2.2.2.2.2 0 0 [0] 591 126206) (PM_make g121 (by decide) (by decide) (by decide)) fun s85 g123 => ?_
  refine ok_lt9 (R := PM s.2.2.2.2.1 s.2.2.2.2.2 0 0 [0] 591 126206) (PM_wF g123) fun s86 g124 => ?_
  refine ok_if1 g124.1.1 ?_
  refine ok_lt9 (R := PM s.2.2.2.2.1 s.2.2.2.2.2 0 0 [0] 592 126506) (PM_make g124 (by decide) (by decide) (by decide)) fun s87 g126 => ?_
  refine ok_lt9 (R := PM s.2.2.2.2.1 s.2.2.2.2.2 0 0 [0] 592 126506) (PM_wF g126) fun s88 g127 => ?_
  refine ok_if1 g127.1.1 ?_
  refine ok_lt9 (R := PM s.2.2.2.2.1 s.2.2.2.2.2 0 0 [0] 593 126806) (PM_make g127 (by decide) (by decide) (by decide)) fun s89 g129 => ?_
  refine ok_lt9 (R := PM s.2.2.2.2.1 s.2.2.2.2.2 0 0 [0] 593 126806) (PM_wF g129) fun s90 g130 => ?_
  refine ok_if1 g130.1.1 ?_
  refine ok_lt9 (R := PM s.2.2.2.2.1 s.2.2.2.2.2 0 0 [0] 594 127106) (PM_make g130 (by decide) (by decide) (by decide)) fun s91 g132 => ?_
  refine ok_lt9 (R := PM s.2.2.2.2.1 s.2.2.2.2.2 0 0 [0] 594 127106) (PM_wF g132) fun s92 g133 => ?_
  refine ok_if1 g133.1.1 ?_
  refine ok_lt9 (R := PM s.2.2.2.2.1 s.2.2.2.2.2 0 0 [0] 595 127406) (PM_make g133 (by decide) (by decide) (by decide)) fun s93 g135 => ?_
  refine ok_lt9 (R := PM s.2.2.2.2.1 s.2.2.2.2.2 0 0 [0] 595 127406) (PM_wF g135) fun s94 g136 => ?_
  refine ok_if1 g136.1.1 ?_
  refine ok_lt9 (R := PM s.2.2.2.2.1 s.2.2.2.2.2 0 0 [0] 596 127706) (PM_make g136 (by decide) (by decide) (by decide)) fun s95 g138 => ?_
  refine ok_lt9 (R := PM s.2.2.2.2.1 s.2.2.2.2.2 0 0 [0] 596 127706) (PM_wF g138) fun s96 g139 => ?_
  refine ok_if1 g139.1.1 ?_
  refine ok_lt9 (R := PM s.2.2.2.2.1 s.2.2.2.2.2 0 0 [0] 597 128006) (PM_make g139 (by decide) (by decide) (by decide)) fun s97 g141 => ?_
  refine ok_lt9 (R := PM s.2.2.2.2.1 s.2.2.2.2.2 0 0 [0] 597 128006) (PM_wF g141) fun s98 g142 => ?_
  refine ok_if1 g142.1.1 ?_
  refine ok_lt9 (R := PM s.2.2.2.2.1 s.2.2.2.2.2 0 0 [0] 598 128306) (PM_make g142 (by decide) (by decide) (by decide)) fun s99 g144 => ?_
  refine ok_lt9 (R := PM s.2.2.2.2.1 s.2.2.2.2.2 0 0 [0] 598 128306) (PM_wF g144) fun s100 g145 => ?_
  refine ok_if1 g145.1.1 ?_
  refine ok_lt9 (R := PM s.2.2.2.2.1 s.2.2.2.2.2 0 0 [0] 599 128606) (PM_make g145 (by decide) (by decide) (by decide)) fun s101 g147 => ?_
  refine ok_lt9 (R := PM s.2.2.2.2.1 s.2.2.2.2.2 0 0 [0] 599 128606) (PM_wF g147) fun s102 g148 => ?_
  refine ok_if1 g148.1.1 ?_
  refine ok_lt9 (R := PM s.2.2.2.2.1 s.2.2.2.2.2 0 0 [0] 600 128906) (PM_make g148 (by decide) (by decide) (by decide)) fun s103 g150 => ?_
  refine ok_lt9 (R := PM s.2.2.2.2.1 s.2.2.2.2.2 0 0 [0] 600 128906) (PM_wF g150) fun s104 g151 => ?_
  refine ok_if1 g151.1.1 ?_
  refine ok_lt9 (R := PM s.2.2.2.2.1 s.2.2.2.2.2 0 0 [0] 601 129206) (PM_make g151 (by decide) (by decide) (by decide)) fun s105 g153 => ?_
  refine ok_lt9 (R := PM s.2.2.2.2.1 s.2.2.2.2.2 0 0 [0] 601 129206) (PM_wF g153) fun s106 g154 => ?_
  refine ok_if1 g154.1.1 ?_
  refine ok_lt9 (R := PM s.2.2.2.2.1 s.2.2.2.2.2 0 0 [0] 602 129506) (PM_make g154 (by decide) (by decide) (by decide)) fun s107 g156 => ?_
  refine ok_lt9 (R := PM s.2.2.2.2.1 s.2.2.2.2.2 0 0 [0] 602 129506) (PM_wF g156) fun s108 g157 => ?_
  refine ok_if1 g157.1.1 ?_
  refine ok_lt9 (R := PM s.2.2.2.2.1 s.2.2.2.2.2 0 0 [0] 603 129806) (PM_make g157 (by decide) (by decide) (by decide)) fun s109 g159 => ?_
  refine ok_lt9 (R := PM s.2.2.2.2.1 s.2.2.2.2.2 0 0 [0] 603 129806) (PM_wF g159) fun s110 g160 => ?_
  refine ok_if1 g160.1.1 ?_
  refine ok_lt9 (R := PM s.2.2.2.2.1 s.2.2.2.2.2 0 0 [0] 604 130106) (PM_make g160 (by decide) (by decide) (by decide)) fun s111 g162 => ?_
  refine ok_lt9 (R := PM s.2.2.2.2.1 s.2.2.2.2.2 0 0 [0] 604 130106) (PM_wF g162) fun s112 g163 => ?_
  refine ok_if1 g163.1.1 ?_
  refine ok_lt9 (R := PM s.2.2.2.2.1 s.2.2.2.2.2 0 0 [0] 605 130406) (PM_make g163 (by decide) (by decide) (by decide)) fun s113 g165 => ?_
  refine ok_lt9 (R := PM s.2.2.2.2.1 s.2.2.2.2.2 0 0 [0] 605 130406) (PM_wF g165) fun s114 g166 => ?_
  refine ok_if1 g166.1.1 ?_
  refine ok_lt9 (R := PM s.2.2.2.2.1 s.2.2.2.2.2 0 0 [0] 606 131306) (PM_make g166 (by decide) (by decide) (by decide)) fun s115 g168 => ?_
  refine ok_lt9 (R := PM s.2.2.2.2.1 s.2.2.2.2.2 0 0 [0] 606 131306) (PM_wF g168) fun s116 g169 => ?_
  refine ok_if1 g169.1.1 ?_
  refine ok_lt9 (R := PM s.2.2.2.2.1 s.2.2.2.2.2 0 0 [0] 607 132206) (PM_make g169 (by decide) (by decide) (by decide)) fun s117 g171 => ?_
  refine ok_lt9 (R := PM s.2.2.2.2.1 s.2.2.2.2.2 0 0 [0] 607 132206) (PM_wF g171) fun s118 g172 => ?_
  refine ok_if1 g172.1.1 ?_
  refine ok_lt9 (R := PM s.2.2.2.2.1 s.2.2.2.2.2 0 0 [0] 608 132218) (PM_make g172 (by decide) (by decide) (by decide)) fun s119 g174 => ?_
  refine ok_lt9 (R := PM s.2.2.2.2.1 s.2.2.2.2.2 0 0 [0] 608 132218) (PM_wF g174) fun s120 g175 => ?_
  refine ok_if1 g175.1.1 ?_
  refine ok_lt9 (R := PM s.2.2.2.2.1 s.2.2.2.2.2 0 0 [0] 609 132230) (PM_make g175 (by decide) (by decide) (by decide)) fun s121 g177 => ?_
  refine ok_lt9 (R := PM s.2.2.2.2.1 s.2.2.2.2.2 0 0 [0] 609 132230) (PM_wF g177) fun s122 g178 => ?_
  refine ok_if1 g178.1.1 ?_
  refine ok_lt9 (R := PM s.2.2.2.2.1 s.2.2.2.2.2 0 0 [0] 610 132242) (PM_make g178 (by decide) (by decide) (by decide)) fun s123 g180 => ?_
  refine ok_lt9 (R := PM s.2.2.2.2.1 s.2.2.2.2.2 0 0 [0] 610 132242) (PM_wF g180) fun s124 g181 => ?_
  refine ok_if1 g181.1.1 ?_
  refine ok_lt9 (R := PM s.2.2.2.2.1 s.2.2.2.2.2 0 0 [0] 611 132542) (PM_make g181 (by decide) (by decide) (by decide)) fun s125 g183 => ?_
  refine ok_lt9 (R := PM s.2.2.2.2.1 s.2.2.2.2.2 0 0 [92, 0] 611 132542) (PM_wFa g183 (by decide)) fun s126 g184 => ?_
  refine ok_if1 g184.1.1 ?_
  refine ok_lt9 (R := PM s.2.2.2.2.1 s.2.2.2.2.2 0 0 [92, 0] 612 132562) (PM_make g184 (by decide) (by decide) (by decide)) fun s127 g186 => ?_
  refine ok_lt9 (R := PM s.2.2.2.2.1 s.2.2.2.2.2 0 0 [92, 0] 612 132562) (PM_wF g186) fun s128 g187 => ?_
  refine ok_if1 g187.1.1 ?_
  refine ok_lt9 (R := PM s.2.2.2.2.1 s.2.2.2.2.2 0 0 [92, 0] 613 132582) (PM_make g187 (by decide) (by decide) (by decide)) fun s129 g189 => ?_
  refine ok_lt9 (R := PM s.2.2.2.2.1 s.2.2.2.2.2 0 0 [92, 0] 613 132582) (PM_wF g189) fun s130 g190 => ?_
  refine ok_if1 g190.1.1 ?_
  refine ok_lt9 (R := PM s.2.2.2.2.1 s.2.2.2.2.2 0 0 [92, 0] 614 132602) (PM_make g190 (by decide) (by decide) (by decide)) fun s131 g192 => ?_
  refine ok_lt9 (R := PM s.2.2.2.2.1 s.2.2.2.2.2 0 0 [92, 0] 614 132602) (PM_wF g192) fun s132 g193 => ?_
  refine ok_if1 g193.1.1 ?_
  refine ok_lt9 (R := PM s.2.2.2.2.1 s.2.2.2.2.2 0 0 [92, 0] 615 132622) (PM_make g193 (by decide) (by decide) (by decide)) fun s133 g195 => ?_
  refine ok_lt9 (R := PM s.2.2.2.2.1 s.2.2.2.2.2 0 0 [92, 0] 615 132622) (PM_wF g195) fun s134 g196 => ?_
  refine ok_if1 g196.1.1 ?_
  refine ok_lt9 (R := PM s.2.2.2.2.1 s.2.2.2.2.2 0 0 [92, 0] 616 132642) (PM_make g196 (by decide) (by decide) (by decide)) fun s135 g198 => ?_
  refine ok_lt9 (R := PM s.2.2.2.2.1 s.2.2.2.2.2 0 0 [92, 0] 616 132642) (PM_wF g198) fun s136 g199 => ?_
  refine ok_if1 g199.1.1 ?_
  refine ok_lt9 (R := PM s.2.2.2.2.1 s.2.2.2.2.2 0 0 [92, 0] 617 132662) (PM_make g199 (by decide) (by decide) (by decide)) fun s137 g201 => ?_
  refine ok_lt9 (R := PM s.2.2.2.2.1 s.2.2.2.2.2 0 0 [92, 0] 617 132662) (PM_wF g201) fun s138 g202 => ?_
  refine ok_if1 g202.1.1 ?_
  refine ok_lt9 (R := PM s.2.2.2.2.1 s.2.2.2.2.2 0 0 [92, 0] 618 132682) (PM_make g202 (by decide) (by decide) (by decide)) fun s139 g204 => ?_
  refine ok_lt9 (R := PM s.2.2.2.2.1 s.2.2.2.2.2 0 0 [92, 0] 618 132682) (PM_wF g204) fun s140 g205 => ?_
  refine ok_if1 g205.1.1 ?_
  refine ok_lt9 (R := PM s.2.2.2.2.1 s.2.2.2.2.2 0 0 [92, 0] 619 132762) (PM_make g205 (by decide) (by decide) (by decide)) fun s141 g207 => ?_
  refine ok_lt9 (R := PM s.2.2.2.2.1 s.2.2.2.2.2 0 0 [92, 0] 619 132762) (PM_wF g207) fun s142 g208 => ?_
  refine ok_if1 g208.1.1 ?_
  refine ok_lt9 (R := PM s.2.2.2.2.1 s.2.2.2.2.2 0 0 [92, 0] 620 132842) (PM_make g208 (by decide) (by decide) (by decide)) fun s143 g210 => ?_
  refine ok_lt9 (R := PM s.2.2.2.2.1 s.2.2.2.2.2 0 0 [92, 0] 620 132842) (PM_wF g210) fun s144 g211 => ?_
  refine ok_if1 g211.1.1 ?_
  refine ok_lt9 (R := PM s.2.2.2.2.1 s.2.2.2.2.2 0 0 [92, 0] 621 132922) (PM_make g211 (by decide) (by decide) (by decide)) fun s145 g213 => ?_
  refine ok_lt9 (R := PM s.2.2.2.2.1 s.2.2.2.2.2 0 0 [92, 0] 621 132922) (PM_wF g213) fun s146 g214 => ?_
  refine ok_if1 g214.1.1 ?_
  refine ok_lt9 (R := PM s.2.2.2.2.1 s.2.2.2.2.2 0 0 [92, 0] 622 133002) (PM_make g214 (by decide) (by decide) (by decide)) fun s147 g216 => ?_
  refine ok_lt9 (R := PM s.2.2.2.2.1 s.2.2.2.2.2 0 0 [92, 0] 622 133002) (PM_wF g216) fun s148 g217 => ?_
  refine ok_if1 g217.1.1 ?_
  refine ok_lt9 (R := PM s.2.2.2.2.1 s.2.2.2.2.2 0 0 [92, 0] 623 133082) (PM_make g217 (by decide) (by decide) (by decide)) fun s149 g219 => ?_
  refine ok_lt9 (R := PM s.2.2.2.2.1 s.2.2.2.2.2 0 0 [92, 0] 623 133082) (PM_wF g219) fun s150 g220 => ?_
  refine ok_if1 g220.1.1 ?_
  refine ok_lt9 (R := PM s.2.2.2.2.1 s.2.2.2.2.2 0 0 [92, 0] 624 133090) (PM_make g220 (by decide) (by decide) (by decide)) fun s151 g222 => ?_
  refine ok_lt9 (R := PM s.2.2.2.2.1 s.2.2.2.2.2 0 0 [92, 0] 624 133090) (PM_wF g222) fun s152 g223 => ?_
  refine ok_if1 g223.1.1 ?_
  refine ok_lt9 (R := PM s.2.2.2.2.1 s.2.2.2.2.2 0 0 [92, 0] 625 133098) (PM_make g223 (by decide) (by decide) (by decide)) fun s153 g225 => ?_
  refine ok_lt9 (R := PM s.2.2.2.2.1 s.2.2.2.2.2 0 0 [92, 0] 625 133098) (PM_wF g225) fun s154 g226 => ?_
  refine ok_if1 g226.1.1 ?_
  refine ok_lt9 (R := PM s.2.2.2.2.1 s.2.2.2.2.2 0 0 [92, 0] 626 133106) (PM_make g226 (by decide) (by decide) (by decide)) fun s155 g228 => ?_
  refine ok_lt9 (R := PM s.2.2.2.2.1 s.2.2.2.2.2 0 0 [92, 0] 626 133106) (PM_wF g228) fun s156 g229 => ?_
  refine ok_if1 g229.1.1 ?_
  refine ok_lt9 (R := PM s.2.2.2.2.1 s.2.2.2.2.2 0 0 [92, 0] 627 133136) (PM_make g229 (by decide) (by decide) (by decide)) fun s157 g231 => ?_
  refine ok_lt9 (R := PM s.2.2.2.2.1 s.2.2.2.2.2 0 0 [92, 0] 627 133136) (PM_wF g231) fun s158 g232 => ?_
  refine ok_if1 g232.1.1 ?_
  refine ok_lt9 (R := PM s.2.2.2.2.1 s.2.2.2.2.2 0 0 [92, 0] 628 133166) (PM_make g232 (by decide) (by decide) (by decide)) fun s159 g234 => ?_
  refine ok_lt9 (R := PM s.2.2.2.2.1 s.2.2.2.2.2 0 0 [92, 0] 628 133166) (PM_wF g234) fun s160 g235 => ?_
  refine ok_if1 g235.1.1 ?_
  refine ok_lt9 (R := PM s.2.2.2.2.1 s.2.2.2.2.2 0 0 [92, 0] 629 135166) (PM_make g235 (by decide) (by decide) (by decide)) fun s161 g237 => ?_
  refine ok_lt9 (R := PM s.2.2.2.2.1 s.2.2.2.2.2 0 0 [92, 0] 629 135166) (PM_wF g237) fun s162 g238 => ?_
  refine ok_if1 g238.1.1 ?_
  refine ok_lt9 (R := PM s.2.2.2.2.1 s.2.2.2.2.2 0 0 [92, 0] 630 137166) (PM_make g238 (by decide) (by decide) (by decide)) fun s163 g240 => ?_
  refine ok_lt9 (R := PM s.2.2.2.2.1 s.2.2.2.2.2 0 0 [92, 0] 630 137166) (PM_wF g240) fun s164 g241 => ?_
  refine ok_if1 g241.1.1 ?_
  refine ok_lt9 (R := PM s.2.2.2.2.1 s.2.2.2.2.2 0 0 [92, 0] 631 139166) (PM_make g241 (by decide) (by decide) (by decide)) fun s165 g243 => ?_
  refine ok_lt9 (R := PM s.2.2.2.2.1 s.2.2.2.2.2 0 0 [92, 0] 631 139166) (PM_wF g243) fun s166 g244 => ?_
  refine ok_if1 g244.1.1 ?_
  refine ok_lt9 (R := PM s.2.2.2.2.1 s.2.2.2.2.2 0 0 [92, 0] 632 141166) (PM_make g244 (by decide) (by decide) (by decide)) fun s167 g246 => ?_
  refine ok_lt9 (R := PM s.2.2.2.2.1 s.2.2.2.2.2 0 0 [92, 0] 632 141166) (PM_wF g246) fun s168 g247 => ?_
  refine ok_if1 g247.1.1 ?_
  refine ok_lt9 (R := PM s.2.2.2.2.1 s.2.2.2.2.2 0 0 [92, 0] 633 141226) (PM_make g247 (by decide) (by decide) (by decide)) fun s169 g249 => ?_
  refine ok_lt9 (R := PM s.2.2.2.2.1 s.2.2.2.2.2 0 0 [92, 0] 633 141226) (PM_wF g249) fun s170 g250 => ?_
  refine ok_if1 g250.1.1 ?_
  refine ok_lt9 (R := PM s.2.2.2.2.1 s.2.2.2.2.2 0 0 [92, 0] 634 141286) (PM_make g250 (by decide) (by decide) (by decide)) fun s171 g252 => ?_
  refine ok_lt9 (R := PM s.2.2.2.2.1 s.2.2.2.2.2 0 0 [92, 0] 634 141286) (PM_wF g252) fun s172 g253 => ?_
  refine ok_if1 g253.1.1 ?_
  refine ok_lt9 (R := PM s.2.2.2.2.1 s.2.2.2.2.2 0 0 [92, 0] 635 141346) (PM_make g253 (by decide) (by decide) (by decide)) fun s173 g255 => ?_
  refine ok_lt9 (R := PM s.2.2.2.2.1 s.2.2.2.2.2 0 0 [92, 0] 635 141346) (PM_wF g255) fun s174 g256 => ?_
  refine ok_if1 g256.1.1 ?_
  refine ok_lt9 (R := PM s.2.2.2.2.1 s.2.2.2.2.2 0 0 [92, 0] 636 141406) (PM_make g256 (by decide) (by decide) (by decide)) fun s175 g258 => ?_
  refine ok_lt9 (R := PM s.2.2.2.2.1 s.2.2.2.2.2 0 0 [92, 0] 636 141406) (PM_wF g258) fun s176 g259 => ?_
  refine ok_if1 g259.1.1 ?_
  refine ok_lt9 (R := PM s.2.2.2.2.1 s.2.2.2.2.2 0 0 [92, 0] 637 141466) (PM_make g259 (by decide) (by decide) (by decide)) fun s177 g261 => ?_
  refine ok_lt9 (R := PM s.2.2.2.2.1 s.2.2.2.2.2 0 0 [92, 0] 637 141466) (PM_wF g261) fun s178 g262 => ?_
  refine ok_if1 g262.1.1 ?_
  refine ok_lt9 (R := PM s.2.2.2.2.1 s.2.2.2.2.2 0 0 [92, 0] 638 141506) (PM_make g262 (by decide) (by decide) (by decide)) fun s179 g264 => ?_
  refine ok_lt9 (R := PM s.2.2.2.2.1 s.2.2.2.2.2 0 0 [92, 0] 638 141506) (PM_wF g264) fun s180 g265 => ?_
  refine ok_if1 g265.1.1 ?_
  refine ok_lt9 (R := PM s.2.2.2.2.1 s.2.2.2.2.2 0 0 [92, 0] 639 141546) (PM_make g265 (by decide) (by decide) (by decide)) fun s181 g267 => ?_
  refine ok_lt9 (R := PM s.2.2.2.2.1 s.2.2.2.2.2 0 0 [92, 0] 639 141546) (PM_wF g267) fun s182 g268 => ?_
  refine ok_if1 g268.1.1 ?_
  refine ok_lt9 (R := PM s.2.2.2.2.1 s.2.2.2.2.2 0 0 [92, 0] 640 141586) (PM_make g268 (by decide) (by decide) (by decide)) fun s183 g270 => ?_
  refine ok_lt9 (R := PM s.2.2.2.2.1 s.2.2.2.2.2 0 0 [92, 0] 640 141586) (PM_wF g270) fun s184 g271 => ?_
  refine ok_if1 g271.1.1 ?_
  refine ok_lt9 (R := PM s.2.2.2.2.1 s.2.2.2.2.2 0 0 [92, 0] 641 146586) (PM_make g271 (by decide) (by decide) (by decide)) fun s185 g273 => ?_
  refine ok_lt9 (R := PM s.2.2.2.2.1 s.2.2.2.2.2 0 0 [92, 0] 641 146586) (PM_wF g273) fun s186 g274 => ?_
  refine ok_if1 g274.1.1 ?_
  refine ok_lt9 (R := PM s.2.2.2.2.1 s.2.2.2.2.2 0 0 [92, 0] 642 151586) (PM_make g274 (by decide) (by decide) (by decide)) fun s187 g276 => ?_
  refine ok_lt9 (R := PM s.2.2.2.2.1 s.2.2.2.2.2 0 0 [92, 0] 642 151586) (PM_wF g276) fun s188 g277 => ?_
  refine ok_if1 g277.1.1 ?_
  refine ok_lt9 (R := PM s.2.2.2.2.1 s.2.2.2.2.2 0 0 [92, 0] 643 156586) (PM_make g277 (by decide) (by decide) (by decide)) fun s189 g279 => ?_
  refine ok_lt9 (R := PM s.2.2.2.2.1 s.2.2.2.2.2 0 0 [92, 0] 643 156586) (PM_wF g279) fun s190 g280 => ?_
  refine ok_if1 g280.1.1 ?_
  refine ok_lt9 (R := PM s.2.2.2.2.1 s.2.2.2.2.2 0 0 [92, 0] 644 161586) (PM_make g280 (by decide) (by decide) (by decide)) fun s191 g282 => ?_
  refine ok_lt9 (R := PM s.2.2.2.2.1 s.2.2.2.2.2 0 0 [92, 0] 644 161586) (PM_wF g282) fun s192 g283 => ?_
  refine ok_if1 g283.1.1 ?_
  refine ok_lt9 (R := PM s.2.2.2.2.1 s.2.2.2.2.2 0 0 [92, 0] 645 164586) (PM_make g283 (by decide) (by decide) (by decide)) fun s193 g285 => ?_
  refine ok_lt9 (R := PM s.2.2.2.2.1 s.2.2.2.2.2 0 0 [92, 0] 645 164586) (PM_wF g285) fun s194 g286 => ?_
  refine ok_if1 g286.1.1 ?_
  refine ok_lt9 (R := PM s.2.2.2.2.1 s.2.2.2.2.2 0 0 [92, 0] 646 167586) (PM_make g286 (by decide) (by decide) (by decide)) fun s195 g288 => ?_
  refine ok_lt9 (R := PM s.2.2.2.2.1 s.2.2.2.2.2 0 0 [92, 0] 646 167586) (PM_wF g288) fun s196 g289 => ?_
  refine ok_if1 g289.1.1 ?_
  refine ok_lt9 (R := PM s.2.2.2.2.1 s.2.2.2.2.2 0 0 [92, 0] 647 170586) (PM_make g289 (by decide) (by decide) (by decide)) fun s197 g291 => ?_
  refine ok_lt9 (R := PM s.2.2.2.2.1 s.2.2.2.2.2 0 0 [92, 0] 647 170586) (PM_wF g291) fun s198 g292 => ?_
  refine ok_if1 g292.1.1 ?_
  refine ok_lt9 (R := PM s.2.2.2.2.1 s.2.2.2.2.2 0 0 [92, 0] 648 170594) (PM_make g292 (by decide) (by decide) (by decide)) fun s199 g294 => ?_
  refine ok_lt9 (R := PM s.2.2.2.2.1 s.2.2.2.2.2 0 0 [138, 92, 0] 648 170594) (PM_wFa g294 (by decide)) fun s200 g295 => ?_
  refine ok_if1 g295.1.1 ?_
  refine ok_lt9 (R := PM s.2.2.2.2.1 s.2.2.2.2.2 0 0 [138, 92, 0] 649 170714) (PM_make g295 (by decide) (by decide) (by decide)) fun s201 g297 => ?_
  refine ok_lt9 (R := PM s.2.2.2.2.1 s.2.2.2.2.2 0 0 [138, 92, 0] 649 170714) (PM_wF g297) fun s202 g298 => ?_
  refine ok_if1 g298.1.1 ?_
  refine ok_lt9 (R := PM s.2.2.2.2.1 s.2.2.2.2.2 0 0 [138, 92, 0] 650 174810) (PM_make g298 (by decide) (by decide) (by decide)) fun s203 g300 => ?_
  refine ok_lt9 (R := PM s.2.2.2.2.1 s.2.2.2.2.2 0 0 [138, 92, 0] 650 174810) (PM_wF g300) fun s204 g301 => ?_
  refine ok_if1 g301.1.1 ?_
  refine ok_lt9 (R := PM s.2.2.2.2.1 s.2.2.2.2.2 0 0 [138, 92, 0] 651 178906) (PM_make g301 (by decide) (by decide) (by decide)) fun s205 g303 => ?_
  refine ok_lt9 (R := PM s.2.2.2.2.1 s.2.2.2.2.2 0 0 [138, 92, 0] 651 178906) (PM_wF g303) fun s206 g304 => ?_
  refine ok_if1 g304.1.1 ?_
  refine ok_lt9 (R := PM s.2.2.2.2.1 s.2.2.2.2.2 0 0 [138, 92, 0] 652 183002) (PM_make g304 (by decide) (by decide) (by decide)) fun s207 g306 => ?_
  refine ok_lt9 (R := PM s.2.2.2.2.1 s.2.2.2.2.2 0 0 [138, 92, 0] 652 183002) (PM_wF g306) fun s208 g307 => ?_
  refine ok_if1 g307.1.1 ?_
  refine ok_lt9 (R := PM s.2.2.2.2.1 s.2.2.2.2.2 0 0 [138, 92, 0] 653 183202) (PM_make g307 (by decide) (by decide) (by decide)) fun s209 g309 => ?_
  refine ok_lt9 (R := PM s.2.2.2.2.1 s.2.2.2.2.2 0 0 [138, 92, 0] 653 183202) (PM_wF g309) fun s210 g310 => ?_
  refine ok_if1 g310.1.1 ?_
  refine ok_lt9 (R := PM s.2.2.2.2.1 s.2.2.2.2.2 0 0 [138, 92, 0] 654 183402) (PM_make g310 (by decide) (by decide) (by decide)) fun s211 g312 => ?_
  refine ok_lt9 (R := PM s.2.2.2.2.1 s.2.2.2.2.2 0 0 [138, 92, 0] 654 183402) (PM_wF g312) fun s212 g313 => ?_
  refine ok_if1 g313.1.1 ?_
  refine ok_lt9 (R := PM s.2.2.2.2.1 s.2.2.2.2.2 0 0 [138, 92, 0] 655 183602) (PM_make g313 (by decide) (by decide) (by decide)) fun s213 g315 => ?_
  refine ok_lt9 (R := PM s.2.2.2.2.1 s.2.2.2.2.2 0 0 [138, 92, 0] 655 183602) (PM_wF g315) fun s214 g316 => ?_
  refine ok_if1 g316.1.1 ?_
  refine ok_lt9 (R := PM s.2.2.2.2.1 s.2.2.2.2.2 0 0 [138, 92, 0] 656 183802) (PM_make g316 (by decide) (by decide) (by decide)) fun s215 g318 => ?_
  refine ok_lt9 (R := PM s.2.2.2.2.1 s.2.2.2.2.2 0 0 [138, 92, 0] 656 183802) (PM_wF g318) fun s216 g319 => ?_
  refine ok_if1 g319.1.1 ?_
  refine ok_lt9 (R := PM s.2.2.2.2.1 s.2.2.2.2.2 0 0 [138, 92, 0] 657 184002) (PM_make g319 (by decide) (by decide) (by decide)) fun s217 g321 => ?_
  refine ok_lt9 (R := PM s.2.2.2.2.1 s.2.2.2.2.2 0 0 [138, 92, 0] 657 184002) (PM_wF g321) fun s218 g322 => ?_
  refine ok_if1 g322.1.1 ?_
  refine ok_lt9 (R := PM s.2.2.2.2.1 s.2.2.2.2.2 0 0 [138, 92, 0] 658 184038) (PM_make g322 (by decide) (by decide) (by decide)) fun s219 g324 => ?_
  refine ok_lt9 (R := PM s.2.2.2.2.1 s.2.2.2.2.2 1 0 [138, 92, 0] 658 184038) (PM_sy g324 rfl) fun s220 g325 => ?_
  refine ok_lt9 (R := PM s.2.2.2.2.1 s.2.2.2.2.2 2 0 [138, 92, 0] 658 184038) (PM_sy g325 rfl) fun s221 g326 => ?_
  refine ok_lt9 (R := PM s.2.2.2.2.1 s.2.2.2.2.2 3 0 [138, 92, 0] 658 184038) (PM_sy g326 rfl) fun s222 g327 => ?_
  refine ok_lt9 (R := PM s.2.2.2.2.1 s.2.2.2.2.2 4 0 [138, 92, 0] 658 184038) (PM_sy g327 rfl) fun s223 g328 => ?_
  refine ok_lt9 (R := PM s.2.2.2.2.1 s.2.2.2.2.2 5 0 [138, 92, 0] 658 184038) (PM_sy g328 rfl) fun s224 g329 => ?_
  refine ok_lt9 (R := PM s.2.2.2.2.1 s.2.2.2.2.2 6 0 [138, 92, 0] 658 184038) (PM_sy g329 rfl) fun s225 g330 => ?_
  refine ok_lt9 (R := PM s.2.2.2.2.1 s.2.2.2.2.2 7 0 [138, 92, 0] 658 184038) (PM_sy g330 rfl) fun s226 g331 => ?_
  refine ok_lt9 (R := PM s.2.2.2.2.1 s.2.2.2.2.2 8 0 [138, 92, 0] 658 184038) (PM_sy g331 rfl) fun s227 g332 => ?_
  refine ok_lt9 (R := PM s.2.2.2.2.1 s.2.2.2.2.2 9 0 [138, 92, 0] 658 184038) (PM_sy g332 rfl) fun s228 g333 => ?_
  refine ok_lt9 (R := PM s.2.2.2.2.1 s.2.2.2.2.2 10 0 [138, 92, 0] 658 184038) (PM_sy g333 rfl) fun s229 g334 => ?_
  refine ok_lt9 (R := PM s.2.2.2.2.1 s.2.2.2.2.2 11 0 [138, 92, 0] 658 184038) (PM_sy g334 rfl) fun s230 g335 => ?_
  refine ok_lt9 (R := PM s.2.2.2.2.1 s.2.2.2.2.2 12 0 [138, 92, 0] 658 184038) (PM_sy g335 rfl) fun s231 g336 => ?_
  refine ok_lt9 (R := PM s.2.2.2.2.1 s.2.2.2.2.2 13 0 [138, 92, 0] 658 184038) (PM_sy g336 rfl) fun s232 g337 => ?_
  refine ok_lt9 (R := PM s.2.2.2.2.1 s.2.2.2.2.2 14 0 [138, 92, 0] 658 184038) (PM_sy g337 rfl) fun s233 g338 => ?_
  refine ok_lt9 (R := PM s.2.2.2.2.1 s.2.2.2.2.2 15 0 [138, 92, 0] 658 184038) (PM_sy g338 rfl) fun s234 g339 => ?_
  refine ok_lt9 (R := PM s.2.2.2.2.1 s.2.2.2.2.2 16 0 [138, 92, 0] 658 184038) (PM_sy g339 rfl) fun s235 g340 => ?_
  refine ok_lt9 (R := PM s.2.2.2.2.1 s.2.2.2.2.2 17 0 [138, 92, 0] 658 184038) (PM_sy g340 rfl) fun s236 g341 => ?_
  refine ok_lt9 (R := PM s.2.2.2.2.1 s.2.2.2.2.2 18 0 [138, 92, 0] 658 184038) (PM_sy g341 rfl) fun s237 g342 => ?_
  refine ok_lt9 (R := PM s.2.2.2.2.1 s.2.2.2.2.2 19 0 [138, 92, 0] 658 184038) (PM_sy g342 rfl) fun s238 g343 => ?_
  refine ok_lt9 (R := PM s.2.2.2.2.1 s.2.2.2.2.2 20 0 [138, 92, 0] 658 184038) (PM_sy g343 rfl) fun s239 g344 => ?_
  refine ok_lt9 (R := PM s.2.2.2.2.1 s.2.2.2.2.2 21 0 [138, 92, 0] 658 184038) (PM_sy g344 rfl) fun s240 g345 => ?_
  refine ok_lt9 (R := PM s.2.2.2.2.1 s.2.2.2.2.2 22 0 [138, 92, 0] 658 184038) (PM_sy g345 rfl) fun s241 g346 => ?_
  refine ok_lt9 (R := PM s.2.2.2.2.1 s.2.2.2.2.2 23 0 [138, 92, 0] 658 184038) (PM_sy g346 rfl) fun s242 g347 => ?_
  refine ok_lt9 (R := PM s.2.2.2.2.1 s.2.2.2.2.2 24 0 [138, 92, 0] 658 184038) (PM_sy g347 rfl) fun s243 g348 => ?_
  refine ok_lt9 (R := PM s.2.2.2.2.1 s.2.2.2.2.2 25 0 [138, 92, 0] 658 184038) (PM_sy g348 rfl) fun s244 g349 => ?_
  refine ok_lt9 (R := PM s.2.2.2.2.1 s.2.2.2.2.2 26 0 [138, 92, 0] 658 184038) (PM_sy g349 rfl) fun s245 g350 => ?_
  refine ok_lt9 (R := PM s.2.2.2.2.1 s.2.2.2.2.2 27 0 [138, 92, 0] 658 184038) (PM_sy g350 rfl) fun s246 g351 => ?_
  refine ok_lt9 (R := PM s.2.2.2.2.1 s.2.2.2.2.2 28 0 [138, 92, 0] 658 184038) (PM_sy g351 rfl) fun s247 g352 => ?_
  refine ok_lt9 (R := PM s.2.2.2.2.1 s.2.2.2.2.2 29 0 [138, 92, 0] 658 184038) (PM_sy g352 rfl) fun s248 g353 => ?_
  refine ok_lt9 (R := PM s.2.2.2.2.1 s.2.2.2.2.2 30 0 [138, 92, 0] 658 184038) (PM_sy g353 rfl) fun s249 g354 => ?_
  refine ok_lt9 (R := PM s.2.2.2.2.1 s.2.2.2.2.2 31 0 [138, 92, 0] 658 184038) (PM_sy g354 rfl) fun s250 g355 => ?_
  refine ok_lt9 (R := PM s.2.2.2.2.1 s.2.2.2.2.2 32 0 [138, 92, 0] 658 184038) (PM_sy g355 rfl) fun s251 g356 => ?_
  refine ok_lt9 (R := PM s.2.2.2.2.1 s.2.2.2.2.2 33 0 [138, 92, 0] 658 184038) (PM_sy g356 rfl) fun s252 g357 => ?_
  refine ok_lt9 (R := PM s.2.2.2.2.1 s.2.2.2.2.2 34 0 [138, 92, 0] 658 184038) (PM_sy g357 rfl) fun s253 g358 => ?_
  refine ok_lt9 (R := PM s.2.2.2.2.1 s.2.2.2.2.2 35 0 [138, 92, 0] 658 184038) (PM_sy g358 rfl) fun s254 g359 => ?_
  refine ok_lt9 (R := PM s.2.2.2.2.1 s.2.2.2.2.2 36 0 [138, 92, 0] 658 184038) (PM_sy g359 rfl) fun s255 g360 => ?_
  refine ok_lt9 (R := PM s.2.2.2.2.1 s.2.2.2.2.2 36 0 [138, 92, 0] 658 184038) (PM_wF g360) fun s256 g361 => ?_
  refine ok_if1 g361.1.1 ?_
  refine ok_lt9 (R := PM s.2.2.2.2.1 s.2.2.2.2.2 36 0 [138, 92, 0] 659 184048) (PM_make g361 (by decide) (by decide) (by decide)) fun s257 g363 => ?_
  refine ok_lt9 (R := PM s.2.2.2.2.1 s.2.2.2.2.2 36 0 [138, 92, 0] 659 184048) (PM_wF g363) fun s258 g364 => ?_
  refine ok_if1 g364.1.1 ?_
  refine ok_lt9 (R := PM s.2.2.2.2.1 s.2.2.2.2.2 36 0 [138, 92, 0] 660 184059) (PM_make g364 (by decide) (by decide) (by decide)) fun s259 g366 => ?_
  refine ok_lt9 (R := PM s.2.2.2.2.1 s.2.2.2.2.2 36 0 [138, 92, 0] 660 184059) (PM_wF g366) fun s260 g367 => ?_
  refine ok_if1 g367.1.1 ?_
  refine ok_lt9 (R := PM s.2.2.2.2.1 s.2.2.2.2.2 36 0 [138, 92, 0] 661 184074) (PM_make g367 (by decide) (by decide) (by decide)) fun s261 g369 => ?_
  refine ok_lt9 (R := PM s.2.2.2.2.1 s.2.2.2.2.2 36 0 [138, 92, 0] 661 184074) (PM_wF g369) fun s262 g370 => ?_
  refine ok_if1 g370.1.1 ?_
  refine ok_lt9 (R := PM s.2.2.2.2.1 s.2.2.2.2.2 36 0 [138, 92, 0] 662 184078) (PM_make g370 (by decide) (by decide) (by decide)) fun s263 g372 => ?_
  refine ok_lt9 (R := PM s.2.2.2.2.1 s.2.2.2.2.2 36 1 [138, 92, 0] 662 184078) (PM_ro g372 rfl) fun s264 g373 => ?_
  refine ok_lt9 (R := PM s.2.2.2.2.1 s.2.2.2.2.2 36 2 [138, 92, 0] 662 184078) (PM_ro g373 rfl) fun s265 g374 => ?_
  refine ok_lt9 (R := PM s.2.2.2.2.1 s.2.2.2.2.2 36 3 [138, 92, 0] 662 184078) (PM_ro g374 rfl) fun s266 g375 => ?_
  refine ok_lt9 (R := PM s.2.2.2.2.1 s.2.2.2.2.2 36 4 [138, 92, 0] 662 184078) (PM_ro g375 rfl) fun s267 g376 => ?_
  refine ok_lt9 (R := PM s.2.2.2.2.1 s.2.2.2.2.2 36 4 [158, 138, 92, 0] 662 184078) (PM_wFa g376 (by decide)) fun s268 g377 => ?_
  refine ok_if1 g377.1.1 ?_
  refine ok_lt9 (R := PM s.2.2.2.2.1 s.2.2.2.2.2 36 4 [158, 138, 92, 0] 663 184082) (PM_make g377 (by decide) (by decide) (by decide)) fun s269 g379 => ?_
  refine ok_lt9 (R := PM s.2.2.2.2.1 s.2.2.2.2.2 36 4 [158, 138, 92, 0] 663 184082) (PM_wF g379) fun s270 g380 => ?_
  refine ok_if1 g380.1.1 ?_
  refine ok_lt9 (R := PM s.2.2.2.2.1 s.2.2.2.2.2 36 4 [158, 138, 92, 0] 664 184142) (PM_make g380 (by decide) (by decide) (by decide)) fun s271 g382 => ?_
  refine ok_lt9 (R := PM s.2.2.2.2.1 s.2.2.2.2.2 36 4 [160, 158, 138, 92, 0] 664 184142) (PM_wFa g382 (by decide)) fun s272 g383 => ?_
  refine ok_lt9 (R := PM s.2.2.2.2.1 s.2.2.2.2.2 36 4 [1, 160, 158, 138, 92, 0] 664 184142) (PM_w161 g383) fun s273 g384 => ?_
  refine ok_if1 g384.1.1 ?_
  refine ok_lt9 (R := PM s.2.2.2.2.1 s.2.2.2.2.2 36 4 [1, 160, 158, 138, 92, 0] 665 184163) (PM_make g384 (by decide) (by decide) (by decide)) fun s274 g386 => ?_
  refine ok_lt9 (R := PM s.2.2.2.2.1 s.2.2.2.2.2 36 4 [1, 160, 158, 138, 92, 0] 665 184163) (PM_wF g386) fun s275 g387 => ?_
  refine ok_if1 g387.1.1 ?_
  refine ok_lt9 (R := PM s.2.2.2.2.1 s.2.2.2.2.2 36 4 [1, 160, 158, 138, 92, 0] 666 184184) (PM_make g387 (by decide) (by decide) (by decide)) fun s276 g389 => ?_
  refine ok_lt9 (R := PM s.2.2.2.2.1 s.2.2.2.2.2 36 4 [1, 160, 158, 138, 92, 0] 666 184184) (PM_wF g389) fun s277 g390 => ?_
  refine ok_if1 g390.1.1 ?_
  refine ok_lt9 (R := PM s.2.2.2.2.1 s.2.2.2.2.2 36 4 [1, 160, 158, 138, 92, 0] 667 184205) (PM_make g390 (by decide) (by decide) (by decide)) fun s278 g392 => ?_
  refine ok_lt9 (R := PM s.2.2.2.2.1 s.2.2.2.2.2 36 4 [1, 160, 158, 138, 92, 0] 667 184205) (PM_wF g392) fun s279 g393 => ?_
  refine ok_if1 g393.1.1 ?_
  refine ok_lt9 (R := PM s.2.2.2.2.1 s.2.2.2.2.2 36 4 [1, 160, 158, 138, 92, 0] 668 186253) (PM_make g393 (by decide) (by decide) (by decide)) fun s280 g395 => ?_
  refine ok_lt9 (R := PM s.2.2.2.2.1 s.2.2.2.2.2 36 4 [1, 160, 158, 138, 92, 0] 668 186253) (PM_wF g395) fun s281 g396 => ?_
  refine ok_if1 g396.1.1 ?_
  refine ok_lt9 (R := PM s.2.2.2.2.1 s.2.2.2.2.2 36 4 [1, 160, 158, 138, 92, 0] 669 186553) (PM_make g396 (by decide) (by decide) (by decide)) fun s282 g398 => ?_
  refine ok_lt9 (R := PM s.2.2.2.2.1 s.2.2.2.2.2 36 4 [1, 160, 158, 138, 92, 0] 669 186553) (PM_wF g398) fun s283 g399 => ?_
  refine ok_if1 g399.1.1 ?_
  refine ok_lt9 (R := PM s.2.2.2.2.1 s.2.2.2.2.2 36 4 [1, 160, 158, 138, 92, 0] 670 186853) (PM_make g399 (by decide) (by decide) (by decide)) fun s284 g401 => ?_
  refine ok_lt9 (R := PM s.2.2.2.2.1 s.2.2.2.2.2 36 4 [1, 160, 158, 138, 92, 0] 670 186853) (PM_wF g401) fun s285 g402 => ?_
  refine ok_if1 g402.1.1 ?_
  refine ok_lt9 (R := PM s.2.2.2.2.1 s.2.2.2.2.2 36 4 [1, 160, 158, 138, 92, 0] 671 187153) (PM_make g402 (by decide) (by decide) (by decide)) fun s286 g404 => ?_
  refine ok_lt9 (R := PM s.2.2.2.2.1 s.2.2.2.2.2 36 4 [1, 160, 158, 138, 92, 0] 671 187153) (PM_wF g404) fun s287 g405 => ?_
  refine ok_if1 g405.1.1 ?_
  refine ok_lt9 (R := PM s.2.2.2.2.1 s.2.2.2.2.2 36 4 [1, 160, 158, 138, 92, 0] 672 187453) (PM_make g405 (by decide) (by decide) (by decide)) fun s288 g407 => ?_
  refine ok_lt9 (R := PM s.2.2.2.2.1 s.2.2.2.2.2 36 4 [1, 160, 158, 138, 92, 0] 672 187453) (PM_wF g407) fun s289 g408 => ?_
  refine ok_if1 g408.1.1 ?_
  refine ok_lt9 (R := PM s.2.2.2.2.1 s.2.2.2.2.2 36 4 [1, 160, 158, 138, 92, 0] 673 187753) (PM_make g408 (by decide) (by decide) (by decide)) fun s290 g410 => ?_
  refine ok_lt9 (R := PM s.2.2.2.2.1 s.2.2.2.2.2 36 4 [1, 160, 158, 138, 92, 0] 673 187753) (PM_wF g410) fun s291 g411 => ?_
  refine ok_if1 g411.1.1 ?_
  refine ok_lt9 (R := PM s.2.2.2.2.1 s.2.2.2.2.2 36 4 [1, 160, 158, 138, 92, 0] 674 187769) (PM_make g411 (by decide) (by decide) (by decide)) fun s292 g413 => ?_
  refine ok_lt9 (R := PM s.2.2.2.2.1 s.2.2.2.2.2 36 4 [1, 160, 158, 138, 92, 0] 674 187769) (PM_wF g413) fun s293 g414 => ?_
  refine ok_if1 g414.1.1 ?_
  refine ok_lt9 (R := PM s.2.2.2.2.1 s.2.2.2.2.2 36 4 [1, 160, 158, 138, 92, 0] 675 187785) (PM_make g414 (by decide) (by decide) (by decide)) fun s294 g416 => ?_
  refine ok_lt9 (R := PM s.2.2.2.2.1 s.2.2.2.2.2 36 4 [1, 160, 158, 138, 92, 0] 675 187785) (PM_wF g416) fun s295 g417 => ?_
  refine ok_if1 g417.1.1 ?_
  refine ok_lt9 (R := PM s.2.2.2.2.1 s.2.2.2.2.2 36 4 [1, 160, 158, 138, 92, 0] 676 187797) (PM_make g417 (by decide) (by decide) (by decide)) fun s296 g419 => ?_
  refine ok_lt9 (R := PM s.2.2.2.2.1 s.2.2.2.2.2 36 4 [1, 160, 158, 138, 92, 0] 676 187797) (PM_wF g419) fun s297 g420 => ?_
  refine ok_if1 g420.1.1 ?_
  refine ok_lt9 (R := PM s.2.2.2.2.1 s.2.2.2.2.2 36 4 [1, 160, 158, 138, 92, 0] 677 187809) (PM_make g420 (by decide) (by decide) (by decide)) fun s298 g422 => ?_
  refine ok_lt9 (R := PM s.2.2.2.2.1 s.2.2.2.2.2 36 4 [1, 160, 158, 138, 92, 0] 677 187809) (PM_wF g422) fun s299 g423 => ?_
  refine ok_if1 g423.1.1 ?_
  refine ok_lt9 (R := PM s.2.2.2.2.1 s.2.2.2.2.2 36 4 [1, 160, 158, 138, 92, 0] 678 187821) (PM_make g423 (by decide) (by decide) (by decide)) fun s300 g425 => ?_
  refine ok_lt9 (R := PM s.2.2.2.2.1 s.2.2.2.2.2 36 4 [1, 160, 158, 138, 92, 0] 678 187821) (PM_wF g425) fun s301 g426 => ?_
  refine ok_if1 g426.1.1 ?_
  refine ok_lt9 (R := PM s.2.2.2.2.1 s.2.2.2.2.2 36 4 [1, 160, 158, 138, 92, 0] 679 187861) (PM_make g426 (by decide) (by decide) (by decide)) fun s302 g428 => ?_
  refine ok_lt9 (R := PM s.2.2.2.2.1 s.2.2.2.2.2 36 4 [1, 160, 158, 138, 92, 0] 679 187861) (PM_wF g428) fun s303 g429 => ?_
  refine ok_if1 g429.1.1 ?_
  refine ok_lt9 (R := PM s.2.2.2.2.1 s.2.2.2.2.2 36 4 [1, 160, 158, 138, 92, 0] 680 187901) (PM_make g429 (by decide) (by decide) (by decide)) fun s304 g431 => ?_
  refine ok_lt9 (R := PM s.2.2.2.2.1 s.2.2.2.2.2 36 4 [1, 160, 158, 138, 92, 0] 680 187901) (PM_wF g431) fun s305 g432 => ?_
  refine ok_if1 g432.1.1 ?_
  refine ok_lt9 (R := PM s.2.2.2.2.1 s.2.2.2.2.2 36 4 [1, 160, 158, 138, 92, 0] 681 187941) (PM_make g432 (by decide) (by decide) (by decide)) fun s306 g434 => ?_
  refine ok_lt9 (R := PM s.2.2.2.2.1 s.2.2.2.2.2 36 4 [1, 160, 158, 138, 92, 0] 681 187941) (PM_wF g434) fun s307 g435 => ?_
  obtain ⟨⟨-, p8, p9⟩, p1, p2, p3⟩ := g435
  have f1 : _ = true := p3 160 (by decide)
  have f2 : _ = true := p3 158 (by decide)
  have f3 : _ = true := p3 92 (by decide)
  have f4 : _ = true := p3 138 (by decide)
  have v6 : _ = cI (-1) := p3 0 (by decide)
  have v161 : _ = cI (-1) := p3 1 (by decide)
  rw [ini_pows f1 f2 p2]
  obtain ⟨q, e1, e2, e3, e4, e5, e6, e7, e8, e9, e10, e11, e12, e13, e14⟩ := ini_empty (s := wR s307 663 0 60 (fun j => cI (powsL.getD j 0))) f3 f4
  rw [e1, bd1_some, ok_some]
  refine ⟨fun k hk => ?_, fun k hk => ?_, fun k hk => ?_, ?_, ?_, e4, e6, e8, e9, e10, e11, e12, e13, ?_, ?_⟩
  · rw [e3 657 (by decide) (by decide) (by decide), wR_ne (by decide)]; exact p1 k hk
  · rw [e3 661 (by decide) (by decide) (by decide), wR_ne (by decide)]; exact p2 k hk
  · rw [e3 663 (by decide) (by decide) (by decide), wR_1, if_pos ⟨rfl, by omega, by omega⟩]
  · rw [e14 6 (by decide), wR_ne (by decide)]; exact v6
  · rw [e14 161 (by decide), wR_ne (by decide)]; exact v161
  · rw [e2, wR_2]; omega
  · rw [e2, wR_2]; exact p9
