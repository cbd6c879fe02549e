/-! ===== LEVEL 3: sync ===== -/
section
variable {s t s' t' : ev_M}
theorem bk_cg {w w' : Nat → Int32} {off len : Nat} {num last : Int32} (h : ∀ i, i < off + len → w' i = w i) (j : Nat) : bk w' off len num last j = bk w off len num last j := by
  unfold bk
  by_cases a : j < 4 + len
  · by_cases b : j < 4
    · by_cases a0 : j = 0
      · rw [if_pos a0, if_pos a0]
      by_cases a1 : j = 1
      · rw [if_neg a0, if_neg a0, if_pos a1, if_pos a1]
      by_cases a2 : j = 2
      · rw [if_neg a0, if_neg a0, if_neg a1, if_neg a1, if_pos a2, if_pos a2]
      rw [if_neg a0, if_neg a0, if_neg a1, if_neg a1, if_neg a2, if_neg a2, if_pos (show j = 3 by omega), if_pos (show j = 3 by omega)]
    · rw [h (off + (j - 4)) (by omega)]
  · simp only [if_neg a]
theorem bkF_cg {w w' : Nat → Int32} {off len : Nat} {num last : Int32} (h : ∀ i, i < off + len → w' i = w i) (j : Nat) : bkF w' off len num last j = bkF w off len num last j := by
  unfold bkF
  rw [bk_cg h j, fdS_cg (f := bk w' off len num last) (g := bk w off len num last) (b := 0) (c := 0) 252 (fun j _ => bk_cg h _)]
/-- a block ready on both sides -/
def Blk (s t : ev_M) : Prop := ∀ j, j < 256 → t.1 556 j = s.1 12 j ∧ i2b (s.1 12 j) = s.1 12 j
theorem RDsk.put (D : RDsk s t) (B : Blk s t) {k n : Nat} (hk : 1 ≤ k) (hk2 : k ≤ 150) (hn : n ≤ 256) {x : Int32} (hx : x = 0 ∨ x = 1)
    (h10 : ∀ p, s'.1 10 p = if (k - 1) * 256 ≤ p ∧ p < (k - 1) * 256 + n then s.1 12 (p - (k - 1) * 256) else s.1 10 p)
    (h551 : ∀ p, t'.1 551 p = if 256 * k ≤ p ∧ p < 256 * k + n then i2b (t.1 556 (p - 256 * k)) else t.1 551 p)
    (h11 : s'.1 11 = up1 (s.1 11) (k - 1) x) (h555 : t'.1 555 = up1 (t.1 555) k x)
    (h9 : t'.1 549 6 = s'.1 9 10 ∧ Rg (-1) (s'.1 9 10) 2000) (h8 : t'.1 549 7 = s'.1 9 11 ∧ Rg 0 (s'.1 9 11) 255) : RDsk s' t' := by
  obtain ⟨d1, d2, d3, -, -⟩ := D
  refine ⟨fun j hj => ?_, fun j hj => ?_, fun j hj => ?_, h9, h8⟩
  · rw [h10, h551]
    by_cases z : (k - 1) * 256 ≤ j ∧ j < (k - 1) * 256 + n
    · obtain ⟨e1, e2⟩ := B (j - (k - 1) * 256) (by omega)
      rw [if_pos z, if_pos (by omega), show j + 256 - 256 * k = j - (k - 1) * 256 by omega, e1, e2]
    · rw [if_neg z, if_neg (by omega)]; exact d1 j hj
  · rw [h10]
    by_cases z : (k - 1) * 256 ≤ j ∧ j < (k - 1) * 256 + n
    · obtain ⟨e1, e2⟩ := B (j - (k - 1) * 256) (by omega)
      rw [if_pos z, ← e2]; exact i2b_rg _
    · rw [if_neg z]; exact d2 j hj
  · rw [h11, h555]
    by_cases z : j = k - 1
    · rw [z, show k - 1 + 1 = k by omega, up1_eq, up1_eq]; exact ⟨rfl, hx⟩
    · rw [up1_ne z, up1_ne (by omega)]; exact d3 j hj
/-- the class writes a block -/
theorem wr_C {k : Nat} (hk : 1 ≤ k) (hk2 : k ≤ 150) (g : Rg (-1) (s.1 9 10) 2000) (g' : Rg 0 (s.1 9 11) 255) : ∃ s' v, fLog_writes s (cI (k : Int)) = some (s', v) ∧ v = (if s.1 9 10 = 0 then cI 0 else cI 1) ∧ (∀ p, s'.1 10 p = if (k - 1) * 256 ≤ p ∧ p < (k - 1) * 256 + (if s.1 9 10 = 0 then ix (s.1 9 11) else 256) then s.1 12 (p - (k - 1) * 256) else s.1 10 p) ∧ s'.1 11 = up1 (s.1 11) (k - 1) (if s.1 9 10 = 0 then cI 1 else cI 0) ∧ (∀ j, j ≠ 10 → s'.1 9 j = s.1 9 j) ∧ s'.1 9 10 = (if s.1 9 10 ≤ 0 then s.1 9 10 else s.1 9 10 - cI 1) := by
  have e1 : cI (k : Int) - cI 1 = cI ((k - 1 : Nat) : Int) := q_sb (b := 1) hk (by omega)
  have e2 : cI ((k - 1 : Nat) : Int) * cI 256 = cI (((k - 1) * 256 : Nat) : Int) := q_mul0 (b := 256) (by omega) (by decide) (by omega)
  have kr : ¬ ¬ InR (cI (k : Int)) (cI 1) (cI 150) := fun u => u ⟨by rw [q_ti (by omega), show (cI 1).toInt = 1 from rfl]; omega, by rw [q_ti (by omega), show (cI 150).toInt = 150 from rfl]; omega⟩
  obtain ⟨g1, g2⟩ := g'
  have nx := ix_toNat (s.1 9 11)
  have cp : ∀ (n : Int32) (N : Nat), 0 ≤ n.toInt → ix n = N → N ≤ 256 → fACP s 256 38400 12 10 (cI 0) (cI (((k - 1) * 256 : Nat) : Int)) n = some (cpM s 12 10 0 ((k - 1) * 256) N) := fun n N h1 h2 h3 => by
    unfold fACP
    rw [if_pos ⟨⟨by decide, by rw [le_i, q_ti (by omega)]; exact Int.natCast_nonneg _, by rw [le_i]; exact h1⟩, by rw [ix_0, h2]; omega, by rw [q_ix (by omega), h2]; omega⟩, ix_0, q_ix (by omega), h2]
  have fin : ∀ (S : ev_M) (N : Nat) (x2 y : Int32), S = cpM s 12 10 0 ((k - 1) * 256) N → bz x2 = true → y &&& 1 = y → ∃ s', fLog_writes_b75 S x2 (cI ((k - 1 : Nat) : Int)) y = some (s', x2) ∧ (∀ p, s'.1 10 p = if (k - 1) * 256 ≤ p ∧ p < (k - 1) * 256 + N then s.1 12 (p - (k - 1) * 256) else s.1 10 p) ∧ s'.1 11 = up1 (s.1 11) (k - 1) y ∧ (∀ j, j ≠ 10 → s'.1 9 j = s.1 9 j) ∧ s'.1 9 10 = (if s.1 9 10 ≤ 0 then s.1 9 10 else s.1 9 10 - cI 1) := fun S N x2 y hS hz hy => by
    have S10 : ∀ p, S.1 10 p = if (k - 1) * 256 ≤ p ∧ p < (k - 1) * 256 + N then s.1 12 (p - (k - 1) * 256) else s.1 10 p := fun p => by
      rw [hS]
      show (if 10 = 10 ∧ (k - 1) * 256 ≤ p ∧ p < (k - 1) * 256 + N then s.1 12 (0 + (p - (k - 1) * 256)) else s.1 10 p) = _
      by_cases z : (k - 1) * 256 ≤ p ∧ p < (k - 1) * 256 + N
      · rw [if_pos ⟨rfl, z⟩, if_pos z, Nat.zero_add]
      · rw [if_neg (fun u => z u.2), if_neg z]
    have Sn : ∀ c, c ≠ 10 → S.1 c = s.1 c := fun c hc => by
      rw [hS]
      funext j
      show (if c = 10 ∧ _ then _ else s.1 c j) = _
      rw [if_neg (fun u => hc u.1)]
    unfold fLog_writes_b75
    rw [if_pos (q_in (by omega) (by decide)), q_ix (by omega), ltM_eq, hy, wI_ne (by decide), Sn 9 (by decide)]
    by_cases z : s.1 9 10 ≤ 0
    · rw [if_pos z, if_pos hz, if_pos z]
      refine ⟨_, rfl, fun p => by rw [wI_ne (by decide)]; exact S10 p, by rw [wI_c, Sn 11 (by decide)], fun j _ => by rw [wI_ne (by decide), Sn 9 (by decide)], by rw [wI_ne (by decide), Sn 9 (by decide)]⟩
    · rw [if_neg z, ltM_eq, if_pos hz, if_neg z]
      refine ⟨_, rfl, fun p => by rw [wI_ne (by decide), wI_ne (by decide)]; exact S10 p, by rw [wI_ne (by decide), wI_c, Sn 11 (by decide)], fun j hj => by rw [wI_c, up1_ne hj, wI_ne (by decide), Sn 9 (by decide)], by rw [wI_c, up1_eq]⟩
  unfold fLog_writes
  rw [outside_eq, bd1_some, ite_bI, if_neg kr]
  unfold fLog_writes_b25 fLog_writes_b56
  rw [e1, e2]
  by_cases z : s.1 9 10 = 0
  · rw [if_pos z, if_pos (show cI 0 = 0 from rfl), cp _ _ g1 rfl (by omega), bd1_some, if_pos (show cI 0 = 0 from rfl)]
    simp only [if_pos z]
    obtain ⟨s', a1, a2, a3, a4, a5⟩ := fin _ _ (cI 0) (cI 1) rfl (by decide) (by decide)
    refine ⟨s', _, a1, rfl, a2, a3, a4, ?_⟩
    rw [a5, z]
  · rw [if_neg z, if_neg (show ¬ cI 1 = 0 by decide), cp (cI 256) 256 (by decide) rfl (by decide), bd1_some, if_neg (show ¬ cI 1 = 0 by decide)]
    simp only [if_neg z]
    obtain ⟨s', a1, a2, a3, a4, a5⟩ := fin _ _ (cI 1) (cI 0) rfl (by decide) (by decide)
    exact ⟨s', _, a1, rfl, a2, a3, a4, a5⟩
/-- the reference writes a block -/
theorem wr_M {k32 : ev_M → Int32 → Int32 → Option (ev_M × Int32)} {x1 x2 : Int32} {k n : Nat} (hk2 : k ≤ 150) (hn : n ≤ 256) : fM_sync_b85 k32 t x1 x2 (cI (k : Int)) (cI (n : Int)) = if t.1 549 6 = 0 then some (wI (wI (wR t 551 (256 * k) (256 * k + n) fun b => i2b (t.1 556 (b - 256 * k))) 555 k (cI 1)) 549 5 (cI 1), cI (-106)) else k32 (wI (wI (wR t 551 (256 * k) (256 * k + n) fun b => i2b (t.1 556 (b - 256 * k))) 555 k (cI 0)) 549 6 (if t.1 549 6 ≤ 0 then cI (-1) else t.1 549 6 - cI 1)) x1 (x2 + cI 1) := by
  unfold fM_sync_b85
  have e2 : cI 256 * cI (k : Int) = cI ((256 * k : Nat) : Int) := q_mul0 (a := 256) (by decide) (by omega) (by omega)
  have f1 := fill_nat (H := fun m u x => fM_sync_h90 k32 m u x1 x2 (cI (k : Int)) (cI (n : Int)) x) (c := 551) (off := 256 * k) (N := n) (f := fun b => i2b (t.1 556 (b - 256 * k))) (K := fun u => if u.1 549 6 = 0 then fM_sync_b140 k32 u x1 x2 (cI (k : Int)) (cI 1) else fM_sync_b140 k32 u x1 x2 (cI (k : Int)) (cI 0)) (P := fun u => u.1 556 = t.1 556)
    (fun m u i hp hi => by
      show fM_sync_h90 k32 (m + 1) u _ _ _ _ _ = _
      rw [fM_sync_h90, if_pos ((q_lt (by omega) (by omega)).mpr hi), if_pos (q_in (by omega) (by decide)), e2, q_ad (by omega), if_pos (q_in (by omega) (by decide)), q_ix (by omega), q_ix (by omega), ltM_eq, hp, q_s (by omega), show 256 * k + i - 256 * k = i by omega])
    (fun m u hp => by
      show fM_sync_h90 k32 (m + 1) u _ _ _ _ _ = _
      rw [fM_sync_h90, if_neg (by rw [lt_i]; omega)])
    (fun u k v hp => by rw [wI_ne (by decide)]; exact hp) n 1048576 0 t rfl (by omega) (by omega)
  have f1 : fM_sync_h90 k32 1048576 t x1 x2 (cI (k : Int)) (cI (n : Int)) (cI 0) = _ := f1
  rw [f1, Nat.add_zero]
  have w6 : ∀ f, (wR t 551 (256 * k) (256 * k + n) f).1 549 6 = t.1 549 6 := fun f => by rw [wR_ne (by decide)]
  have v6 : ∀ f y, (wI (wR t 551 (256 * k) (256 * k + n) f) 555 k y).1 549 6 = t.1 549 6 := fun f y => by rw [wI_ne (by decide), wR_ne (by decide)]
  unfold fM_sync_b140 fM_sync_b174
  rw [w6]
  by_cases z : t.1 549 6 = 0
  · rw [if_pos z, if_pos z, if_pos (q_in (by omega) (by decide)), q_ix (by omega), ltM_eq, v6, if_pos z, ltM_eq]; rfl
  · rw [if_neg z, if_neg z, if_pos (q_in (by omega) (by decide)), q_ix (by omega), ltM_eq, v6, if_neg z]
    by_cases y : t.1 549 6 ≤ 0
    · rw [if_pos y, if_pos y, ltM_eq]; rfl
    · rw [if_neg y, if_neg y, ltM_eq]; rfl
/-- the log with another disk -/
theorem RLog.dsk (h : RLog s t) (D : RDsk s' t') (e9 : ∀ j, j ≠ 9 → j ≠ 10 → s'.1 9 j = s.1 9 j) (e3 : s'.1 1003 = s.1 1003) (e13 : s'.1 13 = s.1 13) (m4 : t'.1 549 4 = t.1 549 4) (m9 : t'.1 549 9 = t.1 549 9) (m10 : t'.1 549 10 = t.1 549 10) (e552 : t'.1 552 = t.1 552) (a2 : t'.1 549 5 = s'.1 9 9 ∧ (s'.1 9 9 = 0 ∨ s'.1 9 9 = 1)) : RLog s' t' := by
  obtain ⟨a1, -, a3, a4, a5, a6, a7, -⟩ := h
  exact ⟨fun j hj => (congrFun e3 j).trans (a1 j hj), a2, by rw [m4, e9 4 (by decide) (by decide)]; exact a3, RWt_of a4 (e9 6 (by decide) (by decide)) e13 m9 e552, by rw [e9 6 (by decide) (by decide), e9 4 (by decide) (by decide)]; exact a5, by rw [m10, e9 7 (by decide) (by decide)]; exact a6, by rw [e9 12 (by decide) (by decide)]; exact a7, D⟩
end
theorem sy_lp {b N U : Nat} (hN : N = (U + 247) / 248) (hbN : b + N ≤ 150) : ∀ (r m m' k : Nat) (s t : ev_M), k + r = N → r < m → r < m' → RLog s t → s.1 9 9 = 0 → s.1 9 4 = cI (b : Int) → s.1 9 6 = cI (U : Int) → Ok (fLog_writeAll_h10 m s (cI (N : Int)) (cI (k : Int))) fun x => Ok (fM_sync_h32 m' t (cI (N : Int)) (cI (k : Int))) fun z => x.2 = z.2 ∧ RLog x.1 z.1 := by
  intro r
  induction r with
  | zero =>
    intro m m' k s t hk hm hm' R h9 h4 h6
    obtain ⟨m, rfl⟩ : ∃ k, m = k + 1 := ⟨m - 1, by omega⟩
    obtain ⟨m', rfl⟩ : ∃ k, m' = k + 1 := ⟨m' - 1, by omega⟩
    obtain rfl : k = N := by omega
    have nl : ¬ cI (k : Int) < cI (k : Int) := by rw [lt_i]; omega
    obtain ⟨a1, a2, a3, a4, a5, a6, a7, D⟩ := R
    rw [fLog_writeAll_h10, if_neg nl, ltM_eq, ltM_eq, ltM_eq, ok_some, fM_sync_h32, if_neg nl, ltM_eq, ltM_eq, ltM_eq, ok_some]
    have m4 : t.1 549 4 = cI (b : Int) := a3.1.trans h4
    have m10 := a6
    refine ⟨rfl, ?_, ?_, ?_, ?_, ?_, ?_, ?_, ?_⟩
    · intro j hj
      rw [wI_ne (by decide), wI_ne (by decide), wI_ne (by decide)]
      exact a1 j hj
    · simp (disch := decide) only [ix_0, ix_1, ix_2, ix_3, ix_4, ix_5, ix_6, ix_7, ix_8, Nat.reduceAdd, wI_c, wI_ne, wL_1, lupd_ne, up1_eq, up1_ne]
      exact a2
    · simp (disch := decide) only [ix_0, ix_1, ix_2, ix_3, ix_4, ix_5, ix_6, ix_7, ix_8, Nat.reduceAdd, wI_c, wI_ne, wL_1, lupd_ne, up1_eq, up1_ne]
      rw [m4, h4, q_ad (by omega)]
      refine ⟨rfl, ?_, ?_⟩
      · rw [q_ti (by omega)]; omega
      · rw [q_ti (by omega)]; omega
    · unfold RWt
      simp (disch := decide) only [ix_0, ix_1, ix_2, ix_3, ix_4, ix_5, ix_6, ix_7, ix_8, Nat.reduceAdd, wI_c, wI_ne, wL_1, lupd_ne, up1_eq, up1_ne]
      exact ⟨trivial, by decide, fun i hi => absurd hi (Nat.not_lt_zero _)⟩
    · simp (disch := decide) only [ix_0, ix_1, ix_2, ix_3, ix_4, ix_5, ix_6, ix_7, ix_8, Nat.reduceAdd, wI_c, wI_ne, wL_1, lupd_ne, up1_eq, up1_ne]
      rw [h4, q_ad (by omega), q_ti (by omega), show (cI 0).toInt = 0 from rfl]
      omega
    · simp (disch := decide) only [ix_0, ix_1, ix_2, ix_3, ix_4, ix_5, ix_6, ix_7, ix_8, Nat.reduceAdd, wI_c, wI_ne, wL_1, lupd_ne, up1_eq, up1_ne]
    · simp (disch := decide) only [ix_0, ix_1, ix_2, ix_3, ix_4, ix_5, ix_6, ix_7, ix_8, Nat.reduceAdd, wI_c, wI_ne, wL_1, lupd_ne, up1_eq, up1_ne]
      exact a7
    · unfold RDsk at D ⊢
      simp (disch := decide) only [ix_0, ix_1, ix_2, ix_3, ix_4, ix_5, ix_6, ix_7, ix_8, Nat.reduceAdd, wI_c, wI_ne, wL_1, lupd_ne, up1_eq, up1_ne]
      exact D
  | succ r ih =>
    intro m m' k s t hk hm hm' R h9 h4 h6
    obtain ⟨m, rfl⟩ : ∃ k, m = k + 1 := ⟨m - 1, by omega⟩
    obtain ⟨m', rfl⟩ : ∃ k, m' = k + 1 := ⟨m' - 1, by omega⟩
    have lt : cI (k : Int) < cI (N : Int) := (q_lt (by omega) (by omega)).mpr (by omega)
    have eN : cI (N : Int) - cI 1 = cI ((N - 1 : Nat) : Int) := q_sb (b := 1) (by omega) (by omega)
    obtain ⟨a1, a2, a3, a4, a5, a6, a7, D⟩ := id R
    have m4 : t.1 549 4 = cI (b : Int) := a3.1.trans h4
    have m9 : t.1 549 9 = cI (U : Int) := a4.1.trans h6
    have nC : ∀ u : ev_M, u.1 9 4 = cI (b : Int) → u.1 9 4 + cI (k : Int) + cI 1 = cI ((b + k + 1 : Nat) : Int) := fun u hu => by
      rw [hu, q_ad (by omega), show cI ((b + k : Nat) : Int) + cI 1 = cI ((b + k + 1 : Nat) : Int) from q_ad (b := 1) (by omega)]
    have nM : t.1 549 4 + cI 1 + cI (k : Int) = cI ((b + k + 1 : Nat) : Int) := by
      rw [m4, show cI (b : Int) + cI 1 = cI ((b + 1 : Nat) : Int) from q_ad (b := 1) (by omega), q_ad (by omega), show b + 1 + k = b + k + 1 by omega]
    have off : cI 248 * cI (k : Int) = cI ((248 * k : Nat) : Int) := q_mul0 (a := 248) (by decide) (by omega) (by omega)
    have key : ∀ last : Int32, (last = cI 1 ∧ k + 1 = N) ∨ (last = cI 0 ∧ k + 1 < N) → Ok (fLog_writeAll_b37 (fLog_writeAll_h10 m) s (cI (N : Int)) (cI (k : Int)) (cI (k : Int)) (cI ((b + k + 1 : Nat) : Int)) last) fun x => Ok (fM_sync_b65 (fM_sync_h32 m') t (cI (N : Int)) (cI (k : Int)) (cI ((b + k + 1 : Nat) : Int)) (cI ((b + k + 1 : Nat) : Int)) (cI ((248 * k : Nat) : Int)) last) fun z => x.2 = z.2 ∧ RLog x.1 z.1 := by
      intro last hl
      obtain ⟨len, el⟩ : ∃ len, len = if k + 1 = N then U - 248 * k else 248 := ⟨_, rfl⟩
      have le : (k + 1 = N ∧ len = U - 248 * k) ∨ (k + 1 < N ∧ len = 248) := by
        by_cases z : k + 1 = N
        · rw [if_pos z] at el; exact Or.inl ⟨z, el⟩
        · rw [if_neg z] at el; exact Or.inr ⟨by omega, el⟩
      have l01 : (¬ last = 0 ∧ len = U - 248 * k) ∨ (last = 0 ∧ len = 248) := by
        rcases hl with ⟨l1, l2⟩ | ⟨l1, l2⟩
        · exact Or.inl ⟨by rw [l1]; decide, by omega⟩
        · exact Or.inr ⟨by rw [l1]; rfl, by omega⟩
      obtain ⟨s1, c1, c2⟩ := mkC (s := s) (k := k) (len := len) (U := U) (num := cI ((b + k + 1 : Nat) : Int)) (last := last) h6 (by omega) (by omega) (by omega)
      obtain ⟨t1, d1, d2⟩ := mkM (t := t) (k := k) (len := len) (U := U) (num := cI ((b + k + 1 : Nat) : Int)) (last := last) m9 (by omega) (by omega) l01 (by omega) (by omega)
      have f1 := fr_fLog_makeBlock c1
      have g1 := fr_fM_make d1
      have s9 : s1.1 9 = s.1 9 := (nof_c f1 (L := [(9, 0)]) (by decide +kernel) (c := 9) rfl).1
      have s10 : s1.1 10 = s.1 10 := (nof_c f1 (L := [(10, 0)]) (by decide +kernel) (c := 10) rfl).1
      have s11 : s1.1 11 = s.1 11 := (nof_c f1 (L := [(11, 0)]) (by decide +kernel) (c := 11) rfl).1
      have s13 : s1.1 13 = s.1 13 := (nof_c f1 (L := [(13, 0)]) (by decide +kernel) (c := 13) rfl).1
      have s1003 : s1.1 1003 = s.1 1003 := (nof_c f1 (L := [(1003, 0)]) (by decide +kernel) (c := 1003) rfl).1
      have t549 : t1.1 549 = t.1 549 := (nof_c g1 (L := [(549, 0)]) (by decide +kernel) (c := 549) rfl).1
      have t551 : t1.1 551 = t.1 551 := (nof_c g1 (L := [(551, 0)]) (by decide +kernel) (c := 551) rfl).1
      have t552 : t1.1 552 = t.1 552 := (nof_c g1 (L := [(552, 0)]) (by decide +kernel) (c := 552) rfl).1
      have t555 : t1.1 555 = t.1 555 := (nof_c g1 (L := [(555, 0)]) (by decide +kernel) (c := 555) rfl).1
      have B : Blk s1 t1 := fun j hj => by
        have ag : ∀ i, i < 248 * k + len → t.1 552 i = s.1 13 i := fun i hi => a4.2.2 i (by rw [h6, q_ix (by omega)]; omega)
        rw [c2 j hj, d2 j hj, bkF_cg ag]
        exact ⟨rfl, bkF_i⟩
      have D1 : RDsk s1 t1 := RDsk_of D s10 s11 (by rw [s9]) (by rw [s9]) t551 t555 (by rw [t549]) (by rw [t549])
      obtain ⟨q1, q2, q3, ⟨q4, q5⟩, ⟨q6, q7⟩⟩ := id D1
      obtain ⟨s2, v, w1, w2, w3, w4, w5, w6⟩ := wr_C (s := s1) (k := b + k + 1) (by omega) (by omega) q5 q7
      have f2 := fr_fLog_writes w1
      have s2_13 : s2.1 13 = s.1 13 := ((nof_c f2 (L := [(13, 0)]) (by decide +kernel) (c := 13) rfl).1).trans s13
      have s2_1003 : s2.1 1003 = s.1 1003 := ((nof_c f2 (L := [(1003, 0)]) (by decide +kernel) (c := 1003) rfl).1).trans s1003
      unfold fLog_writeAll_b37 fM_sync_b65
      rw [c1, bd1_some, d1, bd1_some, nC s1 (by rw [s9]; exact h4), w1, bd2_some]
      have nx := ix_toNat (s1.1 9 11)
      obtain ⟨q71, q72⟩ := id q7
      have t11 : t1.1 549 7 = cI ((ix (s1.1 9 11) : Nat) : Int) := by rw [q6, cI_ix q71]
      by_cases z : s1.1 9 10 = 0
      · have z' : t1.1 549 6 = 0 := q4.trans z
        rw [if_pos z] at w2
        simp only [if_pos z] at w3 w4
        rw [w2, if_pos (show cI 0 = 0 from rfl), ltM_eq, ok_some, if_pos z', t11, wr_M (by omega) (by omega), if_pos z', ok_some]
        refine ⟨rfl, R.dsk ?_ (fun j j1 j2 => ?_) ?_ ?_ ?_ ?_ ?_ ?_ ?_⟩
        · refine RDsk.put (k := b + k + 1) (n := ix (s1.1 9 11)) (x := cI 1) D1 B (by omega) (by omega) (by omega) (Or.inr rfl) (fun p => ?_) (fun p => ?_) ?_ ?_ ?_ ?_
          · rw [wI_ne (by decide)]; exact w3 p
          · rw [wI_ne (by decide), wI_ne (by decide), wR_1]
            by_cases y : 256 * (b + k + 1) ≤ p ∧ p < 256 * (b + k + 1) + ix (s1.1 9 11)
            · rw [if_pos ⟨rfl, y⟩, if_pos y]
            · rw [if_neg (fun u => y u.2), if_neg y]
          · rw [wI_ne (by decide)]; exact w4
          · rw [wI_ne (by decide), wI_c, wR_ne (by decide)]
          · rw [wI_c, up1_ne (by decide), wI_ne (by decide), wR_ne (by decide), wI_c, up1_ne (by decide), w6, z, if_pos (show (0 : Int32) ≤ 0 by decide), z']
            exact ⟨rfl, show (-1 : Int) ≤ (0 : Int32).toInt by decide, show (0 : Int32).toInt ≤ 2000 by decide⟩
          · rw [wI_c, up1_ne (by decide), wI_ne (by decide), wR_ne (by decide), wI_c, up1_ne (by decide), w5 11 (by decide)]
            exact ⟨q6, q7⟩
        · rw [wI_c, up1_ne j1, w5 j j2, s9]
        · rw [wI_ne (by decide)]; exact s2_1003
        · rw [wI_ne (by decide)]; exact s2_13
        · rw [wI_c, up1_ne (by decide), wI_ne (by decide), wR_ne (by decide), t549]
        · rw [wI_c, up1_ne (by decide), wI_ne (by decide), wR_ne (by decide), t549]
        · rw [wI_c, up1_ne (by decide), wI_ne (by decide), wR_ne (by decide), t549]
        · rw [wI_ne (by decide), wI_ne (by decide), wR_ne (by decide), t552]
        · rw [wI_c, up1_eq, wI_c, up1_eq]; exact ⟨rfl, Or.inr rfl⟩
      · have z' : ¬ t1.1 549 6 = 0 := by rw [q4]; exact z
        rw [if_neg z] at w2
        simp only [if_neg z] at w3 w4
        rw [w2, if_neg (show ¬ cI 1 = 0 by decide), if_neg z', show cI 256 = cI ((256 : Nat) : Int) from rfl, wr_M (by omega) (by omega), if_neg z', q_s (by omega)]
        have cut : (if t1.1 549 6 ≤ 0 then cI (-1) else t1.1 549 6 - cI 1) = s2.1 9 10 := by
          rw [w6, q4]
          by_cases y : s1.1 9 10 ≤ 0
          · rw [if_pos y, if_pos y]
            refine (Int32.toInt_inj.mp ?_)
            have y1 : (s1.1 9 10).toInt ≤ 0 := le_i.mp y
            have y2 : (s1.1 9 10).toInt ≠ 0 := fun u => z (Int32.toInt_inj.mp u)
            have y3 := q5.1
            rw [show (cI (-1)).toInt = -1 from rfl]; omega
          · rw [if_neg y, if_neg y]
        have cr : Rg (-1) (s2.1 9 10) 2000 := by
          rw [w6]
          by_cases y : s1.1 9 10 ≤ 0
          · rw [if_pos y]; exact q5
          · rw [if_neg y]
            have y1 : ¬ (s1.1 9 10).toInt ≤ 0 := fun u => y (le_i.mpr u)
            have y3 := q5.2
            have e : (s1.1 9 10 - cI 1).toInt = (s1.1 9 10).toInt - 1 := sub_toInt (by rw [show (cI 1).toInt = 1 from rfl]; omega) (by rw [show (cI 1).toInt = 1 from rfl]; omega)
            exact ⟨by rw [e]; omega, by rw [e]; omega⟩
        refine ih m m' (k + 1) s2 _ (by omega) (by omega) (by omega) (R.dsk ?_ (fun j j1 j2 => ?_) ?_ ?_ ?_ ?_ ?_ ?_ ?_) ?_ ?_ ?_
        · refine RDsk.put (k := b + k + 1) (n := 256) (x := cI 0) D1 B (by omega) (by omega) (by omega) (Or.inl rfl) w3 (fun p => ?_) w4 ?_ ?_ ?_
          · rw [wI_ne (by decide), wI_ne (by decide), wR_1]
            by_cases y : 256 * (b + k + 1) ≤ p ∧ p < 256 * (b + k + 1) + 256
            · rw [if_pos ⟨rfl, y⟩, if_pos y]
            · rw [if_neg (fun u => y u.2), if_neg y]
          · rw [wI_ne (by decide), wI_c, wR_ne (by decide)]
          · rw [wI_c, up1_eq]
            exact ⟨cut, cr⟩
          · rw [wI_c, up1_ne (by decide), wI_ne (by decide), wR_ne (by decide), w5 11 (by decide)]
            exact ⟨q6, q7⟩
        · rw [w5 j j2, s9]
        · exact s2_1003
        · exact s2_13
        · rw [wI_c, up1_ne (by decide), wI_ne (by decide), wR_ne (by decide), t549]
        · rw [wI_c, up1_ne (by decide), wI_ne (by decide), wR_ne (by decide), t549]
        · rw [wI_c, up1_ne (by decide), wI_ne (by decide), wR_ne (by decide), t549]
        · rw [wI_ne (by decide), wI_ne (by decide), wR_ne (by decide), t552]
        · rw [wI_c, up1_ne (by decide), wI_ne (by decide), wR_ne (by decide), t549, w5 9 (by decide), s9]; exact a2
        · rw [w5 9 (by decide), s9]; exact h9
        · rw [w5 4 (by decide), s9]; exact h4
        · rw [w5 6 (by decide), s9]; exact h6
    have kN : cI (k : Int) = cI (N : Int) - cI 1 ↔ k + 1 = N := by
      rw [eN, eq_i, q_ti (by omega), q_ti (by omega)]; omega
    rw [fLog_writeAll_h10, if_pos lt, fM_sync_h32, if_pos lt, ltI_eq, nC s h4, nM, off]
    by_cases z : k + 1 = N
    · rw [if_pos (kN.mpr z), if_pos (kN.mpr z)]; exact key _ (Or.inl ⟨rfl, z⟩)
    · rw [if_neg (fun u => z (kN.mp u)), if_neg (fun u => z (kN.mp u))]; exact key _ (Or.inr ⟨rfl, by omega⟩)
theorem q_sync {s t : ev_M} (R : RLog s t) : Ok (fPH_sync s) fun x => Ok (fM_sync t) fun z => x.2 = z.2 ∧ RLog x.1 z.1 := by
  have R0 : RLog s (wI t 549 0 (cI 0)) := RLog_of R (fun c a b d k _ => rfl) rfl (fun k hk => by rw [wI_c, up1_ne (by omega)]) (wI_ne (by decide)) (wI_ne (by decide)) (wI_ne (by decide))
  obtain ⟨a1, a2, a3, a4, a5, a6, a7, D⟩ := id R0
  unfold fPH_sync fM_sync
  rw [ltM_eq, a2.1]
  generalize wI t 549 0 (cI 0) = t at *
  by_cases z : s.1 9 9 = 0
  rotate_left
  · rw [if_neg z, if_neg z, ok_some, ok_some]
    exact ⟨rfl, R0⟩
  rw [if_pos z, if_pos z]
  have b0 := a3.2.1
  have b1 := a3.2.2
  have u0 := a4.2.1
  have nb := ix_toNat (s.1 9 4)
  have nu := ix_toNat (s.1 9 6)
  have eb : s.1 9 4 = cI ((ix (s.1 9 4) : Nat) : Int) := (cI_ix b0).symm
  have eu : s.1 9 6 = cI ((ix (s.1 9 6) : Nat) : Int) := (cI_ix u0).symm
  have uU : ix (s.1 9 6) ≤ 248 * (150 - ix (s.1 9 4)) := by omega
  have eN : (s.1 9 6 + cI 248 - cI 1) / cI 248 = cI (((ix (s.1 9 6) + 247) / 248 : Nat) : Int) := by
    rw [eu, q_ix (by omega), show cI ((ix (s.1 9 6) : Nat) : Int) + cI 248 = cI ((ix (s.1 9 6) + 248 : Nat) : Int) from q_ad (b := 248) (by omega), show cI ((ix (s.1 9 6) + 248 : Nat) : Int) - cI 1 = cI ((ix (s.1 9 6) + 248 - 1 : Nat) : Int) from q_sb (b := 1) (by omega) (by omega), show ix (s.1 9 6) + 248 - 1 = ix (s.1 9 6) + 247 by omega]
    exact q_div (d := 248) (by omega) (by decide) (by decide)
  unfold fLog_writeAll fLog_blocksFor
  rw [if_neg (show ¬ cI 248 = 0 by decide), if_neg (show ¬ cI 248 = 0 by decide), bd1_some, ltI_eq, a4.1, eN]
  have k := sy_lp (b := ix (s.1 9 4)) (N := (ix (s.1 9 6) + 247) / 248) (U := ix (s.1 9 6)) rfl (by omega) ((ix (s.1 9 6) + 247) / 248) 1048576 1048576 0 s t (by omega) (by omega) (by omega) R0 z eb eu
  obtain ⟨x, ex, w, ew, e1, e2⟩ := k
  have ex : fLog_writeAll_h10 1048576 s (cI (((ix (s.1 9 6) + 247) / 248 : Nat) : Int)) (cI 0) = _ := ex
  have ew : fM_sync_h32 1048576 t (cI (((ix (s.1 9 6) + 247) / 248 : Nat) : Int)) (cI 0) = _ := ew
  rw [ex, bd2_some, ok_some, ew, ok_some]
  exact ⟨e1, e2⟩
theorem lc_2 {L i : Nat} {m : ev_M} (H : II L i m) (hi : i ≤ 64) : LC_2 (II L (i + 1)) m := by
  obtain ⟨q, q1, h1, h2, h3, h4, h5⟩ := H.1
  obtain ⟨x, ex, -⟩ := q_sync h3
  have fx := fr_fPH_sync ex
  have x549 : x.1.1 549 = m.1 549 := (nof_c fx (L := [(549, 0)]) (by decide +kernel) (c := 549) rfl).1
  have k3 : RLog m x.1 := RLog_of h3 (fun c a b d k _ => rfl) rfl (fun k _ => by rw [x549]) (nof_c fx (L := [(551, 0)]) (by decide +kernel) (c := 551) rfl).1 (nof_c fx (L := [(552, 0)]) (by decide +kernel) (c := 552) rfl).1 (nof_c fx (L := [(555, 0)]) (by decide +kernel) (c := 555) rfl).1
  obtain ⟨x', ex', z, ez, e1, e2⟩ := q_sync k3
  obtain rfl : x = x' := Option.some.inj (ex.symm.trans ex')
  have fz := fr_fM_sync ez
  obtain ⟨p1, p2⟩ := p1_fr fx fz (by decide +kernel) (by decide +kernel)
  have f : fr (F_PH_sync ++ F_M_sync) m z.1 := (fx.mono (contains_of fun q hq => List.mem_append_left _ hq)).tr (fz.mono (contains_of fun q hq => List.mem_append_right _ hq))
  have d : nof F_M_sync [(9, 0), (10, 0), (11, 0), (13, 0), (1003, 0)] = true := by decide +kernel
  have L' : RLog z.1 z.1 := RLog_of e2 (fun c a b g k _ => by
    obtain rfl | rfl | rfl | rfl : c = 9 ∨ c = 10 ∨ c = 11 ∨ c = 13 := by omega
    · rw [(nof_c fz d (c := 9) rfl).1]
    · rw [(nof_c fz d (c := 10) rfl).1]
    · rw [(nof_c fz d (c := 11) rfl).1]
    · rw [(nof_c fz d (c := 13) rfl).1]) (nof_c fz d (c := 1003) rfl).1 (fun k _ => rfl) rfl rfl rfl
  refine ⟨x, ex, p1, z, ez, e1, H.of p2 ⟨q, by omega, h1.keep f f (by decide +kernel) (by decide +kernel), h2.keep f f (by decide +kernel) (by decide +kernel), L', h4.keepX f.1 (by decide +kernel), fun k hk => ?_⟩⟩
  rw [(nof_c f (L := [(2, 0)]) (by decide +kernel) (c := 2) rfl).1]
  exact h5 k hk
