/-! ===== LEVEL 3: texts on a tape, read by class and reference ===== -/
theorem q_ti {k : Nat} (h : k < 100000) : (cI (k : Int)).toInt = (k : Int) := cI_toInt (by omega) (by omega)
theorem q_ix {k : Nat} (h : k < 100000) : ix (cI (k : Int)) = k := by rw [ix_cI (by omega) (by omega)]; omega
theorem q_in {k N : Nat} (h : k < N) (h2 : N < 100000) : inb (cI (k : Int)) N = true := inb_iff.mpr ⟨by rw [q_ti (by omega)]; omega, by rw [q_ti (by omega)]; omega⟩
theorem q_s {k : Nat} (h : k < 99999) : cI (k : Int) + cI 1 = cI ((k + 1 : Nat) : Int) := by
  rw [eq_i, inc_i (by rw [q_ti (by omega)]; omega), q_ti (by omega), q_ti (by omega)]; omega
theorem q_lt {k n : Nat} (h : k < 100000) (h2 : n < 100000) : cI (k : Int) < cI (n : Int) ↔ k < n := by
  rw [lt_i, q_ti h, q_ti h2]; omega
section
variable {s : ev_M}
/-- a reading that has failed stays where it is -/
theorem eatF {c : Int32} (h : s.1 549 140 = cI 1) : fM_eat s c = some s := by
  unfold fM_eat fM_eat_b16 fM_eat_b21 fM_eat_b45
  rw [if_neg (by rw [h]; decide), if_pos (by decide), ltM_eq, wI_self h, if_neg (by rw [h]; decide), ltM_eq, wI_self rfl]
theorem digF (h : s.1 549 140 = cI 1) : fM_digits s = some (s, cI 0) := by
  show fM_digits_h4 (1048575 + 1) s (cI 0) (cI 0) = _
  generalize 1048575 = n
  unfold fM_digits_h4 fM_digits_b60 fM_digits_b72 fM_digits_b77
  rw [if_neg (by rw [h]; decide), if_neg (by rw [h]; decide), if_pos (by decide), ltM_eq, wI_self h]
theorem letF (h : s.1 549 140 = cI 1) : fM_letters s = some (s, cL 0) := by
  show fM_letters_h4 (1048575 + 1) s (cI 0) (cL 0) = _
  generalize 1048575 = n
  unfold fM_letters_h4 fM_letters_b65 fM_letters_b77 fM_letters_b82
  rw [if_neg (by rw [h]; decide), if_neg (by rw [h]; decide), if_pos (by decide), ltM_eq, wI_self h]
theorem comF (h : s.1 549 140 = cI 1) : fM_comma s = some (s, cI 0) := by
  unfold fM_comma
  rw [eatF h, bd1_some, digF h, bd2_some]
end
def FrdM : List (Nat × (Nat × Nat)) := [(549, 549, 140), (549, 549, 141)]
theorem in_bI {s : ev_M} {a lo hi : Int32} : fM_in s a lo hi = some (bI (InR a lo hi)) := in_eq
/-- the text: the tape's bytes, what the reference reads -/
def RTx1 (s t : ev_M) : Prop := t.1 549 13 = s.1 1 1 ∧ 0 ≤ (s.1 1 1).toInt ∧ (s.1 1 1).toInt ≤ 4096 ∧ ∀ k, k < ix (s.1 1 1) → t.1 554 k = s.1 2 k
def tx1 (s : ev_M) (p : Nat) : Int32 := if p < ix (s.1 1 1) then s.1 2 p &&& cI 255 else cI (-1)
/-- both read at p -/
def Ps1 (p : Nat) (s t : ev_M) : Prop := RTx1 s t ∧ s.1 1 2 = cI (p : Int) ∧ t.1 549 139 = cI (p : Int) ∧ p ≤ ix (s.1 1 1)
def FrdC1 : List (Nat × (Nat × Nat)) := [(1, 1, 3), (1, 1, 5), (1, 1, 6), (3, 3, 0)]
theorem RTx1.kp {s t s' t' : ev_M} (h : RTx1 s t) (hs : fr FrdC1 s s') (ht : fr FrdM t t') : RTx1 s' t' := by
  unfold RTx1 at h ⊢
  rw [(hs.1 1 1 rfl).1, (ht.1 549 13 rfl).1, show s'.1 2 = s.1 2 from funext fun k => (hs.1 2 k rfl).1, show t'.1 554 = t.1 554 from funext fun k => (ht.1 554 k rfl).1]
  exact h
theorem tx1_kp {s s' : ev_M} {p : Nat} (hs : fr FrdC1 s s') : tx1 s' p = tx1 s p := by
  unfold tx1
  rw [(hs.1 1 1 rfl).1, show s'.1 2 = s.1 2 from funext fun k => (hs.1 2 k rfl).1]
theorem Ps1.le {p : Nat} {s t : ev_M} (h : Ps1 p s t) : p ≤ 4096 := by
  have := h.2.2.2
  have e := ix_toNat (s.1 1 1)
  have := h.1.2.2.1
  omega
theorem by1 {p : Nat} {s t : ev_M} (h : Ps1 p s t) : fTape_byteAt_1 s (s.1 1 2) = some (tx1 s p) := by
  have l := h.le
  obtain ⟨⟨a1, a2, a3, a4⟩, b1, b2, b3⟩ := h
  have e := ix_toNat (s.1 1 1)
  unfold fTape_byteAt_1 tx1
  rw [b1, if_neg (by rw [lt_i, i32_0, q_ti (by omega)]; omega)]
  by_cases z : p < ix (s.1 1 1)
  · rw [if_pos (by rw [lt_i, q_ti (by omega)]; omega), if_pos z, if_pos (q_in (by omega) (by decide)), q_ix (by omega)]
  · rw [if_neg (by rw [lt_i, q_ti (by omega)]; omega), if_neg z]
theorem lk1 {p : Nat} {s t : ev_M} (h : Ps1 p s t) : fM_look t = some (tx1 s p) := by
  have l := h.le
  obtain ⟨⟨a1, a2, a3, a4⟩, b1, b2, b3⟩ := h
  have e := ix_toNat (s.1 1 1)
  unfold fM_look tx1
  rw [b2, a1]
  by_cases z : p < ix (s.1 1 1)
  · rw [if_pos (by rw [lt_i, q_ti (by omega)]; omega), if_pos z, if_pos (q_in (by omega) (by decide)), q_ix (by omega), a4 p z]
  · rw [if_neg (by rw [lt_i, q_ti (by omega)]; omega), if_neg z]
theorem tx1_lt {s : ev_M} {p : Nat} {x : Int32} (h : tx1 s p = x) (hx : 0 ≤ x.toInt) : p < ix (s.1 1 1) := by
  unfold tx1 at h
  by_cases z : p < ix (s.1 1 1)
  · exact z
  · rw [if_neg z] at h
    rw [← h] at hx
    exact absurd hx (by decide)
/-- one byte on -/
theorem Ps1.fw {p : Nat} {s t : ev_M} (h : Ps1 p s t) (hp : p < ix (s.1 1 1)) : Ps1 (p + 1) (wI s 1 2 (s.1 1 2 + cI 1)) (wI t 549 139 (t.1 549 139 + cI 1)) := by
  have l := h.le
  obtain ⟨a, b1, b2, b3⟩ := h
  rw [b1, b2, q_s (by omega)]
  refine ⟨a.kp (fr.rf.wI rfl) (fr.rf.wI rfl), by rw [wI_c, up1_eq], by rw [wI_c, up1_eq], ?_⟩
  rw [wI_c, up1_ne (by decide)]
  exact hp
theorem nl1 : ∀ (r m m' d p : Nat) (v : Int32) (s t : ev_M), d + r = 6 → r < m → r < m' → Ps1 p s t → t.1 549 140 = 0 → 0 ≤ v.toInt → v.toInt < ((10 ^ d : Nat) : Int) → ∃ (p' d' : Nat) (v' : Int32) (s' t' : ev_M), fTape_readsNumber_1_h4 m s v (cI (d : Int)) = fTape_readsNumber_1_b69 s' v' (cI (d' : Int)) ∧ fM_digits_h4 m' t (cI (d : Int)) v = fM_digits_b60 t' (cI (d' : Int)) v' ∧ Ps1 p' s' t' ∧ t'.1 549 140 = 0 ∧ 0 ≤ v'.toInt ∧ v'.toInt ≤ 999999 ∧ p' + d = p + d' ∧ d ≤ d' ∧ d' ≤ 6 ∧ fr [(1, 1, 3)] s s' ∧ fr [(549, 549, 140)] t t'
  | 0, m, m', d, p, v, s, t, hd, hm, hm', hP, hf, h0, h1 => by
    obtain ⟨m, rfl⟩ : ∃ k, m = k + 1 := ⟨m - 1, by omega⟩
    obtain ⟨m', rfl⟩ : ∃ k, m' = k + 1 := ⟨m' - 1, by omega⟩
    have e : d = 6 := by omega
    subst e
    refine ⟨p, 6, v, s, t, ?_, ?_, hP, hf, h0, by omega, rfl, Nat.le_refl _, Nat.le_refl _, fr.rf, fr.rf⟩
    · rw [fTape_readsNumber_1_h4, if_neg (by decide)]
    · rw [fM_digits_h4, if_pos hf, if_neg (by decide)]
  | r + 1, m, m', d, p, v, s, t, hd, hm, hm', hP, hf, h0, h1 => by
    obtain ⟨m, rfl⟩ : ∃ k, m = k + 1 := ⟨m - 1, by omega⟩
    obtain ⟨m', rfl⟩ : ∃ k, m' = k + 1 := ⟨m' - 1, by omega⟩
    have d6 : cI (d : Int) < cI 6 := by rw [lt_i, q_ti (by omega), show (cI 6).toInt = 6 from rfl]; omega
    have pw : (10 ^ (d + 1) : Nat) = 10 ^ d * 10 := Nat.pow_succ ..
    have pw6 : (10 ^ d : Nat) ≤ 10 ^ 5 := Nat.pow_le_pow_right (by decide) (by omega)
    have e48 : (cI 48).toInt = 48 := rfl
    have e57 : (cI 57).toInt = 57 := rfl
    have e10 : (cI 10).toInt = 10 := rfl
    have bA := by1 hP
    have lA := lk1 hP
    by_cases z : InR (tx1 s p) (cI 48) (cI 57)
    · obtain ⟨z1, z2⟩ := z
      have hp := tx1_lt rfl (show 0 ≤ (tx1 s p).toInt by omega)
      have w1 : (v * cI 10).toInt = v.toInt * 10 := by rw [mul_toInt (by rw [e10]; omega) (by rw [e10]; omega), e10]
      have w2 : (v * cI 10 + tx1 s p).toInt = v.toInt * 10 + (tx1 s p).toInt := by rw [add_b (by omega) (by omega), w1]
      have w3 : (v * cI 10 + tx1 s p - cI 48).toInt = v.toInt * 10 + (tx1 s p).toInt - 48 := by rw [sub_b (by omega) (by omega), w2, e48]
      obtain ⟨p', d', v', s', t', b1, b2, b3, b4, b5, b6, b7, b8, b9, b10, b11⟩ := nl1 r m m' (d + 1) (p + 1) (v * cI 10 + tx1 s p - cI 48) _ _ (by omega) (by omega) (by omega) (hP.fw hp) (by rw [wI_c, up1_ne (by decide)]; exact hf) (by omega) (by rw [w3, pw]; omega)
      refine ⟨p', d', v', s', t', ?_, ?_, b3, b4, b5, b6, by omega, by omega, b9, (fr.rf.wI rfl).tr b10, (fr.rf.wI rfl).tr b11⟩
      · rw [← b1, ← q_s (by omega), fTape_readsNumber_1_h4, if_pos d6, bA, bd1_some, if_neg (by rw [lt_i]; omega), bd1_some, if_pos (by rw [le_i]; omega), bd1_some, ltI_eq, ltM_eq]
      · rw [← b2, ← q_s (by omega), fM_digits_h4, if_pos hf, if_pos d6, lA, bd1_some, in_bI, bd1_some, ite_bI, if_pos ⟨z1, z2⟩, bd1_some, ltI_eq, ltM_eq, Int32.mul_comm]
    · refine ⟨p, d, v, s, t, ?_, ?_, hP, hf, h0, by omega, rfl, Nat.le_refl _, by omega, fr.rf, fr.rf⟩
      · rw [fTape_readsNumber_1_h4, if_pos d6, bA, bd1_some]
        by_cases y : tx1 s p < cI 48
        · rw [if_pos y]
        · rw [if_neg y, bd1_some, if_neg (fun u => z ⟨by rw [lt_i] at y; omega, le_i.mp u⟩)]
      · rw [fM_digits_h4, if_pos hf, if_pos d6, lA, bd1_some, in_bI, bd1_some, ite_bI, if_neg z]
/-- a number is read -/
theorem rdN1 {p nr : Nat} {s t : ev_M} (h : Ps1 p s t) (hf : t.1 549 140 = 0) (hn : s.1 1 4 = cI (nr : Int)) (h4 : nr < 4) : (∃ (s' t' : ev_M) (v : Int32) (p' : Nat), fTape_reads_1 s (cI 35) = some (s', cI 0) ∧ fM_digits t = some (t', v) ∧ Ps1 p' s' t' ∧ t'.1 549 140 = cI 1 ∧ fr FrdC1 s s' ∧ fr FrdM t t') ∨ (∃ (s' t' : ev_M) (p' : Nat) (v : Int32), fTape_reads_1 s (cI 35) = some (s', cI 1) ∧ fM_digits t = some (t', v) ∧ Ps1 p' s' t' ∧ t'.1 549 140 = 0 ∧ p < p' ∧ Rg 0 v 999999 ∧ s'.1 3 = up1 (s.1 3) nr v ∧ s'.1 1 4 = cI ((nr + 1 : Nat) : Int) ∧ s'.2.1 1 5 = s.2.1 1 5 ∧ fr FrdC1 s s' ∧ fr FrdM t t') := by
  obtain ⟨p', d', v', s', t', b1, b2, b3, b4, b5, b6, b7, b8, b9, b10, b11⟩ := nl1 6 1048576 1048576 0 p (cI 0) s t (by omega) (by omega) (by omega) h hf (by decide) (by decide)
  have c1 : fTape_readsNumber_1 s = fTape_readsNumber_1_b69 s' v' (cI (d' : Int)) := b1
  have c2 : fM_digits t = fM_digits_b60 t' (cI (d' : Int)) v' := b2
  have n4 : s'.1 1 4 = cI (nr : Int) := by rw [(b10.1 1 4 rfl).1]; exact hn
  have nN : s'.1 3 = s.1 3 := funext fun k => (b10.1 3 k rfl).1
  have nL : s'.2.1 1 5 = s.2.1 1 5 := (b10.1 1 5 rfl).2
  have kr : fTape_reads_1 s (cI 35) = bd2 (fTape_readsNumber_1 s) fun s1 v2 => if bz v2 = true then some (s1, v2) else none := by
    unfold fTape_reads_1
    rw [if_pos rfl]
  by_cases z : d' = 0
  · refine Or.inl ⟨s', wI t' 549 140 (cI 1), v', p', ?_, ?_, ⟨b3.1.kp fr.rf (fr.rf.wI rfl), b3.2.1, by rw [wI_c, up1_ne (by decide)]; exact b3.2.2.1, b3.2.2.2⟩, by rw [wI_c, up1_eq], b10.mono (by decide +kernel), (b11.mono (by decide +kernel)).wI rfl⟩
    · rw [kr, c1]
      unfold fTape_readsNumber_1_b69
      rw [z, if_pos (show cI ((0 : Nat) : Int) = 0 from rfl), bd2_some, if_pos (show bz (cI 0) = true by decide)]
    · rw [c2]
      unfold fM_digits_b60 fM_digits_b72 fM_digits_b77
      rw [if_pos b4, z, if_pos (show cI ((0 : Nat) : Int) = 0 from rfl), if_pos (by decide), ltM_eq]
  · have nz : ¬ cI (d' : Int) = 0 := fun u => by rw [eq_i, q_ti (by omega), i32_0] at u; omega
    have fC : fr FrdC1 s (wI (wI s' 1 4 (cI (nr : Int) + cI 1)) 3 nr v') := ((b10.mono (by decide +kernel)).wI rfl).wI rfl
    refine Or.inr ⟨wI (wI s' 1 4 (cI (nr : Int) + cI 1)) 3 nr v', wI t' 549 140 (cI 0), p', v', ?_, ?_, ⟨h.1.kp fC (((b11.mono (by decide +kernel)).wI rfl)), ?_, by rw [wI_c, up1_ne (by decide)]; exact b3.2.2.1, ?_⟩, by rw [wI_c, up1_eq]; rfl, by omega, ⟨b5, b6⟩, ?_, ?_, ?_, fC, (b11.mono (by decide +kernel)).wI rfl⟩
    · rw [kr, c1]
      unfold fTape_readsNumber_1_b69
      rw [if_neg nz, n4, if_pos (by rw [lt_i, q_ti (by omega), show (cI 4).toInt = 4 from rfl]; omega), ltM_eq, if_pos (q_in h4 (by decide)), ltM_eq, q_ix (by omega), bd2_some, if_pos (show bz (cI 1) = true by decide)]
    · rw [c2]
      unfold fM_digits_b60 fM_digits_b77
      rw [if_pos b4, if_neg nz, if_pos (by decide), ltM_eq]
    · simp (disch := decide) only [ix_0, ix_1, ix_2, ix_3, ix_4, ix_5, ix_6, ix_7, ix_8, ix_9, ix_10, ix_11, ix_12, ix_13, ix_14, ix_15, ix_16, ix_17, ix_18, ix_19, ix_20, ix_21, Nat.reduceAdd, wI_c, wI_ne, wL_1, lupd_ne, up1_eq, up1_ne]
      exact b3.2.1
    · rw [(fC.1 1 1 rfl).1, ← (b10.1 1 1 rfl).1]
      exact b3.2.2.2
    · rw [wI_c, wI_ne (by decide), nN]
    · rw [wI_ne (by decide), wI_c, up1_eq, q_s (by omega)]
    · exact nL
/-- a sign is read -/
theorem rdC1 {p : Nat} {c : Int32} {s t : ev_M} (h : Ps1 p s t) (hf : t.1 549 140 = 0) (h1 : ¬ c = cI 35) (h2 : ¬ c = cI 64) (h3 : 0 ≤ c.toInt) : (∃ (s' t' : ev_M) (p' : Nat), fTape_reads_1 s c = some (s', cI 0) ∧ fM_eat t c = some t' ∧ Ps1 p' s' t' ∧ t'.1 549 140 = cI 1 ∧ fr FrdC1 s s' ∧ fr FrdM t t') ∨ (∃ (s' t' : ev_M) (p' : Nat), fTape_reads_1 s c = some (s', cI 1) ∧ fM_eat t c = some t' ∧ Ps1 p' s' t' ∧ t'.1 549 140 = 0 ∧ p < p' ∧ s'.1 3 = s.1 3 ∧ s'.1 1 4 = s.1 1 4 ∧ s'.2.1 1 5 = s.2.1 1 5 ∧ fr FrdC1 s s' ∧ fr FrdM t t') := by
  have bA := by1 h
  have lA := lk1 h
  have kr : fTape_reads_1 s c = if tx1 s p = c then some (wI s 1 2 (s.1 1 2 + cI 1), cI 1) else some (s, cI 0) := by
    unfold fTape_reads_1
    rw [if_neg h1, if_neg h2, bA, bd1_some]
    rfl
  by_cases z : tx1 s p = c
  · have hp := tx1_lt z h3
    have fw := h.fw hp
    have n0 : ¬ (cI 1 : Int32) = 0 := by decide
    refine Or.inr ⟨_, wI (wI t 549 140 (cI 0)) 549 139 (t.1 549 139 + cI 1), p + 1, by rw [kr, if_pos z], ?_, ⟨h.1.kp (fr.rf.wI rfl) ((fr.rf.wI rfl).wI rfl), fw.2.1, ?_, fw.2.2.2⟩, ?_, by omega, wI_ne (by decide), ?_, rfl, fr.rf.wI rfl, (fr.rf.wI rfl).wI rfl⟩
    · unfold fM_eat fM_eat_b21 fM_eat_b45
      rw [if_pos hf, lA, bd1_some, if_pos z, if_pos (by decide), ltM_eq, if_pos (by rw [wI_c, up1_eq]; rfl), ltM_eq, wI_c, up1_ne (by decide)]
    · have w := fw.2.2.1
      rw [wI_c, up1_eq] at w ⊢
      exact w
    · rw [wI_c, up1_ne (by decide), wI_c, up1_eq]; rfl
    · rw [wI_c, up1_ne (by decide)]
  · refine Or.inl ⟨s, wI t 549 140 (cI 1), p, by rw [kr, if_neg z], ?_, ⟨h.1.kp fr.rf (fr.rf.wI rfl), h.2.1, by rw [wI_c, up1_ne (by decide)]; exact h.2.2.1, h.2.2.2⟩, by rw [wI_c, up1_eq], fr.rf, fr.rf.wI rfl⟩
    unfold fM_eat fM_eat_b16 fM_eat_b21 fM_eat_b45
    rw [if_pos hf, lA, bd1_some, if_neg z, if_pos (by decide), ltM_eq, if_neg (by rw [wI_c, up1_eq]; decide), ltM_eq, wI_self rfl]
theorem wLk1 {p : Nat} {s t : ev_M} (hP : Ps1 p s t) (x : Int64) : RTx1 (wI (wL s 1 5 x) 1 2 (s.1 1 2 + cI 1)) (wI t 549 139 (t.1 549 139 + cI 1)) := hP.1.kp ((fr.rf.wL rfl).wI rfl) (fr.rf.wI rfl)
theorem ll1 : ∀ (r m m' d p : Nat) (s t : ev_M), d + r = 10 → r < m → r < m' → Ps1 p s t → t.1 549 140 = 0 → ∃ (p' d' : Nat) (s' t' : ev_M), fTape_readsName_1_h7 m s (cI (d : Int)) = fTape_readsName_1_b83 s' (cI (d' : Int)) ∧ fM_letters_h4 m' t (cI (d : Int)) (s.2.1 1 5) = fM_letters_b65 t' (cI (d' : Int)) (s'.2.1 1 5) ∧ Ps1 p' s' t' ∧ t'.1 549 140 = 0 ∧ p' + d = p + d' ∧ d ≤ d' ∧ d' ≤ 10 ∧ fr [(1, 1, 3), (1, 1, 6)] s s' ∧ fr [(549, 549, 140)] t t'
  | 0, m, m', d, p, s, t, hd, hm, hm', hP, hf => by
    obtain ⟨m, rfl⟩ : ∃ k, m = k + 1 := ⟨m - 1, by omega⟩
    obtain ⟨m', rfl⟩ : ∃ k, m' = k + 1 := ⟨m' - 1, by omega⟩
    have e : d = 10 := by omega
    subst e
    refine ⟨p, 10, s, t, ?_, ?_, hP, hf, rfl, Nat.le_refl _, Nat.le_refl _, fr.rf, fr.rf⟩
    · rw [fTape_readsName_1_h7, if_neg (by decide)]
    · rw [fM_letters_h4, if_pos hf, if_neg (by decide)]
  | r + 1, m, m', d, p, s, t, hd, hm, hm', hP, hf => by
    obtain ⟨m, rfl⟩ : ∃ k, m = k + 1 := ⟨m - 1, by omega⟩
    obtain ⟨m', rfl⟩ : ∃ k, m' = k + 1 := ⟨m' - 1, by omega⟩
    have d6 : cI (d : Int) < cI 10 := by rw [lt_i, q_ti (by omega), show (cI 10).toInt = 10 from rfl]; omega
    have e65 : (cI 65).toInt = 65 := rfl
    have bA := by1 hP
    have lA := lk1 hP
    by_cases z : InR (tx1 s p) (cI 65) (cI 90)
    · obtain ⟨z1, z2⟩ := z
      have hp := tx1_lt rfl (show 0 ≤ (tx1 s p).toInt by omega)
      have fw := hP.fw hp
      obtain ⟨x, ex⟩ : ∃ x : Int64, x = (((s.2.1 1 5) * (cL 27)) + (Int32.toInt64 (tx1 s p)) - cL 65) + cL 1 := ⟨_, rfl⟩
      have P1 : Ps1 (p + 1) (wI (wL s 1 5 x) 1 2 (s.1 1 2 + cI 1)) (wI t 549 139 (t.1 549 139 + cI 1)) := ⟨wLk1 hP x, fw.2.1, fw.2.2.1, fw.2.2.2⟩
      have L1 : (wI (wL s 1 5 x) 1 2 (s.1 1 2 + cI 1)).2.1 1 5 = x := by
        show u2 s.2.1 1 5 x 1 5 = x
        simp [u2]
      obtain ⟨p', d', s', t', b1, b2, b3, b4, b7, b8, b9, b10, b11⟩ := ll1 r m m' (d + 1) (p + 1) _ _ (by omega) (by omega) (by omega) P1 (by rw [wI_c, up1_ne (by decide)]; exact hf)
      refine ⟨p', d', s', t', ?_, ?_, b3, b4, by omega, by omega, b9, ((fr.rf.wL rfl).wI rfl).tr b10, (fr.rf.wI rfl).tr b11⟩
      · rw [← b1, ← q_s (by omega), fTape_readsName_1_h7, if_pos d6, bA, bd1_some, if_neg (by rw [lt_i]; omega), bd1_some, if_pos (by rw [le_i]; omega), bd1_some, ltM_eq, ltM_eq, ex]
        rfl
      · rw [← b2, ← q_s (by omega), fM_letters_h4, if_pos hf, if_pos d6, lA, bd1_some, in_bI, bd1_some, ite_bI, if_pos ⟨z1, z2⟩, bd1_some, ltL_eq, ltM_eq, Int64.mul_comm, ← ex, L1]
    · refine ⟨p, d, s, t, ?_, ?_, hP, hf, rfl, Nat.le_refl _, by omega, fr.rf, fr.rf⟩
      · rw [fTape_readsName_1_h7, if_pos d6, bA, bd1_some]
        by_cases y : tx1 s p < cI 65
        · rw [if_pos y]
        · rw [if_neg y, bd1_some, if_neg (fun u => z ⟨by rw [lt_i] at y; omega, le_i.mp u⟩)]
      · rw [fM_letters_h4, if_pos hf, if_pos d6, lA, bd1_some, in_bI, bd1_some, ite_bI, if_neg z]
/-- the text: the tape's bytes, what the reference reads -/
def RTx4 (s t : ev_M) : Prop := t.1 549 13 = s.1 4 1 ∧ 0 ≤ (s.1 4 1).toInt ∧ (s.1 4 1).toInt ≤ 4096 ∧ ∀ k, k < ix (s.1 4 1) → t.1 554 k = s.1 5 k
def tx4 (s : ev_M) (p : Nat) : Int32 := if p < ix (s.1 4 1) then s.1 5 p &&& cI 255 else cI (-1)
/-- both read at p -/
def Ps4 (p : Nat) (s t : ev_M) : Prop := RTx4 s t ∧ s.1 4 2 = cI (p : Int) ∧ t.1 549 139 = cI (p : Int) ∧ p ≤ ix (s.1 4 1)
def FrdC4 : List (Nat × (Nat × Nat)) := [(4, 4, 3), (4, 4, 5), (4, 4, 6), (6, 6, 0)]
theorem RTx4.kp {s t s' t' : ev_M} (h : RTx4 s t) (hs : fr FrdC4 s s') (ht : fr FrdM t t') : RTx4 s' t' := by
  unfold RTx4 at h ⊢
  rw [(hs.1 4 1 rfl).1, (ht.1 549 13 rfl).1, show s'.1 5 = s.1 5 from funext fun k => (hs.1 5 k rfl).1, show t'.1 554 = t.1 554 from funext fun k => (ht.1 554 k rfl).1]
  exact h
theorem tx4_kp {s s' : ev_M} {p : Nat} (hs : fr FrdC4 s s') : tx4 s' p = tx4 s p := by
  unfold tx4
  rw [(hs.1 4 1 rfl).1, show s'.1 5 = s.1 5 from funext fun k => (hs.1 5 k rfl).1]
theorem Ps4.le {p : Nat} {s t : ev_M} (h : Ps4 p s t) : p ≤ 4096 := by
  have := h.2.2.2
  have e := ix_toNat (s.1 4 1)
  have := h.1.2.2.1
  omega
theorem by4 {p : Nat} {s t : ev_M} (h : Ps4 p s t) : fTape_byteAt_4 s (s.1 4 2) = some (tx4 s p) := by
  have l := h.le
  obtain ⟨⟨a1, a2, a3, a4⟩, b1, b2, b3⟩ := h
  have e := ix_toNat (s.1 4 1)
  unfold fTape_byteAt_4 tx4
  rw [b1, if_neg (by rw [lt_i, i32_0, q_ti (by omega)]; omega)]
  by_cases z : p < ix (s.1 4 1)
  · rw [if_pos (by rw [lt_i, q_ti (by omega)]; omega), if_pos z, if_pos (q_in (by omega) (by decide)), q_ix (by omega)]
  · rw [if_neg (by rw [lt_i, q_ti (by omega)]; omega), if_neg z]
theorem lk4 {p : Nat} {s t : ev_M} (h : Ps4 p s t) : fM_look t = some (tx4 s p) := by
  have l := h.le
  obtain ⟨⟨a1, a2, a3, a4⟩, b1, b2, b3⟩ := h
  have e := ix_toNat (s.1 4 1)
  unfold fM_look tx4
  rw [b2, a1]
  by_cases z : p < ix (s.1 4 1)
  · rw [if_pos (by rw [lt_i, q_ti (by omega)]; omega), if_pos z, if_pos (q_in (by omega) (by decide)), q_ix (by omega), a4 p z]
  · rw [if_neg (by rw [lt_i, q_ti (by omega)]; omega), if_neg z]
theorem tx4_lt {s : ev_M} {p : Nat} {x : Int32} (h : tx4 s p = x) (hx : 0 ≤ x.toInt) : p < ix (s.1 4 1) := by
  unfold tx4 at h
  by_cases z : p < ix (s.1 4 1)
  · exact z
  · rw [if_neg z] at h
    rw [← h] at hx
    exact absurd hx (by decide)
/-- one byte on -/
theorem Ps4.fw {p : Nat} {s t : ev_M} (h : Ps4 p s t) (hp : p < ix (s.1 4 1)) : Ps4 (p + 1) (wI s 4 2 (s.1 4 2 + cI 1)) (wI t 549 139 (t.1 549 139 + cI 1)) := by
  have l := h.le
  obtain ⟨a, b1, b2, b3⟩ := h
  rw [b1, b2, q_s (by omega)]
  refine ⟨a.kp (fr.rf.wI rfl) (fr.rf.wI rfl), by rw [wI_c, up1_eq], by rw [wI_c, up1_eq], ?_⟩
  rw [wI_c, up1_ne (by decide)]
  exact hp
theorem nl4 : ∀ (r m m' d p : Nat) (v : Int32) (s t : ev_M), d + r = 6 → r < m → r < m' → Ps4 p s t → t.1 549 140 = 0 → 0 ≤ v.toInt → v.toInt < ((10 ^ d : Nat) : Int) → ∃ (p' d' : Nat) (v' : Int32) (s' t' : ev_M), fTape_readsNumber_4_h4 m s v (cI (d : Int)) = fTape_readsNumber_4_b69 s' v' (cI (d' : Int)) ∧ fM_digits_h4 m' t (cI (d : Int)) v = fM_digits_b60 t' (cI (d' : Int)) v' ∧ Ps4 p' s' t' ∧ t'.1 549 140 = 0 ∧ 0 ≤ v'.toInt ∧ v'.toInt ≤ 999999 ∧ p' + d = p + d' ∧ d ≤ d' ∧ d' ≤ 6 ∧ fr [(4, 4, 3)] s s' ∧ fr [(549, 549, 140)] t t'
  | 0, m, m', d, p, v, s, t, hd, hm, hm', hP, hf, h0, h1 => by
    obtain ⟨m, rfl⟩ : ∃ k, m = k + 1 := ⟨m - 1, by omega⟩
    obtain ⟨m', rfl⟩ : ∃ k, m' = k + 1 := ⟨m' - 1, by omega⟩
    have e : d = 6 := by omega
    subst e
    refine ⟨p, 6, v, s, t, ?_, ?_, hP, hf, h0, by omega, rfl, Nat.le_refl _, Nat.le_refl _, fr.rf, fr.rf⟩
    · rw [fTape_readsNumber_4_h4, if_neg (by decide)]
    · rw [fM_digits_h4, if_pos hf, if_neg (by decide)]
  | r + 1, m, m', d, p, v, s, t, hd, hm, hm', hP, hf, h0, h1 => by
    obtain ⟨m, rfl⟩ : ∃ k, m = k + 1 := ⟨m - 1, by omega⟩
    obtain ⟨m', rfl⟩ : ∃ k, m' = k + 1 := ⟨m' - 1, by omega⟩
    have d6 : cI (d : Int) < cI 6 := by rw [lt_i, q_ti (by omega), show (cI 6).toInt = 6 from rfl]; omega
    have pw : (10 ^ (d + 1) : Nat) = 10 ^ d * 10 := Nat.pow_succ ..
    have pw6 : (10 ^ d : Nat) ≤ 10 ^ 5 := Nat.pow_le_pow_right (by decide) (by omega)
    have e48 : (cI 48).toInt = 48 := rfl
    have e57 : (cI 57).toInt = 57 := rfl
    have e10 : (cI 10).toInt = 10 := rfl
    have bA := by4 hP
    have lA := lk4 hP
    by_cases z : InR (tx4 s p) (cI 48) (cI 57)
    · obtain ⟨z1, z2⟩ := z
      have hp := tx4_lt rfl (show 0 ≤ (tx4 s p).toInt by omega)
      have w1 : (v * cI 10).toInt = v.toInt * 10 := by rw [mul_toInt (by rw [e10]; omega) (by rw [e10]; omega), e10]
      have w2 : (v * cI 10 + tx4 s p).toInt = v.toInt * 10 + (tx4 s p).toInt := by rw [add_b (by omega) (by omega), w1]
      have w3 : (v * cI 10 + tx4 s p - cI 48).toInt = v.toInt * 10 + (tx4 s p).toInt - 48 := by rw [sub_b (by omega) (by omega), w2, e48]
      obtain ⟨p', d', v', s', t', b1, b2, b3, b4, b5, b6, b7, b8, b9, b10, b11⟩ := nl4 r m m' (d + 1) (p + 1) (v * cI 10 + tx4 s p - cI 48) _ _ (by omega) (by omega) (by omega) (hP.fw hp) (by rw [wI_c, up1_ne (by decide)]; exact hf) (by omega) (by rw [w3, pw]; omega)
      refine ⟨p', d', v', s', t', ?_, ?_, b3, b4, b5, b6, by omega, by omega, b9, (fr.rf.wI rfl).tr b10, (fr.rf.wI rfl).tr b11⟩
      · rw [← b1, ← q_s (by omega), fTape_readsNumber_4_h4, if_pos d6, bA, bd1_some, if_neg (by rw [lt_i]; omega), bd1_some, if_pos (by rw [le_i]; omega), bd1_some, ltI_eq, ltM_eq]
      · rw [← b2, ← q_s (by omega), fM_digits_h4, if_pos hf, if_pos d6, lA, bd1_some, in_bI, bd1_some, ite_bI, if_pos ⟨z1, z2⟩, bd1_some, ltI_eq, ltM_eq, Int32.mul_comm]
    · refine ⟨p, d, v, s, t, ?_, ?_, hP, hf, h0, by omega, rfl, Nat.le_refl _, by omega, fr.rf, fr.rf⟩
      · rw [fTape_readsNumber_4_h4, if_pos d6, bA, bd1_some]
        by_cases y : tx4 s p < cI 48
        · rw [if_pos y]
        · rw [if_neg y, bd1_some, if_neg (fun u => z ⟨by rw [lt_i] at y; omega, le_i.mp u⟩)]
      · rw [fM_digits_h4, if_pos hf, if_pos d6, lA, bd1_some, in_bI, bd1_some, ite_bI, if_neg z]
/-- a number is read -/
theorem rdN4 {p nr : Nat} {s t : ev_M} (h : Ps4 p s t) (hf : t.1 549 140 = 0) (hn : s.1 4 4 = cI (nr : Int)) (h4 : nr < 4) : (∃ (s' t' : ev_M) (v : Int32) (p' : Nat), fTape_reads_4 s (cI 35) = some (s', cI 0) ∧ fM_digits t = some (t', v) ∧ Ps4 p' s' t' ∧ t'.1 549 140 = cI 1 ∧ fr FrdC4 s s' ∧ fr FrdM t t') ∨ (∃ (s' t' : ev_M) (p' : Nat) (v : Int32), fTape_reads_4 s (cI 35) = some (s', cI 1) ∧ fM_digits t = some (t', v) ∧ Ps4 p' s' t' ∧ t'.1 549 140 = 0 ∧ p < p' ∧ Rg 0 v 999999 ∧ s'.1 6 = up1 (s.1 6) nr v ∧ s'.1 4 4 = cI ((nr + 1 : Nat) : Int) ∧ s'.2.1 4 5 = s.2.1 4 5 ∧ fr FrdC4 s s' ∧ fr FrdM t t') := by
  obtain ⟨p', d', v', s', t', b1, b2, b3, b4, b5, b6, b7, b8, b9, b10, b11⟩ := nl4 6 1048576 1048576 0 p (cI 0) s t (by omega) (by omega) (by omega) h hf (by decide) (by decide)
  have c1 : fTape_readsNumber_4 s = fTape_readsNumber_4_b69 s' v' (cI (d' : Int)) := b1
  have c2 : fM_digits t = fM_digits_b60 t' (cI (d' : Int)) v' := b2
  have n4 : s'.1 4 4 = cI (nr : Int) := by rw [(b10.1 4 4 rfl).1]; exact hn
  have nN : s'.1 6 = s.1 6 := funext fun k => (b10.1 6 k rfl).1
  have nL : s'.2.1 4 5 = s.2.1 4 5 := (b10.1 4 5 rfl).2
  have kr : fTape_reads_4 s (cI 35) = bd2 (fTape_readsNumber_4 s) fun s1 v2 => if bz v2 = true then some (s1, v2) else none := by
    unfold fTape_reads_4
    rw [if_pos rfl]
  by_cases z : d' = 0
  · refine Or.inl ⟨s', wI t' 549 140 (cI 1), v', p', ?_, ?_, ⟨b3.1.kp fr.rf (fr.rf.wI rfl), b3.2.1, by rw [wI_c, up1_ne (by decide)]; exact b3.2.2.1, b3.2.2.2⟩, by rw [wI_c, up1_eq], b10.mono (by decide +kernel), (b11.mono (by decide +kernel)).wI rfl⟩
    · rw [kr, c1]
      unfold fTape_readsNumber_4_b69
      rw [z, if_pos (show cI ((0 : Nat) : Int) = 0 from rfl), bd2_some, if_pos (show bz (cI 0) = true by decide)]
    · rw [c2]
      unfold fM_digits_b60 fM_digits_b72 fM_digits_b77
      rw [if_pos b4, z, if_pos (show cI ((0 : Nat) : Int) = 0 from rfl), if_pos (by decide), ltM_eq]
  · have nz : ¬ cI (d' : Int) = 0 := fun u => by rw [eq_i, q_ti (by omega), i32_0] at u; omega
    have fC : fr FrdC4 s (wI (wI s' 4 4 (cI (nr : Int) + cI 1)) 6 nr v') := ((b10.mono (by decide +kernel)).wI rfl).wI rfl
    refine Or.inr ⟨wI (wI s' 4 4 (cI (nr : Int) + cI 1)) 6 nr v', wI t' 549 140 (cI 0), p', v', ?_, ?_, ⟨h.1.kp fC (((b11.mono (by decide +kernel)).wI rfl)), ?_, by rw [wI_c, up1_ne (by decide)]; exact b3.2.2.1, ?_⟩, by rw [wI_c, up1_eq]; rfl, by omega, ⟨b5, b6⟩, ?_, ?_, ?_, fC, (b11.mono (by decide +kernel)).wI rfl⟩
    · rw [kr, c1]
      unfold fTape_readsNumber_4_b69
      rw [if_neg nz, n4, if_pos (by rw [lt_i, q_ti (by omega), show (cI 4).toInt = 4 from rfl]; omega), ltM_eq, if_pos (q_in h4 (by decide)), ltM_eq, q_ix (by omega), bd2_some, if_pos (show bz (cI 1) = true by decide)]
    · rw [c2]
      unfold fM_digits_b60 fM_digits_b77
      rw [if_pos b4, if_neg nz, if_pos (by decide), ltM_eq]
    · simp (disch := decide) only [ix_0, ix_1, ix_2, ix_3, ix_4, ix_5, ix_6, ix_7, ix_8, ix_9, ix_10, ix_11, ix_12, ix_13, ix_14, ix_15, ix_16, ix_17, ix_18, ix_19, ix_20, ix_21, Nat.reduceAdd, wI_c, wI_ne, wL_1, lupd_ne, up1_eq, up1_ne]
      exact b3.2.1
    · rw [(fC.1 4 1 rfl).1, ← (b10.1 4 1 rfl).1]
      exact b3.2.2.2
    · rw [wI_c, wI_ne (by decide), nN]
    · rw [wI_ne (by decide), wI_c, up1_eq, q_s (by omega)]
    · exact nL
/-- a sign is read -/
theorem rdC4 {p : Nat} {c : Int32} {s t : ev_M} (h : Ps4 p s t) (hf : t.1 549 140 = 0) (h1 : ¬ c = cI 35) (h2 : ¬ c = cI 64) (h3 : 0 ≤ c.toInt) : (∃ (s' t' : ev_M) (p' : Nat), fTape_reads_4 s c = some (s', cI 0) ∧ fM_eat t c = some t' ∧ Ps4 p' s' t' ∧ t'.1 549 140 = cI 1 ∧ fr FrdC4 s s' ∧ fr FrdM t t') ∨ (∃ (s' t' : ev_M) (p' : Nat), fTape_reads_4 s c = some (s', cI 1) ∧ fM_eat t c = some t' ∧ Ps4 p' s' t' ∧ t'.1 549 140 = 0 ∧ p < p' ∧ s'.1 6 = s.1 6 ∧ s'.1 4 4 = s.1 4 4 ∧ s'.2.1 4 5 = s.2.1 4 5 ∧ fr FrdC4 s s' ∧ fr FrdM t t') := by
  have bA := by4 h
  have lA := lk4 h
  have kr : fTape_reads_4 s c = if tx4 s p = c then some (wI s 4 2 (s.1 4 2 + cI 1), cI 1) else some (s, cI 0) := by
    unfold fTape_reads_4
    rw [if_neg h1, if_neg h2, bA, bd1_some]
    rfl
  by_cases z : tx4 s p = c
  · have hp := tx4_lt z h3
    have fw := h.fw hp
    have n0 : ¬ (cI 1 : Int32) = 0 := by decide
    refine Or.inr ⟨_, wI (wI t 549 140 (cI 0)) 549 139 (t.1 549 139 + cI 1), p + 1, by rw [kr, if_pos z], ?_, ⟨h.1.kp (fr.rf.wI rfl) ((fr.rf.wI rfl).wI rfl), fw.2.1, ?_, fw.2.2.2⟩, ?_, by omega, wI_ne (by decide), ?_, rfl, fr.rf.wI rfl, (fr.rf.wI rfl).wI rfl⟩
    · unfold fM_eat fM_eat_b21 fM_eat_b45
      rw [if_pos hf, lA, bd1_some, if_pos z, if_pos (by decide), ltM_eq, if_pos (by rw [wI_c, up1_eq]; rfl), ltM_eq, wI_c, up1_ne (by decide)]
    · have w := fw.2.2.1
      rw [wI_c, up1_eq] at w ⊢
      exact w
    · rw [wI_c, up1_ne (by decide), wI_c, up1_eq]; rfl
    · rw [wI_c, up1_ne (by decide)]
  · refine Or.inl ⟨s, wI t 549 140 (cI 1), p, by rw [kr, if_neg z], ?_, ⟨h.1.kp fr.rf (fr.rf.wI rfl), h.2.1, by rw [wI_c, up1_ne (by decide)]; exact h.2.2.1, h.2.2.2⟩, by rw [wI_c, up1_eq], fr.rf, fr.rf.wI rfl⟩
    unfold fM_eat fM_eat_b16 fM_eat_b21 fM_eat_b45
    rw [if_pos hf, lA, bd1_some, if_neg z, if_pos (by decide), ltM_eq, if_neg (by rw [wI_c, up1_eq]; decide), ltM_eq, wI_self rfl]
theorem wLk4 {p : Nat} {s t : ev_M} (hP : Ps4 p s t) (x : Int64) : RTx4 (wI (wL s 4 5 x) 4 2 (s.1 4 2 + cI 1)) (wI t 549 139 (t.1 549 139 + cI 1)) := hP.1.kp ((fr.rf.wL rfl).wI rfl) (fr.rf.wI rfl)
theorem ll4 : ∀ (r m m' d p : Nat) (s t : ev_M), d + r = 10 → r < m → r < m' → Ps4 p s t → t.1 549 140 = 0 → ∃ (p' d' : Nat) (s' t' : ev_M), fTape_readsName_4_h7 m s (cI (d : Int)) = fTape_readsName_4_b83 s' (cI (d' : Int)) ∧ fM_letters_h4 m' t (cI (d : Int)) (s.2.1 4 5) = fM_letters_b65 t' (cI (d' : Int)) (s'.2.1 4 5) ∧ Ps4 p' s' t' ∧ t'.1 549 140 = 0 ∧ p' + d = p + d' ∧ d ≤ d' ∧ d' ≤ 10 ∧ fr [(4, 4, 3), (4, 4, 6)] s s' ∧ fr [(549, 549, 140)] t t'
  | 0, m, m', d, p, s, t, hd, hm, hm', hP, hf => by
    obtain ⟨m, rfl⟩ : ∃ k, m = k + 1 := ⟨m - 1, by omega⟩
    obtain ⟨m', rfl⟩ : ∃ k, m' = k + 1 := ⟨m' - 1, by omega⟩
    have e : d = 10 := by omega
    subst e
    refine ⟨p, 10, s, t, ?_, ?_, hP, hf, rfl, Nat.le_refl _, Nat.le_refl _, fr.rf, fr.rf⟩
    · rw [fTape_readsName_4_h7, if_neg (by decide)]
    · rw [fM_letters_h4, if_pos hf, if_neg (by decide)]
  | r + 1, m, m', d, p, s, t, hd, hm, hm', hP, hf => by
    obtain ⟨m, rfl⟩ : ∃ k, m = k + 1 := ⟨m - 1, by omega⟩
    obtain ⟨m', rfl⟩ : ∃ k, m' = k + 1 := ⟨m' - 1, by omega⟩
    have d6 : cI (d : Int) < cI 10 := by rw [lt_i, q_ti (by omega), show (cI 10).toInt = 10 from rfl]; omega
    have e65 : (cI 65).toInt = 65 := rfl
    have bA := by4 hP
    have lA := lk4 hP
    by_cases z : InR (tx4 s p) (cI 65) (cI 90)
    · obtain ⟨z1, z2⟩ := z
      have hp := tx4_lt rfl (show 0 ≤ (tx4 s p).toInt by omega)
      have fw := hP.fw hp
      obtain ⟨x, ex⟩ : ∃ x : Int64, x = (((s.2.1 4 5) * (cL 27)) + (Int32.toInt64 (tx4 s p)) - cL 65) + cL 1 := ⟨_, rfl⟩
      have P1 : Ps4 (p + 1) (wI (wL s 4 5 x) 4 2 (s.1 4 2 + cI 1)) (wI t 549 139 (t.1 549 139 + cI 1)) := ⟨wLk4 hP x, fw.2.1, fw.2.2.1, fw.2.2.2⟩
      have L1 : (wI (wL s 4 5 x) 4 2 (s.1 4 2 + cI 1)).2.1 4 5 = x := by
        show u2 s.2.1 4 5 x 4 5 = x
        simp [u2]
      obtain ⟨p', d', s', t', b1, b2, b3, b4, b7, b8, b9, b10, b11⟩ := ll4 r m m' (d + 1) (p + 1) _ _ (by omega) (by omega) (by omega) P1 (by rw [wI_c, up1_ne (by decide)]; exact hf)
      refine ⟨p', d', s', t', ?_, ?_, b3, b4, by omega, by omega, b9, ((fr.rf.wL rfl).wI rfl).tr b10, (fr.rf.wI rfl).tr b11⟩
      · rw [← b1, ← q_s (by omega), fTape_readsName_4_h7, if_pos d6, bA, bd1_some, if_neg (by rw [lt_i]; omega), bd1_some, if_pos (by rw [le_i]; omega), bd1_some, ltM_eq, ltM_eq, ex]
        rfl
      · rw [← b2, ← q_s (by omega), fM_letters_h4, if_pos hf, if_pos d6, lA, bd1_some, in_bI, bd1_some, ite_bI, if_pos ⟨z1, z2⟩, bd1_some, ltL_eq, ltM_eq, Int64.mul_comm, ← ex, L1]
    · refine ⟨p, d, s, t, ?_, ?_, hP, hf, rfl, Nat.le_refl _, by omega, fr.rf, fr.rf⟩
      · rw [fTape_readsName_4_h7, if_pos d6, bA, bd1_some]
        by_cases y : tx4 s p < cI 65
        · rw [if_pos y]
        · rw [if_neg y, bd1_some, if_neg (fun u => z ⟨by rw [lt_i] at y; omega, le_i.mp u⟩)]
      · rw [fM_letters_h4, if_pos hf, if_pos d6, lA, bd1_some, in_bI, bd1_some, ite_bI, if_neg z]
