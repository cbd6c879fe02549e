/-! ===== LEVEL 3: a number laid into a row; strays ===== -/
/-- a row's list with a gap at p -/
def Shf (f : Nat → Int32) (L : List Nat) (p : Nat) : Prop := ∀ q (h : q < L.length), f (if q < p then q else q + 1) = cI ((L[q] : Nat) : Int)
theorem Shf.top {f : Nat → Int32} {L : List Nat} (h : ∀ q (h : q < L.length), f q = cI ((L[q] : Nat) : Int)) : Shf f L L.length := fun q hq => by
  rw [if_pos hq]; exact h q hq
theorem Shf.step {f : Nat → Int32} {L : List Nat} {p : Nat} (h : Shf f L (p + 1)) (hp : p < L.length) : Shf (up1 f (p + 1) (f p)) L p := fun q hq => by
  have h1 := h q hq
  by_cases z : q = p
  · subst z
    rw [if_neg (by omega), up1_eq]
    rw [if_pos (by omega)] at h1
    exact h1
  · by_cases w : q < p
    · rw [if_pos w, up1_ne (by omega)]
      rw [if_pos (by omega)] at h1
      exact h1
    · rw [if_neg w, up1_ne (by omega)]
      rw [if_neg (by omega)] at h1
      exact h1
theorem Shf.at {f : Nat → Int32} {L : List Nat} {p : Nat} (h : Shf f L (p + 1)) (hp : p < L.length) : f p = cI ((L[p] : Nat) : Int) := by
  have := h p hp
  rw [if_pos (by omega)] at this
  exact this
/-- a list with x at the place p -/
def insP (L : List Nat) (p x : Nat) : List Nat := L.take p ++ x :: L.drop p
theorem insP_len {L : List Nat} {p x : Nat} : (insP L p x).length = L.length + 1 := by
  unfold insP
  rw [List.length_append, List.length_cons, List.length_take, List.length_drop]
  omega
theorem insP_mem {L : List Nat} {p x y : Nat} : y ∈ insP L p x ↔ y = x ∨ y ∈ L := by
  unfold insP
  have e := List.take_append_drop p L
  rw [List.mem_append, List.mem_cons]
  constructor
  · rintro (h | h | h)
    · exact Or.inr (List.mem_of_mem_take h)
    · exact Or.inl h
    · exact Or.inr (List.mem_of_mem_drop h)
  · rintro (h | h)
    · exact Or.inr (Or.inl h)
    · rw [← e, List.mem_append] at h
      rcases h with h | h
      · exact Or.inl h
      · exact Or.inr (Or.inr h)
theorem insP_nodup {L : List Nat} {p x : Nat} (h : L.Nodup) (hx : x ∉ L) : (insP L p x).Nodup := by
  unfold insP
  have e := List.take_append_drop p L
  rw [← e] at h
  obtain ⟨h1, h2, h3⟩ := List.nodup_append.mp h
  refine List.nodup_append.mpr ⟨h1, List.nodup_cons.mpr ⟨fun q => hx (List.mem_of_mem_drop q), h2⟩, fun a ha b hb => ?_⟩
  rcases List.mem_cons.mp hb with q | q
  · rw [q]; intro w; rw [w] at ha; exact hx (List.mem_of_mem_take ha)
  · exact h3 a ha b q
theorem insP_g {L : List Nat} {p x q : Nat} (hp : p ≤ L.length) : (insP L p x)[q]? = if q < p then L[q]? else if q = p then some x else L[q - 1]? := by
  unfold insP
  rw [List.getElem?_append, List.length_take, Nat.min_eq_left hp]
  by_cases z : q < p
  · rw [if_pos z, if_pos z, List.getElem?_take, if_pos z]
  · rw [if_neg z, if_neg z]
    by_cases w : q = p
    · rw [if_pos w, w, Nat.sub_self, List.getElem?_cons_zero]
    · rw [if_neg w, show q - p = (q - p - 1) + 1 by omega, List.getElem?_cons_succ, List.getElem?_drop]
      congr 1
      omega
theorem Shf.ins {f : Nat → Int32} {L : List Nat} {p x : Nat} (h : Shf f L p) (hp : p ≤ L.length) : ∀ q (hq : q < (insP L p x).length), up1 f p (cI (x : Int)) q = cI (((insP L p x)[q] : Nat) : Int) := fun q hq => by
  have g := List.getElem?_eq_getElem hq
  rw [insP_g hp] at g
  generalize (insP L p x)[q] = v at g ⊢
  rw [insP_len] at hq
  by_cases z : q < p
  · rw [if_pos z, List.getElem?_eq_getElem (by omega)] at g
    have := h q (by omega)
    rw [if_pos z, Option.some.inj g] at this
    rw [up1_ne (by omega)]
    exact this
  · rw [if_neg z] at g
    by_cases w : q = p
    · rw [if_pos w] at g
      rw [w, up1_eq, Option.some.inj g]
    · rw [if_neg w, List.getElem?_eq_getElem (by omega)] at g
      have := h (q - 1) (by omega)
      rw [if_neg (by omega), show q - 1 + 1 = q by omega, Option.some.inj g] at this
      rw [up1_ne w]
      exact this
theorem str_in {x : Nat} {L : List Nat} (hL : L.length < 300) (hx : x < 300) (hb : ∀ y, y ∈ L → y < 300) : ∀ (p n : Nat) (s : ev_M) (j : Int32), j.toInt = (p : Int) → p ≤ L.length → p < n → Shf (s.1 173) L p → (∀ q (h : q < L.length), p ≤ q → x < L[q]) → ∃ p' s', p' ≤ L.length ∧ fRounds_addStray_h12 n s (cI (x : Int)) j = some s' ∧ (∀ q (h : q < (insP L p' x).length), s'.1 173 q = cI (((insP L p' x)[q] : Nat) : Int)) ∧ (∀ q (h : q < L.length), p' ≤ q → x < L[q]) ∧ (∀ (h : 0 < p') (h2 : p' - 1 < L.length), L[p' - 1] ≤ x) ∧ fr [(173, 173, 0)] s s'
  | 0, n, s, j, hj, hp, hn, hs, hg => by
    obtain ⟨n, rfl⟩ : ∃ k, n = k + 1 := ⟨n - 1, by omega⟩
    have j0 : j ≤ 0 := by rw [le_i, i32_0]; omega
    have i0 : inb j 300 = true := inb_iff.mpr ⟨by omega, by omega⟩
    have ej : ix j = 0 := by rw [ix_toNat]; omega
    refine ⟨0, wI s 173 0 (cI (x : Int)), Nat.zero_le _, ?_, ?_, hg, fun h => absurd h (Nat.lt_irrefl _), fr.rf.wI rfl⟩
    · rw [fRounds_addStray_h12, if_pos j0, fRounds_addStray_b48, if_pos i0, ltM_eq, ej]
    · rw [wI_c]; exact hs.ins hp
  | p + 1, n, s, j, hj, hp, hn, hs, hg => by
    obtain ⟨n, rfl⟩ : ∃ k, n = k + 1 := ⟨n - 1, by omega⟩
    have j0 : ¬ j ≤ 0 := by rw [le_i, i32_0]; omega
    have i0 : inb j 300 = true := inb_iff.mpr ⟨by omega, by omega⟩
    have ej : ix j = p + 1 := by rw [ix_toNat]; omega
    have j1 : (j - cI 1).toInt = (p : Int) := by rw [sub_toInt (by rw [show (cI 1).toInt = 1 from rfl]; omega) (by rw [show (cI 1).toInt = 1 from rfl]; omega), show (cI 1).toInt = 1 from rfl]; omega
    have jm : (j + cI (-1)).toInt = (p : Int) := by rw [add_toInt (by rw [show (cI (-1)).toInt = -1 from rfl]; omega) (by rw [show (cI (-1)).toInt = -1 from rfl]; omega), show (cI (-1)).toInt = -1 from rfl]; omega
    have e1 : ix (j - cI 1) = p := by rw [ix_toNat, j1]; omega
    have i1 : inb (j - cI 1) 300 = true := inb_iff.mpr ⟨by omega, by omega⟩
    have pl : p < L.length := by omega
    have hv := hs.at pl
    have hb1 := hb _ (List.getElem_mem pl)
    by_cases z : L[p] ≤ x
    · have z2 : s.1 173 p ≤ cI (x : Int) := by rw [hv, le_i, cI_toInt (by omega) (by omega), cI_toInt (by omega) (by omega)]; omega
      refine ⟨p + 1, wI s 173 (p + 1) (cI (x : Int)), hp, ?_, ?_, hg, fun _ _ => z, fr.rf.wI rfl⟩
      · rw [fRounds_addStray_h12, if_neg j0, if_pos i1, e1, if_pos z2, fRounds_addStray_b48, if_pos i0, ltM_eq, ej]
      · rw [wI_c]; exact hs.ins hp
    · have z2 : ¬ s.1 173 p ≤ cI (x : Int) := by rw [hv, le_i, cI_toInt (by omega) (by omega), cI_toInt (by omega) (by omega)]; omega
      obtain ⟨p', s', q1, q2, q3, q4, q5, q6⟩ := str_in hL hx hb p n (wI s 173 (p + 1) (s.1 173 p)) (j + cI (-1)) jm (by omega) (by omega) (by rw [wI_c]; exact hs.step pl) (fun q h hq => by
        by_cases w : q = p
        · subst w; omega
        · exact hg q h (by omega))
      refine ⟨p', s', q1, ?_, q3, q4, q5, (fr.rf.wI rfl).tr q6⟩
      rw [fRounds_addStray_h12, if_neg j0, if_pos i1, e1, if_neg z2, if_pos i1, if_pos i0, ltM_eq, ej]
      exact q2
/-- a stray more -/
theorem str_add {x : Nat} {L : List Nat} {s : ev_M} (hL : L.length < 300) (hx : x < 300) (hb : ∀ y, y ∈ L → y < 300) (hp : L.Pairwise (· < ·)) (hn : x ∉ L) (h : Hol (s.1 173) (s.1 138 10) L) : ∃ L' s', fRounds_addStray s (cI (x : Int)) = some s' ∧ Hol (s'.1 173) (s'.1 138 10) L' ∧ L'.Pairwise (· < ·) ∧ (∀ y, y ∈ L' ↔ y = x ∨ y ∈ L) ∧ fr [(173, 173, 0), (138, 138, 11)] s s' := by
  obtain ⟨h1, h2⟩ := h
  have xi : (s.1 138 10 + cI 1).toInt = (s.1 138 10).toInt + 1 := inc_i (by omega)
  have w1 : fr [(138, 138, 11)] s (wI s 138 10 (s.1 138 10 + cI 1)) := fr.rf.wI rfl
  have w173 : (wI s 138 10 (s.1 138 10 + cI 1)).1 173 = s.1 173 := wI_ne (by decide)
  obtain ⟨p', s', q1, q2, q3, q4, q5, q6⟩ := str_in hL hx hb L.length 1048576 (wI s 138 10 (s.1 138 10 + cI 1)) (s.1 138 10) h1 (Nat.le_refl _) (by omega) (by rw [w173]; exact Shf.top h2) (fun q h hq => absurd h (by omega))
  have pg := List.pairwise_iff_getElem.mp hp
  refine ⟨insP L p' x, s', ?_, ⟨?_, q3⟩, ?_, fun y => insP_mem, (w1.mono (by decide +kernel)).tr (q6.mono (by decide +kernel))⟩
  · unfold fRounds_addStray
    rw [ltM_eq, ltI_eq]
    exact q2
  · rw [(q6.1 138 10 rfl).1, wI_c, up1_eq, xi, insP_len, h1]; omega
  · unfold insP
    have e := List.take_append_drop p' L
    rw [← e] at hp
    obtain ⟨a1, a2, a3⟩ := List.pairwise_append.mp hp
    refine List.pairwise_append.mpr ⟨a1, List.pairwise_cons.mpr ⟨fun y hy => ?_, a2⟩, fun y hy z hz => ?_⟩
    · obtain ⟨q, hq, e2⟩ := List.mem_iff_getElem.mp hy
      rw [List.getElem_drop] at e2
      rw [← e2]
      rw [List.length_drop] at hq
      exact q4 _ (by omega) (by omega)
    · rcases List.mem_cons.mp hz with w | w
      · rw [w]
        obtain ⟨q, hq, e2⟩ := List.mem_iff_getElem.mp hy
        rw [List.getElem_take] at e2
        rw [List.length_take] at hq
        have q5' := q5 (by omega) (by omega)
        have ne : y ≠ x := fun u => hn (by rw [← u, ← e2]; exact List.getElem_mem _)
        by_cases v : q = p' - 1
        · subst v; rw [e2] at q5'; omega
        · have := pg q (p' - 1) (by omega) (by omega) (by omega)
          rw [e2] at this
          omega
      · exact a3 y hy z w
