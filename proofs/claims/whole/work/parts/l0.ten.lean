/-! ===== LEVEL 3: an entry of the tariff ===== -/
theorem six_M : ∀ n : Nat, n < 91 → 65 ≤ n → fSix 1011 (i2c (cI (n : Int))) = some (if n = 75 then cI 0 else if n = 86 then cI 7 else cI (-1)) := by decide +kernel
theorem RfS.num {cs : List Nat} {t t' : ev_M} {l : List Int32} {n : Int64} (h : RfS (35 :: cs) t t' l n) : ∃ (t1 : ev_M) (v : Int32) (l' : List Int32), fM_digits t = some (t1, v) ∧ l = v :: l' ∧ RfS cs t1 t' l' n := by
  unfold RfS at h
  rw [if_pos rfl] at h
  exact h
theorem RfS.nam {cs : List Nat} {t t' : ev_M} {l : List Int32} {n : Int64} (h : RfS (64 :: cs) t t' l n) : ∃ t1 : ev_M, fM_letters t = some (t1, n) ∧ RfS cs t1 t' l n := by
  unfold RfS at h
  rw [if_neg (by decide), if_pos rfl] at h
  exact h
theorem RfS.sig {c : Nat} {cs : List Nat} {t t' : ev_M} {l : List Int32} {n : Int64} (h1 : c ≠ 35) (h2 : c ≠ 64) (h : RfS (c :: cs) t t' l n) : ∃ t1 : ev_M, fM_eat t (cI (c : Int)) = some t1 ∧ RfS cs t1 t' l n := by
  unfold RfS at h
  rw [if_neg h1, if_neg h2] at h
  exact h
theorem nat_of {x : Int32} (h1 : 65 ≤ x.toInt) (h2 : x.toInt ≤ 90) : ∃ n : Nat, n < 91 ∧ 65 ≤ n ∧ x = cI (n : Int) := ⟨ix x, by rw [ix_toNat]; omega, by rw [ix_toNat]; omega, (cI_ix (by omega)).symm⟩
theorem rowF {t : ev_M} {x : Int32} (h : fM_look t = some x) (h1 : ¬ x = cI 75) (h2 : ¬ x = cI 86) : fM_rowOfTariff t = some (wI t 549 140 (cI 1), cI 0) := by
  have e : (wI t 549 140 (cI 1)).1 549 140 = cI 1 := by rw [wI_c, up1_eq]
  unfold fM_rowOfTariff
  rw [h, bd1_some, if_neg h1, if_neg h2]
  unfold fM_rowOfTariff_b23
  rw [if_pos (by decide), ltM_eq, if_neg (by rw [e]; decide)]
  unfold fM_rowOfTariff_b47
  rw [ltM_eq, wI_self rfl, digF e, bd2_some, if_neg h1]
  unfold fM_rowOfTariff_b69
  rw [eatF e, bd1_some, digF e, bd2_some, eatF e, bd1_some, if_neg (by rw [e]; decide)]
/-- the reference, when the letter is read -/
def afL (t : ev_M) : ev_M := wI (wI t 549 140 (cI 0)) 549 139 (t.1 549 139 + cI 1)
theorem rowK {t t' : ev_M} {l : List Int32} {n : Int64} (h : fM_look t = some (cI 75)) (hR : RfS [35, 44, 35, 61, 35, 59] (afL t) t' l n) : ∃ a b c, l = [a, b, c] ∧ fM_rowOfTariff t = if t'.1 549 140 = 0 then RTL t' (cI 75) a b c else some (t', cI 0) := by
  obtain ⟨t1, a, l1, d1, e1, hR⟩ := hR.num
  obtain ⟨t2, d2, hR⟩ := hR.sig (by decide) (by decide)
  obtain ⟨t3, b, l3, d3, e3, hR⟩ := hR.num
  obtain ⟨t4, d4, hR⟩ := hR.sig (by decide) (by decide)
  obtain ⟨t5, c, l5, d5, e5, hR⟩ := hR.num
  obtain ⟨t6, d6, hR⟩ := hR.sig (by decide) (by decide)
  obtain ⟨hZ, e6⟩ := hR
  subst e6 e5 e3 e1
  refine ⟨a, b, c, rfl, ?_⟩
  subst hZ
  have e0 : (wI t 549 140 (cI 0)).1 549 140 = 0 := by rw [wI_c, up1_eq]; rfl
  have e9 : (wI t 549 140 (cI 0)).1 549 139 = t.1 549 139 := by rw [wI_c, up1_ne (by decide)]
  unfold fM_rowOfTariff
  rw [h, bd1_some, if_pos rfl]
  unfold fM_rowOfTariff_b22 fM_rowOfTariff_b23
  rw [if_pos (by decide), ltM_eq, if_pos e0, e9]
  unfold fM_rowOfTariff_b47
  rw [ltM_eq]
  unfold afL at d1
  rw [d1, bd2_some, if_pos rfl]
  unfold fM_comma
  have d2' : fM_eat t1 (cI 44) = some t2 := d2
  have d4' : fM_eat t3 (cI 61) = some t4 := d4
  have d6' : fM_eat t5 (cI 59) = some t' := d6
  rw [d2', bd1_some, d3, bd2_some, bd2_some]
  unfold fM_rowOfTariff_b69 RTL
  rw [d4', bd1_some, d5, bd2_some, d6', bd1_some]
theorem rowV {t t' : ev_M} {l : List Int32} {n : Int64} (h : fM_look t = some (cI 86)) (hR : RfS [35, 61, 35, 59] (afL t) t' l n) : ∃ a c, l = [a, c] ∧ fM_rowOfTariff t = if t'.1 549 140 = 0 then RTL t' (cI 86) a (cI 0) c else some (t', cI 0) := by
  obtain ⟨t1, a, l1, d1, e1, hR⟩ := hR.num
  obtain ⟨t4, d4, hR⟩ := hR.sig (by decide) (by decide)
  obtain ⟨t5, c, l5, d5, e5, hR⟩ := hR.num
  obtain ⟨t6, d6, hR⟩ := hR.sig (by decide) (by decide)
  obtain ⟨hZ, e6⟩ := hR
  subst e6 e5 e1
  refine ⟨a, c, rfl, ?_⟩
  subst hZ
  have e0 : (wI t 549 140 (cI 0)).1 549 140 = 0 := by rw [wI_c, up1_eq]; rfl
  have e9 : (wI t 549 140 (cI 0)).1 549 139 = t.1 549 139 := by rw [wI_c, up1_ne (by decide)]
  have n867 : ¬ cI 86 = cI 75 := by decide
  unfold fM_rowOfTariff
  rw [h, bd1_some, if_neg n867, if_pos rfl]
  unfold fM_rowOfTariff_b22 fM_rowOfTariff_b23
  rw [if_pos (by decide), ltM_eq, if_pos e0, e9]
  unfold fM_rowOfTariff_b47
  rw [ltM_eq]
  unfold afL at d1
  rw [d1, bd2_some, if_neg n867]
  have d4' : fM_eat t1 (cI 61) = some t4 := d4
  have d6' : fM_eat t5 (cI 59) = some t' := d6
  unfold fM_rowOfTariff_b69 RTL
  rw [d4', bd1_some, d5, bd2_some, d6', bd1_some]
/-- the class, when the letter is read -/
def bfL1 (s : ev_M) : ev_M := wI (wI s 1 4 (cI 0)) 1 2 (s.1 1 2 + cI 1)
theorem Ps1.lt {p : Nat} {s t : ev_M} (h : Ps1 p s t) (hp : p < ix (s.1 1 1)) : Ps1 (p + 1) (bfL1 s) (afL t) ∧ (afL t).1 549 140 = 0 ∧ (bfL1 s).1 1 4 = cI ((0 : Nat) : Int) ∧ fr FrdC1 s (bfL1 s) ∧ fr FrdM t (afL t) := by
  have fw := h.fw hp
  have f1 : fr FrdC1 s (bfL1 s) := (fr.rf.wI rfl).wI rfl
  have f2 : fr FrdM t (afL t) := (fr.rf.wI rfl).wI rfl
  refine ⟨⟨h.1.kp f1 f2, ?_, ?_, ?_⟩, ?_, ?_, f1, f2⟩
  · have w := fw.2.1
    rw [wI_c, up1_eq] at w
    unfold bfL1
    rw [wI_c, up1_eq]; exact w
  · have w := fw.2.2.1
    rw [wI_c, up1_eq] at w
    unfold afL
    rw [wI_c, up1_eq]; exact w
  · rw [(f1.1 1 1 rfl).1]; exact hp
  · unfold afL
    rw [wI_c, up1_ne (by decide), wI_c, up1_eq]; rfl
  · unfold bfL1
    rw [wI_c, up1_ne (by decide), wI_c, up1_eq]; rfl
theorem le1 {p : Nat} {s t : ev_M} (h : Ps1 p s t) : (¬ tx1 s p = cI 75 → ¬ tx1 s p = cI 86 → fTape_readsEntry_1_1011 s = some (wI s 1 4 (cI 0), cI (-1))) ∧ (tx1 s p = cI 75 → fTape_readsEntry_1_1011 s = fTape_readsEntry_1_1011_h56 1048576 (bfL1 s) (cI 75) (cI ((1 : Nat) : Int))) ∧ (tx1 s p = cI 86 → fTape_readsEntry_1_1011 s = fTape_readsEntry_1_1011_h56 1048576 (bfL1 s) (cI 86) (cI ((8 : Nat) : Int))) := by
  have e2 : (wI s 1 4 (cI 0)).1 1 2 = s.1 1 2 := by rw [wI_c, up1_ne (by decide)]
  have h6 : Ps1 p (wI s 1 4 (cI 0)) t := ⟨h.1.kp (fr.rf.wI rfl) fr.rf, by rw [e2]; exact h.2.1, h.2.2.1, by rw [wI_c, up1_ne (by decide)]; exact h.2.2.2⟩
  have bA := by1 h6
  have e6 : tx1 (wI s 1 4 (cI 0)) p = tx1 s p := tx1_kp (fr.rf.wI rfl)
  rw [e6] at bA
  have e65 : (cI 65).toInt = 65 := rfl
  have e90 : (cI 90).toInt = 90 := rfl
  refine ⟨fun z1 z2 => ?_, fun z => ?_, fun z => ?_⟩
  · unfold fTape_readsEntry_1_1011
    rw [ltM_eq, bA, bd1_some]
    have k35 : ∀ x, fTape_readsEntry_1_1011_b36 (wI s 1 4 (cI 0)) x (cI (-1)) = some (wI s 1 4 (cI 0), cI (-1)) := fun x => by
      unfold fTape_readsEntry_1_1011_b36
      rw [if_pos (show cI (-1) < 0 by decide)]
    unfold fTape_readsEntry_1_1011_b35
    by_cases y1 : tx1 s p < cI 65
    · rw [if_pos y1]; exact k35 _
    · rw [if_neg y1]
      by_cases y2 : tx1 s p ≤ cI 90
      · rw [lt_i] at y1
        obtain ⟨n, n1, n2, n3⟩ := nat_of (x := tx1 s p) (by omega) (by rw [le_i] at y2; omega)
        have six := six_M n n1 n2
        rw [if_neg (fun u => z1 (by rw [n3, u]; rfl)), if_neg (fun u => z2 (by rw [n3, u]; rfl)), ← n3] at six
        rw [if_pos y2, six, bd1_some]; exact k35 _
      · rw [if_neg y2]; exact k35 _
  · have six : fSix 1011 (i2c (cI 75)) = some (cI 0) := six_M 75 (by decide) (by decide)
    unfold fTape_readsEntry_1_1011
    rw [ltM_eq, bA, bd1_some, z, if_neg (by decide), if_pos (by decide), six, bd1_some]
    unfold fTape_readsEntry_1_1011_b36
    rw [if_neg (by decide), ltM_eq, e2]
    rfl
  · have six : fSix 1011 (i2c (cI 86)) = some (cI 7) := six_M 86 (by decide) (by decide)
    unfold fTape_readsEntry_1_1011
    rw [ltM_eq, bA, bd1_some, z, if_neg (by decide), if_pos (by decide), six, bd1_some]
    unfold fTape_readsEntry_1_1011_b36
    rw [if_neg (by decide), ltM_eq, e2]
    rfl
theorem it1 {p : Nat} {s t : ev_M} (h : Ps1 p s t) (hN : NwT s t) : ∃ (s' t' : ev_M) (f : Int32), (∀ k14 x3, fMoney_readTariff_1_b37 k14 s (cI (-1)) x3 = k14 s' f (x3 + cI 1)) ∧ (∀ k66 x1, fM_doTariff_b89 k66 t x1 = k66 t' x1 f) ∧ ((f = cI (-1) ∧ 0 < ix (s'.1 78 13) ∧ ∃ p', p < p' ∧ Ps1 p' s' t') ∨ (0 ≤ f.toInt ∧ f.toInt ≤ 4096)) ∧ NwT s' t' ∧ fr (FrdC1 ++ FnwC) s s' ∧ fr (FrdM ++ FnwM) t t' := by
  have lA := lk1 h
  have pl := h.le
  obtain ⟨q1, q2, q3⟩ := le1 h
  have n10 : ¬ (cI 1 : Int32) = 0 := by decide
  -- when the entry can't be read
  have nope : ∀ {s1 t1 : ev_M} {p1 : Nat}, fTape_readsEntry_1_1011 s = some (s1, cI (-1)) → fM_rowOfTariff t = some (t1, cI 0) → t1.1 549 140 = cI 1 → Ps1 p1 s1 t1 → fr FrdC1 s s1 → fr FrdM t t1 → ∃ (s' t' : ev_M) (f : Int32), (∀ k14 x3, fMoney_readTariff_1_b37 k14 s (cI (-1)) x3 = k14 s' f (x3 + cI 1)) ∧ (∀ k66 x1, fM_doTariff_b89 k66 t x1 = k66 t' x1 f) ∧ ((f = cI (-1) ∧ 0 < ix (s'.1 78 13) ∧ ∃ p', p < p' ∧ Ps1 p' s' t') ∨ (0 ≤ f.toInt ∧ f.toInt ≤ 4096)) ∧ NwT s' t' ∧ fr (FrdC1 ++ FnwC) s s' ∧ fr (FrdM ++ FnwM) t t' := by
    intro s1 t1 p1 a1 a2 a3 a4 a5 a6
    have pl1 := a4.le
    refine ⟨s1, t1, cI (p1 : Int), fun k14 x3 => ?_, fun k66 x1 => ?_, Or.inr ⟨by rw [q_ti (by omega)]; omega, by rw [q_ti (by omega)]; omega⟩, ?_, a5.mono (by decide +kernel), a6.mono (by decide +kernel)⟩
    · unfold fMoney_readTariff_1_b37 fMoney_readTariff_1_b78
      rw [ltI_eq, a1, bd2_some, if_pos rfl, ltI_eq, a4.2.1]
    · unfold fM_doTariff_b89 fM_doTariff_b124
      rw [ltI_eq, a2, bd2_some, if_pos (show cI 0 = 0 from rfl), if_neg (by rw [a3]; decide), a4.2.2.1]
    · unfold NwT at hN ⊢
      rw [(a5.1 78 13 (by decide +kernel)).1, (a6.1 549 125 (by decide +kernel)).1, show s1.1 97 = s.1 97 from funext fun k => (a5.1 97 k rfl).1, show s1.1 98 = s.1 98 from funext fun k => (a5.1 98 k rfl).1, show s1.1 99 = s.1 99 from funext fun k => (a5.1 99 k rfl).1, show t1.1 637 = t.1 637 from funext fun k => (a6.1 637 k rfl).1, show t1.1 638 = t.1 638 from funext fun k => (a6.1 638 k rfl).1, show t1.1 639 = t.1 639 from funext fun k => (a6.1 639 k rfl).1]
      exact hN
  -- when it is read and judged
  have judge : ∀ {s1 t1 s2 t2 : ev_M} {p1 : Nat} {x v : Int32}, fTape_readsEntry_1_1011 s = some (s1, x) → ¬ x = cI (-1) → fMoney_adds_1 s1 x = some (s2, v) → fM_rowOfTariff t = some (t2, v) → t1.1 549 140 = 0 → (v = cI 0 ∨ (v = cI 1 ∧ 0 < ix (s2.1 78 13))) → NwT s2 t2 → Ps1 p1 s1 t1 → p < p1 → fr FrdC1 s s1 → fr FrdM t t1 → fr FnwC s1 s2 → fr FnwM t1 t2 → ∃ (s' t' : ev_M) (f : Int32), (∀ k14 x3, fMoney_readTariff_1_b37 k14 s (cI (-1)) x3 = k14 s' f (x3 + cI 1)) ∧ (∀ k66 x1, fM_doTariff_b89 k66 t x1 = k66 t' x1 f) ∧ ((f = cI (-1) ∧ 0 < ix (s'.1 78 13) ∧ ∃ p', p < p' ∧ Ps1 p' s' t') ∨ (0 ≤ f.toInt ∧ f.toInt ≤ 4096)) ∧ NwT s' t' ∧ fr (FrdC1 ++ FnwC) s s' ∧ fr (FrdM ++ FnwM) t t' := by
    intro s1 t1 s2 t2 p1 x v a1 a2 a3 a4 a5 a6 a7 a8 a9 b1 b2 b3 b4
    have fC : fr (FrdC1 ++ FnwC) s s2 := (b1.mono (by decide +kernel)).tr (b3.mono (by decide +kernel))
    have fM : fr (FrdM ++ FnwM) t t2 := (b2.mono (by decide +kernel)).tr (b4.mono (by decide +kernel))
    have e140 : t2.1 549 140 = 0 := by rw [(b4.1 549 140 (by decide +kernel)).1]; exact a5
    rcases a6 with a6 | ⟨a6, a10⟩
    · refine ⟨s2, t2, cI (p : Int), fun k14 x3 => ?_, fun k66 x1 => ?_, Or.inr ⟨by rw [q_ti (by omega)]; omega, by rw [q_ti (by omega)]; omega⟩, a7, fC, fM⟩
      · unfold fMoney_readTariff_1_b37 fMoney_readTariff_1_b78
        rw [ltI_eq, a1, bd2_some, if_neg a2, a3, bd2_some, if_pos (show v = 0 by rw [a6]; rfl), h.2.1]
      · unfold fM_doTariff_b89 fM_doTariff_b124
        rw [ltI_eq, a4, bd2_some, if_pos (show v = 0 by rw [a6]; rfl), if_pos e140, h.2.2.1]
    · refine ⟨s2, t2, cI (-1), fun k14 x3 => ?_, fun k66 x1 => ?_, Or.inl ⟨rfl, a10, p1, a9, ?_⟩, a7, fC, fM⟩
      · unfold fMoney_readTariff_1_b37 fMoney_readTariff_1_b78
        rw [ltI_eq, a1, bd2_some, if_neg a2, a3, bd2_some, if_neg (show ¬ v = 0 by rw [a6]; decide)]
      · unfold fM_doTariff_b89 fM_doTariff_b124
        rw [ltI_eq, a4, bd2_some, if_neg (show ¬ v = 0 by rw [a6]; decide)]
      · obtain ⟨⟨r1, r2, r3, r4⟩, r5, r6, r7⟩ := a8
        refine ⟨⟨?_, ?_, ?_, fun k hk => ?_⟩, ?_, ?_, ?_⟩
        · rw [(b3.1 1 1 rfl).1, (b4.1 549 13 (by decide +kernel)).1]; exact r1
        · rw [(b3.1 1 1 rfl).1]; exact r2
        · rw [(b3.1 1 1 rfl).1]; exact r3
        · rw [(b3.1 1 1 rfl).1] at hk
          rw [(b4.1 554 k rfl).1, (b3.1 2 k rfl).1]; exact r4 k hk
        · rw [(b3.1 1 2 rfl).1]; exact r5
        · rw [(b4.1 549 139 (by decide +kernel)).1]; exact r6
        · rw [(b3.1 1 1 rfl).1]; exact r7
  have nw : ∀ {s1 t1 : ev_M}, fr FrdC1 s s1 → fr FrdM t t1 → NwT s1 t1 := by
    intro s1 t1 a5 a6
    unfold NwT at hN ⊢
    rw [(a5.1 78 13 (by decide +kernel)).1, (a6.1 549 125 (by decide +kernel)).1, show s1.1 97 = s.1 97 from funext fun k => (a5.1 97 k rfl).1, show s1.1 98 = s.1 98 from funext fun k => (a5.1 98 k rfl).1, show s1.1 99 = s.1 99 from funext fun k => (a5.1 99 k rfl).1, show t1.1 637 = t.1 637 from funext fun k => (a6.1 637 k rfl).1, show t1.1 638 = t.1 638 from funext fun k => (a6.1 638 k rfl).1, show t1.1 639 = t.1 639 from funext fun k => (a6.1 639 k rfl).1]
    exact hN
  by_cases z1 : tx1 s p = cI 75
  · have hp := tx1_lt z1 (by decide)
    obtain ⟨P1, f1, n1, fr1, gr1⟩ := h.lt hp
    rw [z1] at lA
    obtain ⟨s', t', p', l, n, a1, a2, a3, a4, a5, a6⟩ := sq1_1011 (x2 := cI 75) [35, 44, 35, 61, 35, 59] 1 0 (p + 1) 1048576 (bfL1 s) (afL t) (by unfold Shp; decide) (by decide) (by decide) (by decide) (by decide) P1 f1 n1
    obtain ⟨a, b, c, e1, e2⟩ := rowK lA a1
    rcases a6 with ⟨b1, b2⟩ | ⟨b1, b2, b3, b4, b5, -, -⟩
    · exact nope ((q2 z1).trans b2) (by rw [e2, if_neg (by rw [b1]; decide)]) b1 a3 (fr1.tr a4) (gr1.tr a5)
    · subst e1
      have c0 := (b5 0 (show 0 < 3 by decide)).1
      have c1 := (b5 1 (show 1 < 3 by decide)).1
      have c2 := (b5 2 (show 2 < 3 by decide)).1
      obtain ⟨s2, t2, v, d1, d2, d3, d4, d5, d6⟩ := adK1 (a := a) (b := b) (c := c) (nw (fr1.tr a4) (gr1.tr a5)) c0 c1 c2
      exact judge ((q2 z1).trans b3) (by decide) d1 (by rw [e2, if_pos b1]; exact d2) b1 d3 d4 a3 (by omega) (fr1.tr a4) (gr1.tr a5) d5 d6
  · by_cases z2 : tx1 s p = cI 86
    · have hp := tx1_lt z2 (by decide)
      obtain ⟨P1, f1, n1, fr1, gr1⟩ := h.lt hp
      rw [z2] at lA
      obtain ⟨s', t', p', l, n, a1, a2, a3, a4, a5, a6⟩ := sq1_1011 (x2 := cI 86) [35, 61, 35, 59] 8 0 (p + 1) 1048576 (bfL1 s) (afL t) (by unfold Shp; decide) (by decide) (by decide) (by decide) (by decide) P1 f1 n1
      obtain ⟨a, c, e1, e2⟩ := rowV lA a1
      rcases a6 with ⟨b1, b2⟩ | ⟨b1, b2, b3, b4, b5, -, -⟩
      · exact nope ((q3 z2).trans b2) (by rw [e2, if_neg (by rw [b1]; decide)]) b1 a3 (fr1.tr a4) (gr1.tr a5)
      · subst e1
        have c0 := (b5 0 (show 0 < 2 by decide)).1
        have c1 := (b5 1 (show 1 < 2 by decide)).1
        obtain ⟨s2, t2, v, d1, d2, d3, d4, d5, d6⟩ := adV1 (a := a) (b := cI 0) (c := c) (nw (fr1.tr a4) (gr1.tr a5)) c0 c1
        exact judge ((q3 z2).trans b3) (by decide) d1 (by rw [e2, if_pos b1]; exact d2) b1 d3 d4 a3 (by omega) (fr1.tr a4) (gr1.tr a5) d5 d6
    · have f1 : fr FrdC1 s (wI s 1 4 (cI 0)) := fr.rf.wI rfl
      have f2 : fr FrdM t (wI t 549 140 (cI 1)) := fr.rf.wI rfl
      exact nope (p1 := p) (q1 z1 z2) (rowF lA z1 z2) (by rw [wI_c, up1_eq]) ⟨h.1.kp f1 f2, by rw [wI_c, up1_ne (by decide)]; exact h.2.1, by rw [wI_c, up1_ne (by decide)]; exact h.2.2.1, by rw [wI_c, up1_ne (by decide)]; exact h.2.2.2⟩ f1 f2
/-- the class, when the letter is read -/
def bfL4 (s : ev_M) : ev_M := wI (wI s 4 4 (cI 0)) 4 2 (s.1 4 2 + cI 1)
theorem Ps4.lt {p : Nat} {s t : ev_M} (h : Ps4 p s t) (hp : p < ix (s.1 4 1)) : Ps4 (p + 1) (bfL4 s) (afL t) ∧ (afL t).1 549 140 = 0 ∧ (bfL4 s).1 4 4 = cI ((0 : Nat) : Int) ∧ fr FrdC4 s (bfL4 s) ∧ fr FrdM t (afL t) := by
  have fw := h.fw hp
  have f1 : fr FrdC4 s (bfL4 s) := (fr.rf.wI rfl).wI rfl
  have f2 : fr FrdM t (afL t) := (fr.rf.wI rfl).wI rfl
  refine ⟨⟨h.1.kp f1 f2, ?_, ?_, ?_⟩, ?_, ?_, f1, f2⟩
  · have w := fw.2.1
    rw [wI_c, up1_eq] at w
    unfold bfL4
    rw [wI_c, up1_eq]; exact w
  · have w := fw.2.2.1
    rw [wI_c, up1_eq] at w
    unfold afL
    rw [wI_c, up1_eq]; exact w
  · rw [(f1.1 4 1 rfl).1]; exact hp
  · unfold afL
    rw [wI_c, up1_ne (by decide), wI_c, up1_eq]; rfl
  · unfold bfL4
    rw [wI_c, up1_ne (by decide), wI_c, up1_eq]; rfl
theorem le4 {p : Nat} {s t : ev_M} (h : Ps4 p s t) : (¬ tx4 s p = cI 75 → ¬ tx4 s p = cI 86 → fTape_readsEntry_4_1011 s = some (wI s 4 4 (cI 0), cI (-1))) ∧ (tx4 s p = cI 75 → fTape_readsEntry_4_1011 s = fTape_readsEntry_4_1011_h56 1048576 (bfL4 s) (cI 75) (cI ((1 : Nat) : Int))) ∧ (tx4 s p = cI 86 → fTape_readsEntry_4_1011 s = fTape_readsEntry_4_1011_h56 1048576 (bfL4 s) (cI 86) (cI ((8 : Nat) : Int))) := by
  have e2 : (wI s 4 4 (cI 0)).1 4 2 = s.1 4 2 := by rw [wI_c, up1_ne (by decide)]
  have h6 : Ps4 p (wI s 4 4 (cI 0)) t := ⟨h.1.kp (fr.rf.wI rfl) fr.rf, by rw [e2]; exact h.2.1, h.2.2.1, by rw [wI_c, up1_ne (by decide)]; exact h.2.2.2⟩
  have bA := by4 h6
  have e6 : tx4 (wI s 4 4 (cI 0)) p = tx4 s p := tx4_kp (fr.rf.wI rfl)
  rw [e6] at bA
  have e65 : (cI 65).toInt = 65 := rfl
  have e90 : (cI 90).toInt = 90 := rfl
  refine ⟨fun z1 z2 => ?_, fun z => ?_, fun z => ?_⟩
  · unfold fTape_readsEntry_4_1011
    rw [ltM_eq, bA, bd1_some]
    have k35 : ∀ x, fTape_readsEntry_4_1011_b36 (wI s 4 4 (cI 0)) x (cI (-1)) = some (wI s 4 4 (cI 0), cI (-1)) := fun x => by
      unfold fTape_readsEntry_4_1011_b36
      rw [if_pos (show cI (-1) < 0 by decide)]
    unfold fTape_readsEntry_4_1011_b35
    by_cases y1 : tx4 s p < cI 65
    · rw [if_pos y1]; exact k35 _
    · rw [if_neg y1]
      by_cases y2 : tx4 s p ≤ cI 90
      · rw [lt_i] at y1
        obtain ⟨n, n1, n2, n3⟩ := nat_of (x := tx4 s p) (by omega) (by rw [le_i] at y2; omega)
        have six := six_M n n1 n2
        rw [if_neg (fun u => z1 (by rw [n3, u]; rfl)), if_neg (fun u => z2 (by rw [n3, u]; rfl)), ← n3] at six
        rw [if_pos y2, six, bd1_some]; exact k35 _
      · rw [if_neg y2]; exact k35 _
  · have six : fSix 1011 (i2c (cI 75)) = some (cI 0) := six_M 75 (by decide) (by decide)
    unfold fTape_readsEntry_4_1011
    rw [ltM_eq, bA, bd1_some, z, if_neg (by decide), if_pos (by decide), six, bd1_some]
    unfold fTape_readsEntry_4_1011_b36
    rw [if_neg (by decide), ltM_eq, e2]
    rfl
  · have six : fSix 1011 (i2c (cI 86)) = some (cI 7) := six_M 86 (by decide) (by decide)
    unfold fTape_readsEntry_4_1011
    rw [ltM_eq, bA, bd1_some, z, if_neg (by decide), if_pos (by decide), six, bd1_some]
    unfold fTape_readsEntry_4_1011_b36
    rw [if_neg (by decide), ltM_eq, e2]
    rfl
theorem it4 {p : Nat} {s t : ev_M} (h : Ps4 p s t) (hN : NwT s t) : ∃ (s' t' : ev_M) (f : Int32), (∀ k14 x3, fMoney_readTariff_4_b37 k14 s (cI (-1)) x3 = k14 s' f (x3 + cI 1)) ∧ (∀ k66 x1, fM_doTariff_b89 k66 t x1 = k66 t' x1 f) ∧ ((f = cI (-1) ∧ 0 < ix (s'.1 78 13) ∧ ∃ p', p < p' ∧ Ps4 p' s' t') ∨ (0 ≤ f.toInt ∧ f.toInt ≤ 4096)) ∧ NwT s' t' ∧ fr (FrdC4 ++ FnwC) s s' ∧ fr (FrdM ++ FnwM) t t' := by
  have lA := lk4 h
  have pl := h.le
  obtain ⟨q1, q2, q3⟩ := le4 h
  have n10 : ¬ (cI 1 : Int32) = 0 := by decide
  -- when the entry can't be read
  have nope : ∀ {s1 t1 : ev_M} {p1 : Nat}, fTape_readsEntry_4_1011 s = some (s1, cI (-1)) → fM_rowOfTariff t = some (t1, cI 0) → t1.1 549 140 = cI 1 → Ps4 p1 s1 t1 → fr FrdC4 s s1 → fr FrdM t t1 → ∃ (s' t' : ev_M) (f : Int32), (∀ k14 x3, fMoney_readTariff_4_b37 k14 s (cI (-1)) x3 = k14 s' f (x3 + cI 1)) ∧ (∀ k66 x1, fM_doTariff_b89 k66 t x1 = k66 t' x1 f) ∧ ((f = cI (-1) ∧ 0 < ix (s'.1 78 13) ∧ ∃ p', p < p' ∧ Ps4 p' s' t') ∨ (0 ≤ f.toInt ∧ f.toInt ≤ 4096)) ∧ NwT s' t' ∧ fr (FrdC4 ++ FnwC) s s' ∧ fr (FrdM ++ FnwM) t t' := by
    intro s1 t1 p1 a1 a2 a3 a4 a5 a6
    have pl1 := a4.le
    refine ⟨s1, t1, cI (p1 : Int), fun k14 x3 => ?_, fun k66 x1 => ?_, Or.inr ⟨by rw [q_ti (by omega)]; omega, by rw [q_ti (by omega)]; omega⟩, ?_, a5.mono (by decide +kernel), a6.mono (by decide +kernel)⟩
    · unfold fMoney_readTariff_4_b37 fMoney_readTariff_4_b78
      rw [ltI_eq, a1, bd2_some, if_pos rfl, ltI_eq, a4.2.1]
    · unfold fM_doTariff_b89 fM_doTariff_b124
      rw [ltI_eq, a2, bd2_some, if_pos (show cI 0 = 0 from rfl), if_neg (by rw [a3]; decide), a4.2.2.1]
    · unfold NwT at hN ⊢
      rw [(a5.1 78 13 (by decide +kernel)).1, (a6.1 549 125 (by decide +kernel)).1, show s1.1 97 = s.1 97 from funext fun k => (a5.1 97 k rfl).1, show s1.1 98 = s.1 98 from funext fun k => (a5.1 98 k rfl).1, show s1.1 99 = s.1 99 from funext fun k => (a5.1 99 k rfl).1, show t1.1 637 = t.1 637 from funext fun k => (a6.1 637 k rfl).1, show t1.1 638 = t.1 638 from funext fun k => (a6.1 638 k rfl).1, show t1.1 639 = t.1 639 from funext fun k => (a6.1 639 k rfl).1]
      exact hN
  -- when it is read and judged
  have judge : ∀ {s1 t1 s2 t2 : ev_M} {p1 : Nat} {x v : Int32}, fTape_readsEntry_4_1011 s = some (s1, x) → ¬ x = cI (-1) → fMoney_adds_4 s1 x = some (s2, v) → fM_rowOfTariff t = some (t2, v) → t1.1 549 140 = 0 → (v = cI 0 ∨ (v = cI 1 ∧ 0 < ix (s2.1 78 13))) → NwT s2 t2 → Ps4 p1 s1 t1 → p < p1 → fr FrdC4 s s1 → fr FrdM t t1 → fr FnwC s1 s2 → fr FnwM t1 t2 → ∃ (s' t' : ev_M) (f : Int32), (∀ k14 x3, fMoney_readTariff_4_b37 k14 s (cI (-1)) x3 = k14 s' f (x3 + cI 1)) ∧ (∀ k66 x1, fM_doTariff_b89 k66 t x1 = k66 t' x1 f) ∧ ((f = cI (-1) ∧ 0 < ix (s'.1 78 13) ∧ ∃ p', p < p' ∧ Ps4 p' s' t') ∨ (0 ≤ f.toInt ∧ f.toInt ≤ 4096)) ∧ NwT s' t' ∧ fr (FrdC4 ++ FnwC) s s' ∧ fr (FrdM ++ FnwM) t t' := by
    intro s1 t1 s2 t2 p1 x v a1 a2 a3 a4 a5 a6 a7 a8 a9 b1 b2 b3 b4
    have fC : fr (FrdC4 ++ FnwC) s s2 := (b1.mono (by decide +kernel)).tr (b3.mono (by decide +kernel))
    have fM : fr (FrdM ++ FnwM) t t2 := (b2.mono (by decide +kernel)).tr (b4.mono (by decide +kernel))
    have e140 : t2.1 549 140 = 0 := by rw [(b4.1 549 140 (by decide +kernel)).1]; exact a5
    rcases a6 with a6 | ⟨a6, a10⟩
    · refine ⟨s2, t2, cI (p : Int), fun k14 x3 => ?_, fun k66 x1 => ?_, Or.inr ⟨by rw [q_ti (by omega)]; omega, by rw [q_ti (by omega)]; omega⟩, a7, fC, fM⟩
      · unfold fMoney_readTariff_4_b37 fMoney_readTariff_4_b78
        rw [ltI_eq, a1, bd2_some, if_neg a2, a3, bd2_some, if_pos (show v = 0 by rw [a6]; rfl), h.2.1]
      · unfold fM_doTariff_b89 fM_doTariff_b124
        rw [ltI_eq, a4, bd2_some, if_pos (show v = 0 by rw [a6]; rfl), if_pos e140, h.2.2.1]
    · refine ⟨s2, t2, cI (-1), fun k14 x3 => ?_, fun k66 x1 => ?_, Or.inl ⟨rfl, a10, p1, a9, ?_⟩, a7, fC, fM⟩
      · unfold fMoney_readTariff_4_b37 fMoney_readTariff_4_b78
        rw [ltI_eq, a1, bd2_some, if_neg a2, a3, bd2_some, if_neg (show ¬ v = 0 by rw [a6]; decide)]
      · unfold fM_doTariff_b89 fM_doTariff_b124
        rw [ltI_eq, a4, bd2_some, if_neg (show ¬ v = 0 by rw [a6]; decide)]
      · obtain ⟨⟨r1, r2, r3, r4⟩, r5, r6, r7⟩ := a8
        refine ⟨⟨?_, ?_, ?_, fun k hk => ?_⟩, ?_, ?_, ?_⟩
        · rw [(b3.1 4 1 rfl).1, (b4.1 549 13 (by decide +kernel)).1]; exact r1
        · rw [(b3.1 4 1 rfl).1]; exact r2
        · rw [(b3.1 4 1 rfl).1]; exact r3
        · rw [(b3.1 4 1 rfl).1] at hk
          rw [(b4.1 554 k rfl).1, (b3.1 5 k rfl).1]; exact r4 k hk
        · rw [(b3.1 4 2 rfl).1]; exact r5
        · rw [(b4.1 549 139 (by decide +kernel)).1]; exact r6
        · rw [(b3.1 4 1 rfl).1]; exact r7
  have nw : ∀ {s1 t1 : ev_M}, fr FrdC4 s s1 → fr FrdM t t1 → NwT s1 t1 := by
    intro s1 t1 a5 a6
    unfold NwT at hN ⊢
    rw [(a5.1 78 13 (by decide +kernel)).1, (a6.1 549 125 (by decide +kernel)).1, show s1.1 97 = s.1 97 from funext fun k => (a5.1 97 k rfl).1, show s1.1 98 = s.1 98 from funext fun k => (a5.1 98 k rfl).1, show s1.1 99 = s.1 99 from funext fun k => (a5.1 99 k rfl).1, show t1.1 637 = t.1 637 from funext fun k => (a6.1 637 k rfl).1, show t1.1 638 = t.1 638 from funext fun k => (a6.1 638 k rfl).1, show t1.1 639 = t.1 639 from funext fun k => (a6.1 639 k rfl).1]
    exact hN
  by_cases z1 : tx4 s p = cI 75
  · have hp := tx4_lt z1 (by decide)
    obtain ⟨P1, f1, n1, fr1, gr1⟩ := h.lt hp
    rw [z1] at lA
    obtain ⟨s', t', p', l, n, a1, a2, a3, a4, a5, a6⟩ := sq4_1011 (x2 := cI 75) [35, 44, 35, 61, 35, 59] 1 0 (p + 1) 1048576 (bfL4 s) (afL t) (by unfold Shp; decide) (by decide) (by decide) (by decide) (by decide) P1 f1 n1
    obtain ⟨a, b, c, e1, e2⟩ := rowK lA a1
    rcases a6 with ⟨b1, b2⟩ | ⟨b1, b2, b3, b4, b5, -, -⟩
    · exact nope ((q2 z1).trans b2) (by rw [e2, if_neg (by rw [b1]; decide)]) b1 a3 (fr1.tr a4) (gr1.tr a5)
    · subst e1
      have c0 := (b5 0 (show 0 < 3 by decide)).1
      have c1 := (b5 1 (show 1 < 3 by decide)).1
      have c2 := (b5 2 (show 2 < 3 by decide)).1
      obtain ⟨s2, t2, v, d1, d2, d3, d4, d5, d6⟩ := adK4 (a := a) (b := b) (c := c) (nw (fr1.tr a4) (gr1.tr a5)) c0 c1 c2
      exact judge ((q2 z1).trans b3) (by decide) d1 (by rw [e2, if_pos b1]; exact d2) b1 d3 d4 a3 (by omega) (fr1.tr a4) (gr1.tr a5) d5 d6
  · by_cases z2 : tx4 s p = cI 86
    · have hp := tx4_lt z2 (by decide)
      obtain ⟨P1, f1, n1, fr1, gr1⟩ := h.lt hp
      rw [z2] at lA
      obtain ⟨s', t', p', l, n, a1, a2, a3, a4, a5, a6⟩ := sq4_1011 (x2 := cI 86) [35, 61, 35, 59] 8 0 (p + 1) 1048576 (bfL4 s) (afL t) (by unfold Shp; decide) (by decide) (by decide) (by decide) (by decide) P1 f1 n1
      obtain ⟨a, c, e1, e2⟩ := rowV lA a1
      rcases a6 with ⟨b1, b2⟩ | ⟨b1, b2, b3, b4, b5, -, -⟩
      · exact nope ((q3 z2).trans b2) (by rw [e2, if_neg (by rw [b1]; decide)]) b1 a3 (fr1.tr a4) (gr1.tr a5)
      · subst e1
        have c0 := (b5 0 (show 0 < 2 by decide)).1
        have c1 := (b5 1 (show 1 < 2 by decide)).1
        obtain ⟨s2, t2, v, d1, d2, d3, d4, d5, d6⟩ := adV4 (a := a) (b := cI 0) (c := c) (nw (fr1.tr a4) (gr1.tr a5)) c0 c1
        exact judge ((q3 z2).trans b3) (by decide) d1 (by rw [e2, if_pos b1]; exact d2) b1 d3 d4 a3 (by omega) (fr1.tr a4) (gr1.tr a5) d5 d6
    · have f1 : fr FrdC4 s (wI s 4 4 (cI 0)) := fr.rf.wI rfl
      have f2 : fr FrdM t (wI t 549 140 (cI 1)) := fr.rf.wI rfl
      exact nope (p1 := p) (q1 z1 z2) (rowF lA z1 z2) (by rw [wI_c, up1_eq]) ⟨h.1.kp f1 f2, by rw [wI_c, up1_ne (by decide)]; exact h.2.1, by rw [wI_c, up1_ne (by decide)]; exact h.2.2.1, by rw [wI_c, up1_ne (by decide)]; exact h.2.2.2⟩ f1 f2
