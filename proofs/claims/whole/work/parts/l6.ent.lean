/-! ===== LEVEL 3: an entry of the book is read ===== -/
theorem six_B : ∀ n : Nat, n < 91 → 65 ≤ n → fSix 1010 (i2c (cI (n : Int))) = some (if n = 80 then cI 0 else if n = 83 then cI 5 else if n = 82 then cI 16 else if n = 72 then cI 27 else cI (-1)) := by decide +kernel
theorem RfS.stay {n : Int64} : ∀ {cs : List Nat} {t t' : ev_M} {l : List Int32}, t.1 549 140 = cI 1 → RfS cs t t' l n → t' = t
  | [], _, _, _, _, h => h.1
  | c :: cs, t, t', l, hf, h => by
    unfold RfS at h
    by_cases z : c = 35
    · rw [if_pos z] at h
      obtain ⟨t1, v, l', a1, a2, a3⟩ := h
      rw [digF hf] at a1
      cases a1
      exact RfS.stay hf a3
    · rw [if_neg z] at h
      by_cases y : c = 64
      · rw [if_pos y] at h
        obtain ⟨t1, a1, a3⟩ := h
        rw [letF hf] at a1
        cases a1
        exact RfS.stay hf a3
      · rw [if_neg y] at h
        obtain ⟨t1, a1, a3⟩ := h
        rw [eatF hf] at a1
        cases a1
        exact RfS.stay hf a3
theorem l27 {v : Int64} {x : Int32} {P : Int} (h0 : 0 ≤ v.toInt) (h1 : v.toInt < P) (hP : P ≤ 7625597484987) (x1 : 65 ≤ x.toInt) (x2 : x.toInt ≤ 90) : ((((cL 27) * v) + (Int32.toInt64 x)) - (cL 65) + (cL 1)).toInt = 27 * v.toInt + x.toInt - 64 := by
  have e27 : (cL 27).toInt = 27 := rfl
  have e65 : (cL 65).toInt = 65 := rfl
  have e1 : (cL 1).toInt = 1 := rfl
  have ex : (Int32.toInt64 x).toInt = x.toInt := toL_toInt x
  have w1 : ((cL 27) * v).toInt = 27 * v.toInt := by rw [Int64.toInt_mul, e27, Int.bmod_eq_of_le (by omega) (by omega)]
  have w2 : ((cL 27) * v + Int32.toInt64 x).toInt = 27 * v.toInt + x.toInt := by rw [Int64.toInt_add, w1, ex, Int.bmod_eq_of_le (by omega) (by omega)]
  have w3 : ((cL 27) * v + Int32.toInt64 x - cL 65).toInt = 27 * v.toInt + x.toInt - 65 := by rw [Int64.toInt_sub, w2, e65, Int.bmod_eq_of_le (by omega) (by omega)]
  rw [Int64.toInt_add, w3, e1, Int.bmod_eq_of_le (by omega) (by omega)]
  omega
theorem let_e {t t' : ev_M} {v v' : Int64} {d : Nat} (hd : d ≤ 10) (h0 : 0 < d → 0 < v.toInt) (h1 : v.toInt < ((27 ^ d : Nat) : Int)) (he : fM_letters_b65 t (cI (d : Int)) v = some (t', v')) (hf : t'.1 549 140 = 0) : Nm v' := by
  have no : ∀ {u : ev_M} {w : Int64}, fM_letters_b77 u w = some (t', v') → False := fun {u w} h => by
    unfold fM_letters_b77 fM_letters_b82 at h
    rw [if_pos (by decide), ltM_eq] at h
    cases h
    rw [wI_c, up1_eq] at hf
    exact absurd hf (by decide)
  unfold fM_letters_b65 at he
  by_cases z : t.1 549 140 = 0
  · rw [if_pos z] at he
    by_cases y : cI (d : Int) = 0
    · rw [if_pos y] at he
      exact absurd he no
    · rw [if_neg y] at he
      unfold fM_letters_b82 at he
      rw [if_pos (by decide), ltM_eq] at he
      cases he
      have d0 : 0 < d := by
        rw [eq_i, q_ti (by omega), i32_0] at y
        omega
      have pw : (27 ^ d : Nat) ≤ 27 ^ 10 := Nat.pow_le_pow_right (by decide) hd
      have e10 : (27 ^ 10 : Nat) = 205891132094649 := by decide
      exact ⟨h0 d0, by omega⟩
  · rw [if_neg z] at he
    exact absurd he no
theorem let_b : ∀ (r m d : Nat) (t t' : ev_M) (v v' : Int64), d + r = 10 → r < m → 0 ≤ v.toInt → (0 < d → 0 < v.toInt) → v.toInt < ((27 ^ d : Nat) : Int) → fM_letters_h4 m t (cI (d : Int)) v = some (t', v') → t'.1 549 140 = 0 → Nm v'
  | 0, m, d, t, t', v, v', hd, hm, h0, h1, h2, he, hf => by
    obtain ⟨m, rfl⟩ : ∃ k, m = k + 1 := ⟨m - 1, by omega⟩
    have e : d = 10 := by omega
    subst e
    rw [fM_letters_h4, if_neg (show ¬ cI ((10 : Nat) : Int) < cI 10 by decide), ite_self] at he
    exact let_e (Nat.le_refl _) h1 h2 he hf
  | r + 1, m, d, t, t', v, v', hd, hm, h0, h1, h2, he, hf => by
    obtain ⟨m, rfl⟩ : ∃ k, m = k + 1 := ⟨m - 1, by omega⟩
    have d10 : cI (d : Int) < cI 10 := by rw [lt_i, q_ti (by omega), show (cI 10).toInt = 10 from rfl]; omega
    have e65 : (cI 65).toInt = 65 := rfl
    have e90 : (cI 90).toInt = 90 := rfl
    have pw : (27 ^ (d + 1) : Nat) = 27 ^ d * 27 := Nat.pow_succ ..
    have pw9 : (27 ^ d : Nat) ≤ 27 ^ 9 := Nat.pow_le_pow_right (by decide) (by omega)
    have e9 : (27 ^ 9 : Nat) = 7625597484987 := by decide
    rw [fM_letters_h4, if_pos d10] at he
    by_cases z : t.1 549 140 = 0
    · rw [if_pos z] at he
      cases hl : fM_look t with
      | none => rw [hl] at he; cases he
      | some x =>
        rw [hl, bd1_some, in_bI, bd1_some, ite_bI] at he
        by_cases y : InR x (cI 65) (cI 90)
        · obtain ⟨y1, y2⟩ := id y
          rw [if_pos y, bd1_some, ltL_eq, ltM_eq, q_s (by omega)] at he
          have w := l27 (v := v) (x := x) h0 h2 (by omega) (by omega) (by omega)
          exact let_b r m (d + 1) _ t' _ v' (by omega) (by omega) (by omega) (fun _ => by omega) (by rw [w, pw]; omega) he hf
        · rw [if_neg y] at he
          exact let_e (by omega) h1 h2 he hf
    · rw [if_neg z] at he
      exact let_e (by omega) h1 h2 he hf
theorem RfS.nm {cs : List Nat} {t t' : ev_M} {l : List Int32} {n : Int64} (h : RfS (35 :: 44 :: 64 :: cs) t t' l n) (hf : t'.1 549 140 = 0) : Nm n := by
  obtain ⟨t1, a, l1, d1, e1, h⟩ := h.num
  obtain ⟨t2, d2, h⟩ := h.sig (by decide) (by decide)
  obtain ⟨t3, d3, h⟩ := h.nam
  have f3 : t3.1 549 140 = 0 := by
    have : t3.1 549 140 = 0 ∨ t3.1 549 140 = cI 1 := by
      have q : ∀ (m : Nat) (u u' : ev_M) (x : Int32) (v v' : Int64), fM_letters_h4 m u x v = some (u', v') → u'.1 549 140 = 0 ∨ u'.1 549 140 = cI 1 := by
        intro m
        induction m with
        | zero => intro u u' x v v' he; cases he
        | succ m ih =>
          intro u u' x v v' he
          have fin : ∀ {w : ev_M} {y : Int32} {z : Int64}, fM_letters_b65 w y z = some (u', v') → u'.1 549 140 = 0 ∨ u'.1 549 140 = cI 1 := by
            intro w y z hh
            unfold fM_letters_b65 fM_letters_b77 fM_letters_b82 at hh
            rw [if_pos (show bz (cI 1) = true by decide), if_pos (show bz (cI 0) = true by decide), ltM_eq, ltM_eq] at hh
            by_cases k1 : w.1 549 140 = 0
            · rw [if_pos k1] at hh
              by_cases k2 : y = 0
              · rw [if_pos k2] at hh
                cases hh
                exact Or.inr (by rw [wI_c, up1_eq])
              · rw [if_neg k2] at hh
                cases hh
                exact Or.inl (by rw [wI_c, up1_eq]; rfl)
            · rw [if_neg k1] at hh
              cases hh
              exact Or.inr (by rw [wI_c, up1_eq])
          rw [fM_letters_h4] at he
          by_cases z : u.1 549 140 = 0
          · rw [if_pos z] at he
            by_cases y : x < cI 10
            · rw [if_pos y] at he
              cases hl : fM_look u with
              | none => rw [hl] at he; cases he
              | some x2 =>
                rw [hl, bd1_some, in_bI, bd1_some, ite_bI] at he
                by_cases y2 : InR x2 (cI 65) (cI 90)
                · rw [if_pos y2, bd1_some, ltL_eq, ltM_eq] at he
                  exact ih _ _ _ _ _ he
                · rw [if_neg y2] at he
                  exact fin he
            · rw [if_neg y] at he
              exact fin he
          · rw [if_neg z] at he
            exact fin he
      exact q _ _ _ _ _ _ d3
    rcases this with w | w
    · exact w
    · rw [RfS.stay w h] at hf
      rw [w] at hf
      exact absurd hf (by decide)
  exact let_b 10 1048576 0 t2 t3 (cL 0) n (by omega) (by omega) (by decide) (fun h => absurd h (by decide)) (by decide) d3 f3
theorem entF {t : ev_M} {x : Int32} (h : fM_look t = some x) (h1 : ¬ x = cI 80) (h2 : ¬ x = cI 83) (h3 : ¬ x = cI 82) (h4 : ¬ x = cI 72) : fM_entryOfBook t = some (wI t 549 140 (cI 1), cI 0) := by
  have e : (wI t 549 140 (cI 1)).1 549 140 = cI 1 := by rw [wI_c, up1_eq]
  unfold fM_entryOfBook
  rw [h, bd1_some, if_neg h1, if_neg h2, if_neg h3, if_neg h4]
  unfold fM_entryOfBook_b35
  rw [if_pos (by decide), ltM_eq, if_neg (by rw [e]; decide)]
  unfold fM_entryOfBook_b59
  rw [ltM_eq, wI_self rfl, digF e, bd2_some, eatF e, bd1_some, letF e, bd2_some, if_neg h1, comF e, bd2_some]
  unfold fM_entryOfBook_b92
  rw [if_neg h2, if_neg h3]
  unfold fM_entryOfBook_b114
  rw [if_neg h2, if_neg h3]
  unfold fM_entryOfBook_b136
  rw [eatF e, bd1_some, if_neg (by rw [e]; decide)]
/-- the letter, a number, a comma and the name: where the reference stands then -/
theorem entH {t t' : ev_M} {x : Int32} {cs : List Nat} {l : List Int32} {n : Int64} (h : fM_look t = some x) (hx : x = cI 80 ∨ x = cI 83 ∨ x = cI 82 ∨ x = cI 72) (hR : RfS (35 :: 44 :: 64 :: cs) (afL t) t' l n) : ∃ (t3 : ev_M) (a : Int32) (l3 : List Int32), l = a :: l3 ∧ RfS cs t3 t' l3 n ∧ fM_entryOfBook t = if x = cI 80 then fM_entryOfBook_b92 t3 x a n (cI 0) else bd2 (fM_comma t3) fun s22 v23 => fM_entryOfBook_b92 s22 x a n v23 := by
  obtain ⟨t1, a, l1, d1, e1, hR⟩ := hR.num
  obtain ⟨t2, d2, hR⟩ := hR.sig (by decide) (by decide)
  obtain ⟨t3, d3, hR⟩ := hR.nam
  have e0 : (wI t 549 140 (cI 0)).1 549 140 = 0 := by rw [wI_c, up1_eq]; rfl
  have e9 : (wI t 549 140 (cI 0)).1 549 139 = t.1 549 139 := by rw [wI_c, up1_ne (by decide)]
  refine ⟨t3, a, l1, e1, hR, ?_⟩
  have k : fM_entryOfBook t = fM_entryOfBook_b34 t x := by
    unfold fM_entryOfBook
    rw [h, bd1_some]
    rcases hx with u | u | u | u
    · rw [if_pos u]
    · rw [if_neg (by rw [u]; decide), if_pos u]
    · rw [if_neg (by rw [u]; decide), if_neg (by rw [u]; decide), if_pos u]
    · rw [if_neg (by rw [u]; decide), if_neg (by rw [u]; decide), if_neg (by rw [u]; decide), if_pos u]
  rw [k]
  unfold fM_entryOfBook_b34 fM_entryOfBook_b35
  rw [if_pos (by decide), ltM_eq, if_pos e0, e9]
  unfold fM_entryOfBook_b59
  have d2' : fM_eat t1 (cI 44) = some t2 := d2
  unfold afL at d1
  rw [ltM_eq, d1, bd2_some, d2', bd1_some, d3, bd2_some]
theorem entP {t t' : ev_M} {l : List Int32} {n : Int64} (h : fM_look t = some (cI 80)) (hR : RfS [35, 44, 64, 59] (afL t) t' l n) : ∃ a, l = [a] ∧ fM_entryOfBook t = if t'.1 549 140 = 0 then RBL t' (cI 80) a n (cI 0) (cI 0) (cI 0) else some (t', cI 0) := by
  obtain ⟨t3, a, l3, e1, hR, k⟩ := entH h (Or.inl rfl) hR
  obtain ⟨t6, d6, hZ, e6⟩ := hR.sig (by decide) (by decide)
  subst e6 hZ
  refine ⟨a, e1, ?_⟩
  have d6' : fM_eat t3 (cI 59) = some t' := d6
  rw [k, if_pos rfl]
  unfold fM_entryOfBook_b92
  rw [if_neg (by decide), if_neg (by decide)]
  unfold fM_entryOfBook_b114
  rw [if_neg (by decide), if_neg (by decide)]
  unfold fM_entryOfBook_b136 RBL
  rw [d6', bd1_some]
theorem entHo {t t' : ev_M} {l : List Int32} {n : Int64} (h : fM_look t = some (cI 72)) (hR : RfS [35, 44, 64, 44, 35, 59] (afL t) t' l n) : ∃ a b, l = [a, b] ∧ fM_entryOfBook t = if t'.1 549 140 = 0 then RBL t' (cI 72) a n b (cI 0) (cI 0) else some (t', cI 0) := by
  obtain ⟨t3, a, l3, e1, hR, k⟩ := entH h (Or.inr (Or.inr (Or.inr rfl))) hR
  obtain ⟨t4, d4, hR⟩ := hR.sig (by decide) (by decide)
  obtain ⟨t5, b, l5, d5, e5, hR⟩ := hR.num
  obtain ⟨t6, d6, hZ, e6⟩ := hR.sig (by decide) (by decide)
  subst e6 e5 e1 hZ
  refine ⟨a, b, rfl, ?_⟩
  have d4' : fM_eat t3 (cI 44) = some t4 := d4
  have d6' : fM_eat t5 (cI 59) = some t' := d6
  rw [k, if_neg (by decide)]
  unfold fM_comma
  rw [d4', bd1_some, d5, bd2_some, bd2_some]
  unfold fM_entryOfBook_b92
  rw [if_neg (by decide), if_neg (by decide)]
  unfold fM_entryOfBook_b114
  rw [if_neg (by decide), if_neg (by decide)]
  unfold fM_entryOfBook_b136 RBL
  rw [d6', bd1_some]
theorem entS {t t' : ev_M} {x : Int32} {l : List Int32} {n : Int64} (h : fM_look t = some x) (hx : x = cI 83 ∨ x = cI 82) (hR : RfS [35, 44, 64, 44, 35, 44, 35, 44, 35, 59] (afL t) t' l n) : ∃ a b c d, l = [a, b, c, d] ∧ fM_entryOfBook t = if t'.1 549 140 = 0 then RBL t' x a n b c d else some (t', cI 0) := by
  obtain ⟨t3, a, l3, e1, hR, k⟩ := entH h (Or.inr (hx.imp_right Or.inl)) hR
  obtain ⟨t4, d4, hR⟩ := hR.sig (by decide) (by decide)
  obtain ⟨t5, b, l5, d5, e5, hR⟩ := hR.num
  obtain ⟨u4, f4, hR⟩ := hR.sig (by decide) (by decide)
  obtain ⟨u5, c, l6, f5, g5, hR⟩ := hR.num
  obtain ⟨w4, i4, hR⟩ := hR.sig (by decide) (by decide)
  obtain ⟨w5, d, l7, i5, j5, hR⟩ := hR.num
  obtain ⟨t6, d6, hZ, e6⟩ := hR.sig (by decide) (by decide)
  subst e6 j5 g5 e5 e1 hZ
  refine ⟨a, b, c, d, rfl, ?_⟩
  have d4' : fM_eat t3 (cI 44) = some t4 := d4
  have f4' : fM_eat t5 (cI 44) = some u4 := f4
  have i4' : fM_eat u5 (cI 44) = some w4 := i4
  have d6' : fM_eat w5 (cI 59) = some t' := d6
  have n80 : ¬ x = cI 80 := by rcases hx with u | u <;> rw [u] <;> decide
  have c1 : fM_comma t3 = some (t5, b) := by
    unfold fM_comma
    rw [d4', bd1_some, d5, bd2_some]
  have c2 : fM_comma t5 = some (u5, c) := by
    unfold fM_comma
    rw [f4', bd1_some, f5, bd2_some]
  have c3 : fM_comma u5 = some (w5, d) := by
    unfold fM_comma
    rw [i4', bd1_some, i5, bd2_some]
  have k92 : ∀ (u : ev_M) (y0 : Int32), fM_entryOfBook_b92 u x a n y0 = fM_entryOfBook_b106 u x a n y0 := fun u y0 => by
    unfold fM_entryOfBook_b92
    rcases hx with z | z
    · rw [if_pos z]
    · rw [if_neg (by rw [z]; decide), if_pos z]
  have k114 : ∀ (u : ev_M) (y0 y1 : Int32), fM_entryOfBook_b114 u x a n y0 y1 = fM_entryOfBook_b128 u x a n y0 y1 := fun u y0 y1 => by
    unfold fM_entryOfBook_b114
    rcases hx with z | z
    · rw [if_pos z]
    · rw [if_neg (by rw [z]; decide), if_pos z]
  rw [k, if_neg n80, c1, bd2_some, k92]
  unfold fM_entryOfBook_b106
  rw [c2, bd2_some, k114]
  unfold fM_entryOfBook_b128
  rw [c3, bd2_some]
  unfold fM_entryOfBook_b136 RBL
  rw [d6', bd1_some]
theorem lb1 {p : Nat} {s t : ev_M} (h : Ps1 p s t) : (¬ tx1 s p = cI 80 → ¬ tx1 s p = cI 83 → ¬ tx1 s p = cI 82 → ¬ tx1 s p = cI 72 → fTape_readsEntry_1_1010 s = some (wI s 1 4 (cI 0), cI (-1))) ∧ (∀ (n i : Nat), n < 91 → 65 ≤ n → (n = 80 ∧ i = 1 ∨ n = 83 ∧ i = 6 ∨ n = 82 ∧ i = 17 ∨ n = 72 ∧ i = 28) → tx1 s p = cI (n : Int) → fTape_readsEntry_1_1010 s = fTape_readsEntry_1_1010_h56 1048576 (bfL1 s) (cI (n : Int)) (cI (i : Int))) := by
  have e2 : (wI s 1 4 (cI 0)).1 1 2 = s.1 1 2 := by rw [wI_c, up1_ne (by decide)]
  have h6 : Ps1 p (wI s 1 4 (cI 0)) t := ⟨h.1.kp (fr.rf.wI rfl) fr.rf, by rw [e2]; exact h.2.1, h.2.2.1, by rw [wI_c, up1_ne (by decide)]; exact h.2.2.2⟩
  have bA := by1 h6
  have e6 : tx1 (wI s 1 4 (cI 0)) p = tx1 s p := tx1_kp (fr.rf.wI rfl)
  rw [e6] at bA
  have e65 : (cI 65).toInt = 65 := rfl
  have e90 : (cI 90).toInt = 90 := rfl
  refine ⟨fun z1 z2 z3 z4 => ?_, fun n i hn hn2 hi z => ?_⟩
  · unfold fTape_readsEntry_1_1010
    rw [ltM_eq, bA, bd1_some]
    have k35 : ∀ x, fTape_readsEntry_1_1010_b36 (wI s 1 4 (cI 0)) x (cI (-1)) = some (wI s 1 4 (cI 0), cI (-1)) := fun x => by
      unfold fTape_readsEntry_1_1010_b36
      rw [if_pos (show cI (-1) < 0 by decide)]
    unfold fTape_readsEntry_1_1010_b35
    by_cases y1 : tx1 s p < cI 65
    · rw [if_pos y1]; exact k35 _
    · rw [if_neg y1]
      by_cases y2 : tx1 s p ≤ cI 90
      · rw [lt_i] at y1
        obtain ⟨n, n1, n2, n3⟩ := nat_of (x := tx1 s p) (by omega) (by rw [le_i] at y2; omega)
        have six := six_B n n1 n2
        rw [if_neg (fun u => z1 (by rw [n3, u]; rfl)), if_neg (fun u => z2 (by rw [n3, u]; rfl)), if_neg (fun u => z3 (by rw [n3, u]; rfl)), if_neg (fun u => z4 (by rw [n3, u]; rfl)), ← n3] at six
        rw [if_pos y2, six, bd1_some]; exact k35 _
      · rw [if_neg y2]; exact k35 _
  · have six := six_B n hn hn2
    unfold fTape_readsEntry_1_1010
    rw [ltM_eq, bA, bd1_some, z, if_neg (by rw [lt_i, q_ti (by omega)]; omega), if_pos (by rw [le_i, q_ti (by omega)]; omega), six, bd1_some]
    unfold fTape_readsEntry_1_1010_b36
    rcases hi with ⟨u1, u2⟩ | ⟨u1, u2⟩ | ⟨u1, u2⟩ | ⟨u1, u2⟩ <;> subst u1 u2
    · rw [if_pos rfl, if_neg (by decide), ltM_eq, e2]; rfl
    · rw [if_neg (show ¬ (83 : Nat) = 80 by decide), if_pos rfl, if_neg (by decide), ltM_eq, e2]; rfl
    · rw [if_neg (show ¬ (82 : Nat) = 80 by decide), if_neg (show ¬ (82 : Nat) = 83 by decide), if_pos rfl, if_neg (by decide), ltM_eq, e2]; rfl
    · rw [if_neg (show ¬ (72 : Nat) = 80 by decide), if_neg (show ¬ (72 : Nat) = 83 by decide), if_neg (show ¬ (72 : Nat) = 82 by decide), if_pos rfl, if_neg (by decide), ltM_eq, e2]; rfl
theorem lb4 {p : Nat} {s t : ev_M} (h : Ps4 p s t) : (¬ tx4 s p = cI 80 → ¬ tx4 s p = cI 83 → ¬ tx4 s p = cI 82 → ¬ tx4 s p = cI 72 → fTape_readsEntry_4_1010 s = some (wI s 4 4 (cI 0), cI (-1))) ∧ (∀ (n i : Nat), n < 91 → 65 ≤ n → (n = 80 ∧ i = 1 ∨ n = 83 ∧ i = 6 ∨ n = 82 ∧ i = 17 ∨ n = 72 ∧ i = 28) → tx4 s p = cI (n : Int) → fTape_readsEntry_4_1010 s = fTape_readsEntry_4_1010_h56 1048576 (bfL4 s) (cI (n : Int)) (cI (i : Int))) := by
  have e2 : (wI s 4 4 (cI 0)).1 4 2 = s.1 4 2 := by rw [wI_c, up1_ne (by decide)]
  have h6 : Ps4 p (wI s 4 4 (cI 0)) t := ⟨h.1.kp (fr.rf.wI rfl) fr.rf, by rw [e2]; exact h.2.1, h.2.2.1, by rw [wI_c, up1_ne (by decide)]; exact h.2.2.2⟩
  have bA := by4 h6
  have e6 : tx4 (wI s 4 4 (cI 0)) p = tx4 s p := tx4_kp (fr.rf.wI rfl)
  rw [e6] at bA
  have e65 : (cI 65).toInt = 65 := rfl
  have e90 : (cI 90).toInt = 90 := rfl
  refine ⟨fun z1 z2 z3 z4 => ?_, fun n i hn hn2 hi z => ?_⟩
  · unfold fTape_readsEntry_4_1010
    rw [ltM_eq, bA, bd1_some]
    have k35 : ∀ x, fTape_readsEntry_4_1010_b36 (wI s 4 4 (cI 0)) x (cI (-1)) = some (wI s 4 4 (cI 0), cI (-1)) := fun x => by
      unfold fTape_readsEntry_4_1010_b36
      rw [if_pos (show cI (-1) < 0 by decide)]
    unfold fTape_readsEntry_4_1010_b35
    by_cases y1 : tx4 s p < cI 65
    · rw [if_pos y1]; exact k35 _
    · rw [if_neg y1]
      by_cases y2 : tx4 s p ≤ cI 90
      · rw [lt_i] at y1
        obtain ⟨n, n1, n2, n3⟩ := nat_of (x := tx4 s p) (by omega) (by rw [le_i] at y2; omega)
        have six := six_B n n1 n2
        rw [if_neg (fun u => z1 (by rw [n3, u]; rfl)), if_neg (fun u => z2 (by rw [n3, u]; rfl)), if_neg (fun u => z3 (by rw [n3, u]; rfl)), if_neg (fun u => z4 (by rw [n3, u]; rfl)), ← n3] at six
        rw [if_pos y2, six, bd1_some]; exact k35 _
      · rw [if_neg y2]; exact k35 _
  · have six := six_B n hn hn2
    unfold fTape_readsEntry_4_1010
    rw [ltM_eq, bA, bd1_some, z, if_neg (by rw [lt_i, q_ti (by omega)]; omega), if_pos (by rw [le_i, q_ti (by omega)]; omega), six, bd1_some]
    unfold fTape_readsEntry_4_1010_b36
    rcases hi with ⟨u1, u2⟩ | ⟨u1, u2⟩ | ⟨u1, u2⟩ | ⟨u1, u2⟩ <;> subst u1 u2
    · rw [if_pos rfl, if_neg (by decide), ltM_eq, e2]; rfl
    · rw [if_neg (show ¬ (83 : Nat) = 80 by decide), if_pos rfl, if_neg (by decide), ltM_eq, e2]; rfl
    · rw [if_neg (show ¬ (82 : Nat) = 80 by decide), if_neg (show ¬ (82 : Nat) = 83 by decide), if_pos rfl, if_neg (by decide), ltM_eq, e2]; rfl
    · rw [if_neg (show ¬ (72 : Nat) = 80 by decide), if_neg (show ¬ (72 : Nat) = 83 by decide), if_neg (show ¬ (72 : Nat) = 82 by decide), if_pos rfl, if_neg (by decide), ltM_eq, e2]; rfl
