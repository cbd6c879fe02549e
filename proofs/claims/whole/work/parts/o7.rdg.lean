/-! ===== LEVEL 3: the sheet: the address read ===== -/
def RSh_C : List (Nat × Nat) := [(52, 14), (63, 0), (64, 0), (65, 0), (66, 0), (68, 0), (69, 0), (70, 0), (71, 0), (72, 0), (73, 0), (74, 0), (75, 0), (1004, 0)]
def RSh_M : List (Nat × Nat) := [(549, 52), (577, 0), (578, 0), (579, 0), (580, 0), (581, 0), (582, 0)]
theorem RSh.keep {s t s' t' : ev_M} {F G : List (Nat × (Nat × Nat))} (h : RSh s t) (hs : fr F s s') (ht : fr G t t') (d1 : nof F RSh_C = true) (d2 : nof G RSh_M = true) : RSh s' t' := by
  have e0 : s'.1 52 13 = s.1 52 13 := (nof_s hs d1 (c := 52) (k := 13) rfl).1
  have e1 : t'.1 549 51 = t.1 549 51 := (nof_s ht d2 (c := 549) (k := 51) rfl).1
  have c63 : s'.1 63 = s.1 63 := (nof_c hs d1 (c := 63) rfl).1
  have c64 : s'.1 64 = s.1 64 := (nof_c hs d1 (c := 64) rfl).1
  have c65 : s'.1 65 = s.1 65 := (nof_c hs d1 (c := 65) rfl).1
  have c66 : s'.1 66 = s.1 66 := (nof_c hs d1 (c := 66) rfl).1
  have c68 : s'.1 68 = s.1 68 := (nof_c hs d1 (c := 68) rfl).1
  have c69 : s'.1 69 = s.1 69 := (nof_c hs d1 (c := 69) rfl).1
  have c70 : s'.1 70 = s.1 70 := (nof_c hs d1 (c := 70) rfl).1
  have c71 : s'.1 71 = s.1 71 := (nof_c hs d1 (c := 71) rfl).1
  have c72 : s'.1 72 = s.1 72 := (nof_c hs d1 (c := 72) rfl).1
  have c73 : s'.1 73 = s.1 73 := (nof_c hs d1 (c := 73) rfl).1
  have c74 : s'.1 74 = s.1 74 := (nof_c hs d1 (c := 74) rfl).1
  have c75 : s'.1 75 = s.1 75 := (nof_c hs d1 (c := 75) rfl).1
  have m77 : t'.1 577 = t.1 577 := (nof_c ht d2 (c := 577) rfl).1
  have m78 : t'.1 578 = t.1 578 := (nof_c ht d2 (c := 578) rfl).1
  have m79 : t'.1 579 = t.1 579 := (nof_c ht d2 (c := 579) rfl).1
  have m80 : t'.1 580 = t.1 580 := (nof_c ht d2 (c := 580) rfl).1
  have m81 : t'.1 581 = t.1 581 := (nof_c ht d2 (c := 581) rfl).1
  have m82 : t'.1 582 = t.1 582 := (nof_c ht d2 (c := 582) rfl).1
  have en : ∀ a b c, fSheet_nearest s' a b c = fSheet_nearest s a b c := ne_ct (nof_c hs d1 (c := 1004) rfl).1
  unfold RSh at h ⊢
  simp only [e0, e1, c63, c64, c65, c66, c68, c69, c70, c71, c72, c73, c74, c75, m77, m78, m79, m80, m81, m82, en]
  exact h
def Sym_C : List (Nat × Nat) := [(1004, 0)]
def Sym_M : List (Nat × Nat) := [(657, 0)]
theorem Sym.keep {s t s' t' : ev_M} {F G : List (Nat × (Nat × Nat))} (h : Sym s t) (hs : fr F s s') (ht : fr G t t') (d1 : nof F Sym_C = true) (d2 : nof G Sym_M = true) : Sym s' t' := by
  have e0 : s'.1 1004 = s.1 1004 := (nof_c hs d1 (c := 1004) rfl).1
  have e1 : t'.1 657 = t.1 657 := (nof_c ht d2 (c := 657) rfl).1
  unfold Sym at h ⊢
  simp only [e0, e1]
  exact h
def FrgC : List (Nat × (Nat × Nat)) := [(52, 52, 4), (76, 76, 0), (77, 77, 0)]
def FrgM : List (Nat × (Nat × Nat)) := [(549, 549, 51), (658, 658, 0), (659, 659, 0)]
/-- what reading owes -/
def RdO (s t : ev_M) (fc fm : Option (ev_M × Int32)) : Prop := ∃ (s' t' : ev_M) (v : Int32), fc = some (s', v) ∧ fm = some (t', v) ∧ t'.1 549 50 = s'.1 52 3 ∧ (s'.1 52 3 = cI (-1) ∨ ∃ q : Nat, q < ix (s.1 30 9) ∧ s'.1 52 3 = cI (q : Int)) ∧ fr FrgC s s' ∧ fr FrgM t t'
theorem rd_tl {N lo e : Nat} {p y : Int32} {s t : ev_M} (he : e ≤ N) (hlo : lo ≤ e) (L : LtD N s t) (R : RBk s t) (h3 : s.1 52 3 = cI (-1)) (h4 : t.1 549 50 = cI (-1)) : RdO s t (fSheet_reading_b139 s (cI (lo : Int)) p (cI (e : Int)) y) (fM_readAddress_b143 t p (cI (lo : Int)) (cI (e : Int)) y) := by
  unfold fSheet_reading_b139 fM_readAddress_b143
  by_cases z : y = cI (-1)
  · rw [if_pos z, if_pos z]
    exact ⟨s, t, cI 4, rfl, rfl, h4.trans h3.symm, Or.inl h3, fr.rf, fr.rf⟩
  · rw [if_neg z, if_neg z]
    obtain ⟨s1, t1, q, a1, a2, a3, a4, a5⟩ := sl_ok (p := p) he hlo L R.2.1
    have f4 : fr FrgC s s1 := a4.mono (by decide +kernel)
    have f5 : fr FrgM t t1 := a5.mono (by decide +kernel)
    rw [a1, a2, bd2_some, bd2_some]
    by_cases w : q = cI (-1)
    · rw [if_pos w, if_pos w]
      have c3 : s1.1 52 3 = cI (-1) := (a4.1 52 3 rfl).1.trans h3
      have m3 : t1.1 549 50 = cI (-1) := (a5.1 549 50 rfl).1.trans h4
      exact ⟨s1, t1, cI 5, rfl, rfl, m3.trans c3.symm, Or.inl c3, f4, f5⟩
    · rw [if_neg w, if_neg w]
      obtain ⟨v, b1, b2, b3⟩ := e_pointWith (a := q) (b := y) (R.2.2.2.keep a4 a5 (by decide +kernel) (by decide +kernel))
      rw [b1, b2, bd1_some, bd1_some, ltM_eq, ltM_eq]
      have g1 : fr FrgC s (wI s1 52 3 v) := f4.wI rfl
      have g2 : fr FrgM t (wI t1 549 50 v) := f5.wI rfl
      have c3 : (wI s1 52 3 v).1 52 3 = v := by rw [wI_c, up1_eq]
      have m3 : (wI t1 549 50 v).1 549 50 = v := by rw [wI_c, up1_eq]
      have c9 : s1.1 30 9 = s.1 30 9 := (a4.1 30 9 rfl).1
      have cc : (wI s1 52 3 v).1 52 3 = cI (-1) ∨ ∃ k : Nat, k < ix (s.1 30 9) ∧ (wI s1 52 3 v).1 52 3 = cI (k : Int) := by
        rw [c3]
        rcases b3 with ⟨u, -⟩ | ⟨k, k1, k2, -⟩
        · exact Or.inl u
        · exact Or.inr ⟨k, by rw [← c9]; exact k1, k2⟩
      by_cases x : v = cI (-1)
      · rw [if_pos (by rw [c3]; exact x), if_pos (by rw [m3]; exact x)]
        exact ⟨_, _, cI 6, rfl, rfl, m3.trans c3.symm, cc, g1, g2⟩
      · rw [if_neg (by rw [c3]; exact x), if_neg (by rw [m3]; exact x)]
        exact ⟨_, _, cI 0, rfl, rfl, m3.trans c3.symm, cc, g1, g2⟩
theorem rg_ok {s t : ev_M} (H : RSh s t) (Sy : Sym s t) (R : RBk s t) : RdO s t (fSheet_reading s) (fM_readAddress t) := by
  have f1 : fr FrgC s (wI s 52 3 (cI (-1))) := fr.rf.wI rfl
  have f2 : fr FrgM t (wI t 549 50 (cI (-1))) := fr.rf.wI rfl
  obtain ⟨R1, R2, R3, R4⟩ := R
  have H := H.keep f1 f2 (by decide +kernel) (by decide +kernel)
  have Sy := Sy.keep f1 f2 (by decide +kernel) (by decide +kernel)
  have R1 := R1.keep f1 f2 (by decide +kernel) (by decide +kernel)
  have R2 := R2.keep f1 f2 (by decide +kernel) (by decide +kernel)
  have R3 := R3.keep f1 f2 (by decide +kernel) (by decide +kernel)
  have R4 := R4.keep f1 f2 (by decide +kernel) (by decide +kernel)
  have h3 : (wI s 52 3 (cI (-1))).1 52 3 = cI (-1) := by rw [wI_c, up1_eq]
  have h4 : (wI t 549 50 (cI (-1))).1 549 50 = cI (-1) := by rw [wI_c, up1_eq]
  have c9 : (wI s 52 3 (cI (-1))).1 30 9 = s.1 30 9 := by rw [wI_ne (by decide)]
  have key : RdO (wI s 52 3 (cI (-1))) (wI t 549 50 (cI (-1))) (fSheet_reading s) (fM_readAddress t) := by
    unfold fSheet_reading fM_readAddress
    rw [ltM_eq, ltM_eq]
    generalize wI s 52 3 (cI (-1)) = s at *
    generalize wI t 549 50 (cI (-1)) = t at *
    obtain ⟨L, F, l1, l2, l3, l4, l5, l6, l7, l8, l9⟩ := H
    have no : ∀ c : Int32, RdO s t (some (s, c)) (some (t, c)) := fun c => ⟨s, t, c, rfl, rfl, h4.trans h3.symm, Or.inl h3, fr.rf, fr.rf⟩
    rw [l2, l3]
    by_cases z : L < 2
    · have lt2 : cI (L : Int) < cI 2 := by rw [lt_i, q_ti (by omega), show (cI 2).toInt = 2 from rfl]; omega
      rw [if_pos lt2, if_pos lt2]
      exact no _
    · obtain ⟨l, rfl⟩ : ∃ l, L = l + 2 := ⟨L - 2, by omega⟩
      have nl2 : ¬ cI ((l + 2 : Nat) : Int) < cI 2 := by rw [lt_i, q_ti (by omega), show (cI 2).toInt = 2 from rfl]; omega
      rw [if_neg nl2, if_neg nl2]
      have B : ShB (l + 1 + 1) F s t := ⟨l1, l5, l6, l3, l7, fun q hq => (l9 q hq).2.2.2.2.2.2.2.2⟩
      have D : Dg (F (l + 2)) s t := ⟨l6, fun q hq => by
        obtain ⟨-, -, -, -, -, b1, b2, -, -⟩ := l9 q hq
        obtain ⟨r, r1, r2, r3⟩ := e_nst (lo := 0) (hi := 10) Sy b1 (by decide) (by decide)
        have e := Option.some.inj (r1.symm.trans b2)
        rw [e] at r2 r3
        exact ⟨r2, r3⟩⟩
      have LL : LtD (F (l + 2)) s t := ⟨l6, Sy, fun q hq => by
        obtain ⟨-, -, -, -, -, b1, -, b2, -⟩ := l9 q hq
        exact ⟨b1, b2⟩⟩
      have p1 : cI ((l + 2 : Nat) : Int) - cI 1 = cI ((l + 1 : Nat) : Int) := q_sb (b := 1) (by omega) (by omega)
      have p2 : cI ((l + 2 : Nat) : Int) - cI 2 = cI (l : Int) := q_sb (a := l + 2) (b := 2) (by omega) (by omega)
      have i1 : inb (cI ((l + 1 : Nat) : Int)) 10 = true := q_in (by omega) (by decide)
      have i2 : inb (cI (l : Int)) 10 = true := q_in (by omega) (by decide)
      have j1 : inb (cI ((l + 1 : Nat) : Int)) 11 = true := q_in (by omega) (by decide)
      have j2 : inb (cI (l : Int)) 11 = true := q_in (by omega) (by decide)
      have x1 : ix (cI ((l + 1 : Nat) : Int)) = l + 1 := q_ix (by omega)
      have x2 : ix (cI (l : Int)) = l := q_ix (by omega)
      obtain ⟨k1, k2, -⟩ := l8 (l + 1) (by omega)
      obtain ⟨k3, k4, -⟩ := l8 l (by omega)
      have m1 := l5 l (by omega)
      have m2 : F (l + 1) < F (l + 2) := l5 (l + 1) (by omega)
      have F0 : F (l + 2) ≤ 200 := l6
      have v7 : cI (F (l + 1) : Int) + cI ((F (l + 1 + 1) - F (l + 1) : Nat) : Int) = cI (F (l + 2) : Int) := by
        rw [q_ad (by show F (l + 1) + (F (l + 2) - F (l + 1)) < 100000; omega), show F (l + 1) + (F (l + 1 + 1) - F (l + 1)) = F (l + 2) from Nat.add_sub_cancel' (Nat.le_of_lt m2)]
      have v12 : cI (F l : Int) + cI ((F (l + 1) - F l : Nat) : Int) = cI (F (l + 1) : Int) := by
        rw [q_ad (by omega), Nat.add_sub_cancel' (Nat.le_of_lt m1)]
      obtain ⟨v, w1, w2, w3, w4⟩ := we_ok B (F (l + 2) - (F (l + 1) + 1)) 1048576 1048576 (F (l + 1) + 1) (by show F (l + 1) + 1 + (F (l + 2) - (F (l + 1) + 1)) = F (l + 2); omega) (by omega) (by omega) (by omega)
      have w2' : v ≤ F (l + 2) := w2
      obtain ⟨o, o1, o2, -⟩ := nb_ok (k := 5) D (show F (l + 1) < v by omega) w2' (by decide)
      simp only [p1, p2, if_pos i1, if_pos i2, if_pos j1, ix_3, ix_0, x1, x2]
      show RdO s t (ltI (s.1 66 (l + 1)) fun v6 => ltI (v6 + s.1 63 (l + 1)) fun v7 => _) (ltI (t.1 577 (l + 1)) fun v13 => _)
      rw [ltI_eq, k1, ltI_eq, k2, v7, ltI_eq, l7 (l + 1) (by omega), ltI_eq, q_s (by omega), show fM_readAddress_h31 1048576 t (cI (F (l + 1) : Int)) (cI ((F (l + 1) + 1 : Nat) : Int)) = _ from w4]
      have we : fSheet_wordEnd s (cI (F (l + 1) : Int)) (cI (F (l + 2) : Int)) = some (cI (v : Int)) := by
        unfold fSheet_wordEnd
        rw [ltI_eq, q_s (by omega)]
        exact w3
      have o1' : fSheet_numberOf s (cI (F (l + 1) : Int)) (cI (v : Int)) (cI 5) = some o := o1
      have o2' : fM_numberOf t (cI (F (l + 1) : Int)) (cI (v : Int)) (cI 5) = some o := o2
      unfold fM_readAddress_b59
      rw [we, bd1_some, o1', o2', bd1_some, bd1_some]
      by_cases y : o = cI (-1)
      · rw [if_pos y, if_pos y]
        exact no _
      · rw [if_neg y, if_neg y]
        obtain ⟨pl, b1, b2, -⟩ := e_placeWith (c := o) R1
        rw [b1, b2, bd1_some, bd1_some]
        by_cases x : pl = cI (-1)
        · rw [if_pos x, if_pos x]
          exact no _
        · rw [if_neg x, if_neg x, l3, p2, if_pos j2, x2]
          show RdO s t (ltI (s.1 66 l) fun v6 => ltI (v6 + s.1 63 l) fun v7 => _) (ltI (t.1 577 l) fun v13 => _)
          rw [ltI_eq, k3, ltI_eq, k4, v12, ltI_eq, l7 l (by omega), ltI_eq, show cI (F (l + 1) : Int) - cI 1 = cI ((F (l + 1) - 1 : Nat) : Int) from q_sb (b := 1) (by omega) (by omega)]
          obtain ⟨u, u1, u2, u3, u4⟩ := lw_ok (x1 := cI (F (l + 1) : Int)) (x4 := pl) B (show l < l + 1 + 1 by omega) (F (l + 1) - 1 - F l) 1048576 1048576 (F (l + 1) - 1) (by omega) (by omega) (by omega) (by omega)
          have lw : fSheet_lastWordOf s (cI (F l : Int)) (cI (F (l + 1) : Int)) = some (cI (u : Int)) := by
            unfold fSheet_lastWordOf
            rw [ltI_eq, show cI (F (l + 1) : Int) - cI 1 = cI ((F (l + 1) - 1 : Nat) : Int) from q_sb (b := 1) (by omega) (by omega)]
            exact u3
          rw [lw, bd1_some, u4]
          by_cases g : u = F l
          · rw [if_pos (by rw [le_i, g]; exact Int.le_refl _), if_pos (by rw [g]), g]
            exact rd_tl (N := F (l + 2)) (by omega) (Nat.le_refl _) LL ⟨R1, R2, R3, R4⟩ h3 h4
          · rw [if_neg (by rw [le_i, q_ti (by omega), q_ti (by omega)]; omega), if_neg (by rw [eq_i, q_ti (by omega), q_ti (by omega)]; omega)]
            obtain ⟨o', o3, o4, -⟩ := nb_ok (k := 3) D (show u < F (l + 1) by omega) (by omega) (by decide)
            have o3' : fSheet_numberOf s (cI (u : Int)) (cI (F (l + 1) : Int)) (cI 3) = some o' := o3
            have o4' : fM_numberOf t (cI (u : Int)) (cI (F (l + 1) : Int)) (cI 3) = some o' := o4
            rw [o3', o4', bd1_some, bd1_some]
            exact rd_tl (N := F (l + 2)) (by omega) u1 LL ⟨R1, R2, R3, R4⟩ h3 h4
  obtain ⟨s', t', v, a1, a2, a3, a4, a5, a6⟩ := key
  rw [c9] at a4
  exact ⟨s', t', v, a1, a2, a3, a4, f1.tr a5, f2.tr a6⟩
