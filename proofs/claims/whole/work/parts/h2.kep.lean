/-! ===== LEVEL 3: the sorting machine: what did not stray comes to its row ===== -/
def FksC : List (Nat × (Nat × Nat)) := [(175, 175, 0), (144, 144, 0), (160, 171, 0)] ++ F_Items_come
def FksM : List (Nat × (Nat × Nat)) := [(595, 595, 0), (549, 549, 24), (596, 596, 0)] ++ (F_M_leaves ++ F_M_comes)
theorem ks_lp {a : Int32} {F : List Nat} : ∀ (r m m' n k : Nat) (s t : ev_M) (j y : Int32), k + r = F.length → j.toInt = (k : Int) → r < m → r < m' → n + r < 2147483646 → RFd F s t → RV n s t → RCu s t → RTim s t → RBg s t → RLk s t → Has a (s.1 138 3) → (s.1 138 3).toInt ≤ 12 → (∀ q (h : q < F.length), k ≤ q → s.1 102 F[q] = cI 1 ∧ ¬ s.1 109 F[q] = cI (-1) ∧ F[q] < ix (s.1 100 5)) → y = s.1 144 (ix a) → ∃ s' t', fRounds_keepSorted_h2 m s a j = fRounds_keepSorted_h82 1048576 (wI s' 138 10 (cI 0)) (cI 0) ∧ fM_doSort_h130 m' t a y j = some (t', s'.1 144 (ix a)) ∧ RFd F s' t' ∧ RV (n + r) s' t' ∧ fr FksC s s' ∧ fr FksM t t'
  | 0, m, m', n, k, s, t, j, y, h0, h1, hm, hm', hn, hF, hV, hcu, ht, hg, hl, ha, h12, hx, hy => by
    obtain ⟨m, rfl⟩ : ∃ k, m = k + 1 := ⟨m - 1, by omega⟩
    obtain ⟨m', rfl⟩ : ∃ k, m' = k + 1 := ⟨m' - 1, by omega⟩
    obtain ⟨f1, f2, f3, f4, f5, f6, f7⟩ := id hF
    have hj : ¬ j < s.1 138 12 := by rw [lt_i]; omega
    refine ⟨s, t, ?_, ?_, hF, hV, fr.rf, fr.rf⟩
    · rw [fRounds_keepSorted_h2, if_neg hj, ltM_eq]
    · rw [fM_doSort_h130, f4, if_neg hj, hy]
  | r + 1, m, m', n, k, s, t, j, y, h0, h1, hm, hm', hn, hF, hV, hcu, ht, hg, hl, ha, h12, hx, hy => by
    obtain ⟨m, rfl⟩ : ∃ k, m = k + 1 := ⟨m - 1, by omega⟩
    obtain ⟨m', rfl⟩ : ∃ k, m' = k + 1 := ⟨m' - 1, by omega⟩
    have l300 := hF.len
    obtain ⟨f1, f2, f3, f4, f5, f6, f7⟩ := id hF
    obtain ⟨⟨n1, n2, n3⟩, -⟩ := id hV.1.1
    have hj : j < s.1 138 12 := by rw [lt_i]; omega
    have hi : inb j 300 = true := inb_iff.mpr ⟨by omega, by omega⟩
    have et : (j + cI 1).toInt = ((k + 1 : Nat) : Int) := by rw [inc_i (by omega)]; omega
    have ej : ix j = k := by rw [ix_toNat]; omega
    have kl : k < F.length := by omega
    have hc : inb a 12 = true := ha.inb h12
    have a12 : ix a < 12 := by have := ha.1; have := ha.2; rw [ix_toNat]; omega
    obtain ⟨e1, e2⟩ := f5 k kl
    have xm : F[k] ∈ F := List.getElem_mem kl
    have x3 := f2 _ xm
    have hb : inb (cI ((F[k] : Nat) : Int)) 300 = true := inb_iff.mpr ⟨by rw [cI_toInt (by omega) (by omega)]; omega, by rw [cI_toInt (by omega) (by omega)]; omega⟩
    have xi : ix (cI ((F[k] : Nat) : Int)) = F[k] := ix_n _ (by omega)
    obtain ⟨-, g2, g3⟩ := f6 _ xm
    obtain ⟨b1, b2, b3⟩ := hx k kl (Nat.le_refl _)
    have w175 : fr [(175, 175, 0)] s (wI s 175 k (cI ((F[k] : Nat) : Int))) := fr.rf.wI rfl
    have u144 : (wI s 175 k (cI ((F[k] : Nat) : Int))).1 144 = s.1 144 := wI_ne (by decide)
    have u179 : (wI s 175 k (cI ((F[k] : Nat) : Int))).1 179 = s.1 179 := wI_ne (by decide)
    rcases g3 with w | w
    rotate_left
    · -- it strayed
      have t610 : ¬ t.1 610 F[k] = 0 := by rw [g2, w]; decide
      have u138 : (wI s 175 k (cI ((F[k] : Nat) : Int))).1 138 = s.1 138 := wI_ne (by decide)
      have u102 : (wI s 175 k (cI ((F[k] : Nat) : Int))).1 102 = s.1 102 := wI_ne (by decide)
      have u109 : (wI s 175 k (cI ((F[k] : Nat) : Int))).1 109 = s.1 109 := wI_ne (by decide)
      have u100 : (wI s 175 k (cI ((F[k] : Nat) : Int))).1 100 = s.1 100 := wI_ne (by decide)
      obtain ⟨s', t', q1, q2, q3, q4, q5, q6⟩ := ks_lp (a := a) (F := F) r m m' n (k + 1) (wI s 175 k (cI ((F[k] : Nat) : Int))) t (j + cI 1) y (by omega) et (by omega) (by omega) (by omega) (hF.keep w175 (rf_fr (s := t)) rfl rfl) (hV.kp w175 rf_fr (by decide +kernel) (by decide +kernel)) (hcu.keep w175 rf_fr rfl rfl) (ht.keep w175 rf_fr rfl rfl) (hg.keep w175 rf_fr rfl rfl) (hl.keep w175 rf_fr rfl rfl) (by rw [u138]; exact ha) (by rw [u138]; exact h12) (fun q h hq => by rw [u102, u109, u100]; exact hx q h (by omega)) (by rw [u144]; exact hy)
      have en : n + r ≤ n + (r + 1) := by omega
      refine ⟨s', t', ?_, ?_, q3, q4.mono en, (w175.mono (by decide +kernel)).tr q5, q6⟩
      · rw [fRounds_keepSorted_h2, if_pos hj, if_pos hi, ltI_eq, if_pos hi, ltM_eq, ej, e1, if_pos hb, ix_2, xi, u179, if_pos w, fRounds_keepSorted_b69]
        exact q1
      · rw [fM_doSort_h130, f4, if_pos hj, if_pos hi, ltI_eq, ej, e2, if_pos hb, xi, if_neg t610, fM_doSort_b203]
        exact q2
    · -- it comes to its row
      have w1 : ¬ s.1 179 F[k] = cI 1 := by rw [w]; decide
      have t610 : t.1 610 F[k] = 0 := by rw [g2, w]; rfl
      have hI : Has (cI ((F[k] : Nat) : Int)) (s.1 100 5) := by
        rw [ix_toNat] at b3
        exact ⟨by rw [cI_toInt (by omega) (by omega)]; omega, by rw [cI_toInt (by omega) (by omega)]; omega⟩
      have sx := hV.1.2.2.2 F[k] b3
      have t593 := sx.1 (by rw [b1]; decide)
      have t595 := sx.2.1 (by rw [b1]; decide)
      have t597 := (sx.2.2.1 (by rw [b1]; decide)).2
      obtain ⟨l, l1, l2, l3⟩ := hV.2.2.1.2 (ix a) ha.ix
      have lk : F[k] ∉ l := fun z => by
        have := ((l3 _).mp z).2
        rw [t595] at this
        exact neg1_ne (by omega) this
      have ll : l.length < 300 := by
        have := nodup_le (l := F[k] :: l) (n := 300) (List.nodup_cons.mpr ⟨lk, lt_nodup l2⟩) (fun z hz => by
          rcases List.mem_cons.mp hz with q | q
          · rw [q]; exact x3
          · have := ((l3 z).mp q).1
            rw [ix_toNat] at this
            omega)
        simp at this
        omega
      have sz := l1.1
      have hd : inb (s.1 144 (ix a)) 300 = true := inb_iff.mpr ⟨by omega, by omega⟩
      have fS : fr [(175, 175, 0), (144, 144, 0), (160, 171, 0)] s (wI (wI (wI s 175 k (cI ((F[k] : Nat) : Int))) 144 (ix a) (s.1 144 (ix a) + cI 1)) (160 + ix a) (ix (s.1 144 (ix a))) (cI ((F[k] : Nat) : Int))) := ((fr.rf.wI rfl).wI rfl).wI (inF_row (lo := 160) (hi := 171) rfl (Nat.le_add_right _ _) (by omega))
      have c100 := (nof_c fS (L := [(100, 0)]) (by decide +kernel) (c := 100) rfl).1
      have c109 := (nof_c fS (L := [(109, 0)]) (by decide +kernel) (c := 109) rfl).1
      have c102 := (nof_c fS (L := [(102, 0)]) (by decide +kernel) (c := 102) rfl).1
      have c449 := (nof_c fS (L := [(449, 0)]) (by decide +kernel) (c := 449) rfl).1
      have c125 := (nof_c fS (L := [(125, 0)]) (by decide +kernel) (c := 125) rfl).1
      have c138 := (nof_c fS (L := [(138, 0)]) (by decide +kernel) (c := 138) rfl).1
      obtain ⟨s1, t1, v1, v2, v3, v4, v5, v6, v7⟩ := go_s (fun u => by rw [u] at ha; exact absurd ha.1 (by decide)) (n := n) (s := wI (wI (wI s 175 k (cI ((F[k] : Nat) : Int))) 144 (ix a) (s.1 144 (ix a) + cI 1)) (160 + ix a) (ix (s.1 144 (ix a))) (cI ((F[k] : Nat) : Int))) (t := t) (i := cI ((F[k] : Nat) : Int)) (x := a) (hV.1.keep fS rf_fr (by decide +kernel) (by decide +kernel)) (hV.2.1.keep fS rf_fr (by decide +kernel) (by decide +kernel)) (hcu.keep fS rf_fr (by decide +kernel) (by decide +kernel)) (ht.keep fS rf_fr (by decide +kernel) (by decide +kernel)) (by omega) (by rw [c100]; exact hI) (by rw [c109, xi]; exact b2) (by rw [c449]; exact hg.1.2.1) (by rw [c125]; exact hl.1.2.1)
      rw [xi] at v2 v6 v7
      have f3w : fr [(595, 595, 0), (549, 549, 24), (596, 596, 0)] (lvS t F[k]) (wI (wI (wI (lvS t F[k]) 595 F[k] a) 549 23 (t.1 549 23 + cI 1)) 596 F[k] (t.1 549 23 + cI 1)) := ((fr.rf.wI rfl).wI rfl).wI rfl
      have fT : fr FksM t t1 := (lvS_fr.mono (by decide +kernel)).tr ((f3w.mono (by decide +kernel)).tr (v6.mono (by decide +kernel)))
      have fC : fr FksC s s1 := (fS.mono (by decide +kernel)).tr (v5.mono (by decide +kernel))
      have fT2 : fr ([(595, 595, 0), (549, 549, 24), (596, 596, 0)] ++ F_M_comes) (lvS t F[k]) t1 := (f3w.mono (by decide +kernel)).tr (v6.mono (by decide +kernel))
      have x144 : s1.1 144 = up1 (s.1 144) (ix a) (s.1 144 (ix a) + cI 1) := by
        rw [(nof_c v5 (L := [(144, 0)]) (by decide +kernel) (c := 144) rfl).1, wI_ne (by omega), wI_c, wI_ne (by decide)]
      have x138 : s1.1 138 = s.1 138 := ((nof_c v5 (L := [(138, 0)]) (by decide +kernel) (c := 138) rfl).1).trans c138
      have x100 : s1.1 100 5 = s.1 100 5 := by rw [(v5.1 100 5 (by decide +kernel)).1, c100]
      have x109 : s1.1 109 = s.1 109 := ((nof_c v5 (L := [(109, 0)]) (by decide +kernel) (c := 109) rfl).1).trans c109
      have m23 : (t.1 549 23 + cI 1).toInt = (t.1 549 23).toInt + 1 := inc_i (by have := hV.1.2.2.1.1.1.2; omega)
      have hRw : RRw s1 t1 := by
        refine RRw.put (x := a) (i := cI ((F[k] : Nat) : Int)) (m := t.1 549 23 + cI 1) hV.2.2.1 ha h12 hI n3 (by rw [xi]; exact t595) (by omega) (fun q hq hne => ?_) (by rw [x138]) x144 (fun q hq => ?_) x100 ?_ ?_
        · have := hV.1.2.2.1.2.2.2.2.2.2 q hq hne
          omega
        · rw [fr_ge v5 (N := 120) (by decide +kernel) (by omega)]
          by_cases z : q = ix a
          · rw [if_pos z, z, wI_c, wI_ne (by omega), wI_ne (by omega)]
          · rw [if_neg z, wI_ne (by omega), wI_ne (by omega), wI_ne (by omega)]
        · rw [xi, (nof_c v6 (L := [(595, 0)]) (by decide +kernel) (c := 595) rfl).1]
          unfold lvS
          simp (disch := decide) only [ix_0, ix_1, ix_2, ix_3, ix_4, ix_5, ix_6, ix_7, ix_8, ix_9, ix_10, ix_11, ix_12, ix_13, ix_14, ix_15, ix_16, ix_17, ix_18, ix_19, ix_20, ix_21, Nat.reduceAdd, wI_c, wI_ne, wL_1, lupd_ne, up1_eq, up1_ne, up1_up1]
        · rw [xi, (nof_c v6 (L := [(596, 0)]) (by decide +kernel) (c := 596) rfl).1]
          unfold lvS
          simp (disch := decide) only [ix_0, ix_1, ix_2, ix_3, ix_4, ix_5, ix_6, ix_7, ix_8, ix_9, ix_10, ix_11, ix_12, ix_13, ix_14, ix_15, ix_16, ix_17, ix_18, ix_19, ix_20, ix_21, Nat.reduceAdd, wI_c, wI_ne, wL_1, lupd_ne, up1_eq, up1_ne]
      have hBc : RBc s1 t1 := (hV.2.2.2.1.lv t593).keep fC fT2 (by decide +kernel) (by decide +kernel)
      have hBx : RBx s1 t1 := (hV.2.2.2.2.lv b3 t597).keep fC fT2 (by decide +kernel) (by decide +kernel)
      obtain ⟨s', t', q1, q2, q3, q4, q5, q6⟩ := ks_lp (a := a) (F := F) r m m' (n + 1) (k + 1) s1 t1 (j + cI 1) (y + cI 1) (by omega) et (by omega) (by omega) (by omega) (hF.keep fC fT (by decide +kernel) (by decide +kernel)) ⟨v3, v4, hRw, hBc, hBx⟩ (hcu.keep fC fT (by decide +kernel) (by decide +kernel)) (ht.keep fC fT (by decide +kernel) (by decide +kernel)) (hg.keep fC fT (by decide +kernel) (by decide +kernel)) (hl.keep fC fT (by decide +kernel) (by decide +kernel)) (by rw [x138]; exact ha) (by rw [x138]; exact h12) (fun q h hq => by
        have pg := List.pairwise_iff_getElem.mp f1
        have ne : F[q] ≠ F[k] := fun w => pg k q kl h (by omega) w.symm
        rw [v7, up1_ne ne, x109, x100, c102]
        exact hx q h (by omega)) (by rw [x144, up1_eq, hy])
      have en : n + 1 + r = n + (r + 1) := by omega
      rw [en] at q4
      refine ⟨s', t', ?_, ?_, q3, q4, fC.tr q5, fT.tr q6⟩
      · rw [fRounds_keepSorted_h2, if_pos hj, if_pos hi, ltI_eq, if_pos hi, ltM_eq, ej, e1, if_pos hb, ix_2, xi, u179, if_neg w1, if_pos hc, if_pos hc, if_pos hc, ix_4, ltM_eq, u144, if_pos hd, ltM_eq, v1, bd1_some, fRounds_keepSorted_b69]
        exact q1
      · have lv9 : (lvS t F[k]).1 549 = t.1 549 := lvS_ne (by decide)
        have e23 : (wI (lvS t F[k]) 595 F[k] a).1 549 23 = t.1 549 23 := by rw [wI_ne (by decide), lv9]
        rw [fM_doSort_h130, f4, if_pos hj, if_pos hi, ltI_eq, ej, e2, if_pos hb, xi, if_pos t610, e_leaves hb, bd1_some, if_pos hb, ltM_eq, xi, ltM_eq, e23, if_pos hb, ltM_eq, wI_c, up1_eq, v2, bd1_some, fM_doSort_b203]
        exact q2
