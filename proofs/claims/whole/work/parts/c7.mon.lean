/-! ===== LEVEL 3: money: the ledger, accounts and orders ===== -/
theorem bal_congr {f g h f' g' h' : Nat → Int32} {a : Int32} : ∀ n, (∀ j, j < n → f' j = f j ∧ g' j = g j ∧ h' j = h j) → bal f' g' h' a n = bal f g h a n
  | 0, _ => rfl
  | n + 1, e => by
    obtain ⟨e1, e2, e3⟩ := e n (by omega)
    simp only [bal, bal_congr n (fun j hj => e j (by omega)), e1, e2, e3]
theorem bal_up {f g h : Nat → Int32} {a x y z : Int32} {n : Nat} : bal (up1 f n x) (up1 g n y) (up1 h n z) a n = bal f g h a n := bal_congr n (fun j hj => ⟨up1_ne (by omega), up1_ne (by omega), up1_ne (by omega)⟩)
theorem bal_add {f g h : Nat → Int32} {a x y z : Int32} {n : Nat} : bal (up1 f n x) (up1 g n y) (up1 h n z) a (n + 1) = if x = a then (if y = a then bal f g h a n + z.toInt64 else bal f g h a n) - z.toInt64 else (if y = a then bal f g h a n + z.toInt64 else bal f g h a n) := by
  simp only [bal, bal_up, up1_eq]
theorem opn_congr {f f' : Nat → Int32} : ∀ n, (∀ j, j < n → f' j = f j) → opn f' n = opn f n
  | 0, _ => rfl
  | n + 1, e => by simp only [opn, opn_congr n (fun j hj => e j (by omega)), e n (by omega)]
theorem opn_le {f : Nat → Int32} : ∀ n, opn f n ≤ n
  | 0 => Nat.le_refl _
  | n + 1 => by
    have := opn_le (f := f) n
    simp only [opn]
    split <;> omega
theorem opn_set {f : Nat → Int32} {k : Nat} {x : Int32} (h : f k = 0) (hx : ¬ x = 0) : ∀ n, k < n → opn (up1 f k x) n + 1 = opn f n
  | 0, hk => by omega
  | n + 1, hk => by
    simp only [opn]
    by_cases e : n = k
    · subst e
      rw [up1_eq, if_neg hx, if_pos h, opn_congr n (fun j hj => up1_ne (by omega))]
    · rw [up1_ne e]
      have := opn_set h hx n (by omega)
      omega
theorem isum_congr {f f' : Nat → Int64} : ∀ n, (∀ j, j < n → f' j = f j) → isum f' n = isum f n
  | 0, _ => rfl
  | n + 1, e => by simp only [isum, isum_congr n (fun j hj => e j (by omega)), e n (by omega)]
theorem isum_set {f f' : Nat → Int64} {k : Nat} (h : ∀ j, j ≠ k → f' j = f j) : ∀ n, k < n → isum f' n = isum f n - (f k).toInt + (f' k).toInt
  | 0, hk => by omega
  | n + 1, hk => by
    simp only [isum]
    by_cases e : n = k
    · subst e
      rw [isum_congr n (fun j hj => h j (by omega))]
      omega
    · rw [h n e, isum_set h n (by omega)]
      omega
theorem addL_toInt {x y : Int64} (h1 : -9223372036854775808 ≤ x.toInt + y.toInt) (h2 : x.toInt + y.toInt < 9223372036854775808) : (x + y).toInt = x.toInt + y.toInt := by
  rw [Int64.toInt_add]
  exact Int.bmod_eq_of_le (by omega) (by omega)
theorem subL_toInt {x y : Int64} (h1 : -9223372036854775808 ≤ x.toInt - y.toInt) (h2 : x.toInt - y.toInt < 9223372036854775808) : (x - y).toInt = x.toInt - y.toInt := by
  rw [Int64.toInt_sub]
  exact Int.bmod_eq_of_le (by omega) (by omega)
theorem toL_toInt (x : Int32) : x.toInt64.toInt = x.toInt := Int32.toInt_toInt64 x
section
variable {s t : ev_M}
theorem bal_lp {a : Int32} : ∀ (r n : Nat) (j : Int32), 0 ≤ j.toInt → j.toInt + r = (s.1 549 114).toInt → (s.1 549 114).toInt ≤ 2000 → r < n → fM_balanceOf_h5 s n a (bal (s.1 628) (s.1 629) (s.1 630) a (ix j)) j = some (bal (s.1 628) (s.1 629) (s.1 630) a (ix (s.1 549 114)))
  | 0, n, j, h0, h1, h2, hn => by
    obtain ⟨n, rfl⟩ : ∃ k, n = k + 1 := ⟨n - 1, by omega⟩
    have e : ix j = ix (s.1 549 114) := by rw [ix_toNat, ix_toNat]; omega
    unfold fM_balanceOf_h5
    rw [if_neg (show ¬ j < s.1 549 114 by rw [lt_i]; omega), e]
  | r + 1, n, j, h0, h1, h2, hn => by
    obtain ⟨n, rfl⟩ : ∃ k, n = k + 1 := ⟨n - 1, by omega⟩
    have hi : inb j 2000 = true := inb_iff.mpr ⟨h0, by omega⟩
    have ei : ix (j + cI 1) = ix j + 1 := ix_inc h0 (by omega)
    have et : (j + cI 1).toInt = j.toInt + 1 := inc_i (by omega)
    have ih := bal_lp (a := a) r n (j + cI 1) (by omega) (by omega) h2 (by omega)
    rw [ei] at ih
    simp only [bal] at ih
    unfold fM_balanceOf_h5
    rw [if_pos (show j < s.1 549 114 by rw [lt_i]; omega), if_pos hi]
    by_cases g : s.1 629 (ix j) = a
    · rw [if_pos g, if_pos hi]
      unfold fM_balanceOf_b39 fM_balanceOf_b65
      rw [if_pos hi]
      simp only [if_pos g] at ih
      by_cases f : s.1 628 (ix j) = a
      · rw [if_pos f, if_pos hi]
        simp only [if_pos f] at ih
        exact ih
      · rw [if_neg f]
        simp only [if_neg f] at ih
        exact ih
    · rw [if_neg g]
      unfold fM_balanceOf_b39 fM_balanceOf_b65
      rw [if_pos hi]
      simp only [if_neg g] at ih
      by_cases f : s.1 628 (ix j) = a
      · rw [if_pos f, if_pos hi]
        simp only [if_pos f] at ih
        exact ih
      · rw [if_neg f]
        simp only [if_neg f] at ih
        exact ih
theorem e_balanceOf {a : Int32} (h0 : 0 ≤ (s.1 549 114).toInt) (h : (s.1 549 114).toInt ≤ 2000) : fM_balanceOf s a = some (bal (s.1 628) (s.1 629) (s.1 630) a (ix (s.1 549 114))) :=
  bal_lp (a := a) (ix (s.1 549 114)) 1048576 (cI 0) (by decide) (by rw [ix_toNat, show (cI 0).toInt = 0 from rfl]; omega) h (by rw [ix_toNat]; omega)
theorem opn_lp : ∀ (r n : Nat) (x j : Int32), 0 ≤ j.toInt → j.toInt + r = (s.1 549 119).toInt → (s.1 549 119).toInt ≤ 60 → x.toInt = opn (s.1 632) (ix j) → r < n → ∃ y, fM_openOrders_h4 s n x j = some y ∧ y.toInt = opn (s.1 632) (ix (s.1 549 119))
  | 0, n, x, j, h0, h1, h2, hx, hn => by
    obtain ⟨n, rfl⟩ : ∃ k, n = k + 1 := ⟨n - 1, by omega⟩
    have e : ix j = ix (s.1 549 119) := by rw [ix_toNat, ix_toNat]; omega
    refine ⟨x, ?_, by rw [hx, e]⟩
    unfold fM_openOrders_h4
    rw [if_neg (show ¬ j < s.1 549 119 by rw [lt_i]; omega)]
  | r + 1, n, x, j, h0, h1, h2, hx, hn => by
    obtain ⟨n, rfl⟩ : ∃ k, n = k + 1 := ⟨n - 1, by omega⟩
    have hi : inb j 60 = true := inb_iff.mpr ⟨h0, by omega⟩
    have ei : ix (j + cI 1) = ix j + 1 := ix_inc h0 (by omega)
    have et : (j + cI 1).toInt = j.toInt + 1 := inc_i (by omega)
    have hl := opn_le (f := s.1 632) (ix j)
    have hj : ix j ≤ 60 := by rw [ix_toNat]; omega
    unfold fM_openOrders_h4 fM_openOrders_b28
    rw [if_pos (show j < s.1 549 119 by rw [lt_i]; omega), if_pos hi]
    by_cases g : s.1 632 (ix j) = 0
    · rw [if_pos g]
      refine opn_lp r n _ _ (by omega) (by omega) h2 ?_ (by omega)
      rw [ei, inc_i (by omega), hx]
      simp only [opn, if_pos g]
      omega
    · rw [if_neg g]
      refine opn_lp r n _ _ (by omega) (by omega) h2 ?_ (by omega)
      rw [ei, hx]
      simp only [opn, if_neg g]
      omega
theorem e_openOrders (h0 : 0 ≤ (s.1 549 119).toInt) (h : (s.1 549 119).toInt ≤ 60) : ∃ y, fM_openOrders s = some y ∧ y.toInt = opn (s.1 632) (ix (s.1 549 119)) :=
  opn_lp (ix (s.1 549 119)) 1048576 (cI 0) (cI 0) (by decide) (by rw [ix_toNat, show (cI 0).toInt = 0 from rfl]; omega) h rfl (by rw [ix_toNat]; omega)
/-- an account's balance, class and reference -/
theorem RLg.bal {k : Int32} (h : RLg s t) (h0 : 0 ≤ k.toInt) (h1 : k.toInt < 34) : fM_balanceOf t k = some (s.2.1 80 (ix k)) := by
  obtain ⟨⟨n1, n2, n3⟩, -, -, -, -, b, -⟩ := h
  have e : cI ((ix k : Nat) : Int) = k := by
    rw [eq_i, cI_toInt (by omega) (by rw [ix_toNat]; omega), ix_toNat]
    omega
  rw [e_balanceOf (by rw [n1]; exact n2) (by rw [n1]; exact n3), n1, b (ix k) (by rw [ix_toNat]; omega), e]
end
section
variable {s t : ev_M} {F : Bool} {A : Nat → Nat → Int32}
theorem a_account {a : Int32} (hA : AdmC s F A) (hM : FulM t F) (h0 : t.1 549 15 = 0) (h : RCu s t) (hp : RPo s t) : Ok (fMoney_openAccount s a) fun x => Ok (fM_doAccount t a) fun y => AP (fun s' t' => RCu s' t' ∧ s' = s) (fun s' t' => RCu s' t' ∧ s'.1 78 3 = s.1 78 3 + cI 1 ∧ (s.1 78 3).toInt < 30) F A s x y := by
  obtain ⟨⟨n1, n2, n3⟩, g1, g2, g3, b1, b2⟩ := id h
  obtain ⟨⟨p1, p2, -⟩, -⟩ := id hp
  have hn : (fun s' t' => RCu s' t' ∧ s' = s) s (wI t 549 15 (cI 1)) := ⟨h.keep rf_fr no_fr rfl rfl, rfl⟩
  by_cases h1 : Has a (s.1 30 9)
  rotate_left
  · exact sim_no (c := cI (-101)) (by simp only [fMoney_openAccount, fM_doAccount_b31, fM_doAccount, e_hasPoint p2, e_isPoint (by rw [p1]; exact p2), p1, n1, ltM_eq, ltI_eq, ltL_eq, bd1_some, bd2_some, ite_bI, if_true, if_false, ite_true, ite_false, eq_self, not_true_eq_false, not_false_eq_true, i10, outside_eq, in_eq, no_eq, eq_false h1]) (by simp only [fMoney_openAccount, fM_doAccount_b31, fM_doAccount, e_hasPoint p2, e_isPoint (by rw [p1]; exact p2), p1, n1, ltM_eq, ltI_eq, ltL_eq, bd1_some, bd2_some, ite_bI, if_true, if_false, ite_true, ite_false, eq_self, not_true_eq_false, not_false_eq_true, i10, outside_eq, in_eq, no_eq, eq_false h1]) hn
  by_cases h2 : (s.1 78 3) < cI 30
  rotate_left
  · have h29 : (s.1 78 3) = cI 30 := cap_eq h2 (n3)
    exact sim_no (c := cI (-104)) (by simp only [fMoney_openAccount, fM_doAccount_b31, fM_doAccount, e_hasPoint p2, e_isPoint (by rw [p1]; exact p2), p1, n1, ltM_eq, ltI_eq, ltL_eq, bd1_some, bd2_some, ite_bI, if_true, if_false, ite_true, ite_false, eq_self, not_true_eq_false, not_false_eq_true, i10, outside_eq, in_eq, no_eq, eq_true h1, eq_false h2, eq_true h29]) (by simp only [fMoney_openAccount, fM_doAccount_b31, fM_doAccount, e_hasPoint p2, e_isPoint (by rw [p1]; exact p2), p1, n1, ltM_eq, ltI_eq, ltL_eq, bd1_some, bd2_some, ite_bI, if_true, if_false, ite_true, ite_false, eq_self, not_true_eq_false, not_false_eq_true, i10, outside_eq, in_eq, no_eq, eq_true h1, eq_false h2, eq_true h29]) hn
  have h29 : ¬ (s.1 78 3) = cI 30 := cap_ne h2
  by_cases hF : F = true
  · subst hF
    exact sim_no (c := cI (-104)) (by simp only [fMoney_openAccount, fM_doAccount_b31, fM_doAccount, e_hasPoint p2, e_isPoint (by rw [p1]; exact p2), p1, n1, ltM_eq, ltI_eq, ltL_eq, bd1_some, bd2_some, ite_bI, if_true, if_false, ite_true, ite_false, eq_self, not_true_eq_false, not_false_eq_true, i10, outside_eq, in_eq, no_eq, eq_true h1, eq_true h2, eq_false h29, hA.no, hM.no]) (by simp only [fMoney_openAccount, fM_doAccount_b31, fM_doAccount, e_hasPoint p2, e_isPoint (by rw [p1]; exact p2), p1, n1, ltM_eq, ltI_eq, ltL_eq, bd1_some, bd2_some, ite_bI, if_true, if_false, ite_true, ite_false, eq_self, not_true_eq_false, not_false_eq_true, i10, outside_eq, in_eq, no_eq, eq_true h1, eq_true h2, eq_false h29, hA.no, hM.no]) hn
  obtain rfl : F = false := by simpa using hF
  have hk : (s.1 78 3).toInt < 30 := lt_n h2
  have e : (s.1 78 3 + cI 1).toInt = (s.1 78 3).toInt + 1 := inc_i (by omega)
  have ei : ix (s.1 78 3 + cI 1) = ix (s.1 78 3) + 1 := ix_inc n2 (by omega)
  have e4 : (cI 4 + s.1 78 3).toInt = 4 + (s.1 78 3).toInt := add_toInt (by rw [show (cI 4).toInt = 4 from rfl]; omega) (by rw [show (cI 4).toInt = 4 from rfl]; omega)
  have e4i : ix (cI 4 + s.1 78 3) = ix (s.1 78 3) + 4 := by rw [ix_toNat, ix_toNat, e4]; omega
  have hb : inb (s.1 78 3) 30 = true := inb_iff.mpr ⟨n2, by omega⟩
  have hb4 : inb (cI 4 + s.1 78 3) 34 = true := inb_iff.mpr ⟨by omega, by omega⟩
  simp (maxSteps := 2000000) (disch := decide) only [fMoney_openAccount, fM_doAccount_b31, fM_doAccount, e_hasPoint p2, e_isPoint (by rw [p1]; exact p2), p1, n1, ltM_eq, ltI_eq, ltL_eq, bd1_some, bd2_some, ite_bI, if_true, if_false, ite_true, ite_false, eq_self, not_true_eq_false, not_false_eq_true, i10, outside_eq, in_eq, no_eq, eq_true h1, eq_true h2, eq_false h29, hb, hb4, hA.yes, hM.yes, ix_0, ix_1, ix_2, ix_3, ix_4, ix_5, ix_6, ix_7, ix_8, ix_9, ix_10, ix_11, ix_12, ix_13, ix_14, ix_15, ix_16, ix_17, ix_18, ix_19, ix_20, ix_21, Nat.reduceAdd, wI_c, wI_ne, wL_1, lupd_ne, up1_eq, up1_ne, n1, ok_some]
  have a1 := h1.1
  have a2 := h1.2
  refine ⟨?_, Or.inr ⟨?_, rfl, ?_, ?_, ?_, hk⟩⟩
  · rw [← Int32.add_assoc, Int32.add_sub_cancel]
  · simp (disch := decide) only [ix_0, ix_1, ix_2, ix_3, ix_4, ix_5, ix_6, ix_7, ix_8, Nat.reduceAdd, wI_c, wI_ne, wL_1, lupd_ne, up1_eq, up1_ne]; exact h0
  · exact (lgS.rf.wI (by decide) (by decide)).wI (by decide) (by decide)
  · unfold RCu
    simp (disch := decide) only [ix_0, ix_1, ix_2, ix_3, ix_4, ix_5, ix_6, ix_7, ix_8, Nat.reduceAdd, wI_c, wI_ne, wL_1, lupd_ne, up1_eq, up1_ne, e4i]
    have z : s.1 28 (ix (s.1 78 3) + 4) = 0 := g3 _ (Nat.le_refl _) (by rw [ix_toNat]; omega)
    refine ⟨⟨trivial, by omega, by omega⟩, fun i hi => ?_, fun i hi => ?_, fun i hi hi2 => ?_, fun i hi => ?_, b2⟩
    · by_cases q : i = ix (s.1 78 3)
      · simp only [q, up1_eq]
      · rw [up1_ne q, up1_ne (by omega)]
        exact g1 i (by omega)
    · by_cases q : i = ix (s.1 78 3)
      · simp only [q, up1_eq, z]
        rfl
      · rw [up1_ne q]
        exact g2 i (by omega)
    · exact g3 i (by omega) hi2
    · by_cases q : i = ix (s.1 78 3)
      · simp only [q, up1_eq]
        exact ⟨a1, a2⟩
      · rw [up1_ne (by omega)]
        exact b1 i (by omega)
  · simp (disch := decide) only [ix_0, ix_1, ix_2, ix_3, ix_4, ix_5, ix_6, ix_7, ix_8, Nat.reduceAdd, wI_c, wI_ne, wL_1, lupd_ne, up1_eq, up1_ne]
end
section
variable {s t : ev_M}
theorem cI_ix {k : Int32} (h0 : 0 ≤ k.toInt) : cI ((ix k : Nat) : Int) = k := by
  have := Int32.toInt_lt k
  rw [eq_i, cI_toInt (by omega) (by rw [ix_toNat]; omega), ix_toNat]
  omega
theorem cI_eq {k : Int32} {j : Nat} (h0 : 0 ≤ k.toInt) (hj : j < 34) : k = cI (j : Int) ↔ j = ix k := by
  rw [eq_i, cI_toInt (by omega) (by omega), ix_toNat]
  omega
/-- one booking, class and reference -/
theorem RLg.pay {f g c i : Int32} (h : RLg s t) (hl : (s.1 78 6).toInt < 2000) (f0 : 0 ≤ f.toInt) (g0 : 0 ≤ g.toInt) (f1 : f.toInt < 34) (g1 : g.toInt < 34) (c1 : 1 ≤ c.toInt) (c2 : c.toInt ≤ 1000000) (hf : 4 ≤ f.toInt → c.toInt ≤ (s.2.1 80 (ix f)).toInt) (of : f.toInt < 4 + (s.1 78 3).toInt) (og : g.toInt < 4 + (s.1 78 3).toInt) (hfg : ¬ f = g) (o0 : 0 ≤ (s.1 78 3).toInt) :
    ∃ s' t', fMoney_transfer s f g c i = some s' ∧ fM_pay t f g c i = some t' ∧ RLg s' t' ∧ s'.1 78 6 = s.1 78 6 + cI 1 ∧ t'.1 549 114 = s.1 78 6 + cI 1 ∧ s'.2.1 80 (ix g) = s.2.1 80 (ix g) + c.toInt64 := by
  obtain ⟨⟨n1, n2, n3⟩, a1, a2, a3, a4, b1, b2, b3, b4, b5⟩ := h
  have hn : inb (s.1 78 6) 2000 = true := inb_iff.mpr ⟨n2, hl⟩
  have e : (s.1 78 6 + cI 1).toInt = (s.1 78 6).toInt + 1 := inc_i (by omega)
  have ei : ix (s.1 78 6 + cI 1) = ix (s.1 78 6) + 1 := ix_inc n2 (by omega)
  have hfi : inb f 34 = true := inb_iff.mpr ⟨f0, f1⟩
  have hgi : inb g 34 = true := inb_iff.mpr ⟨g0, g1⟩
  have c0 : ¬ c = 0 := fun q => by rw [q] at c1; exact absurd c1 (by decide)
  have cp : ¬ c ≤ 0 := by rw [le_i, i32_0]; omega
  have ne : ¬ ix g = ix f := fun q => hfg (by rw [eq_i]; rw [ix_toNat, ix_toNat] at q; omega)
  have fi : ix f < 34 := by rw [ix_toNat]; omega
  have gi : ix g < 34 := by rw [ix_toNat]; omega
  have hN : ix (s.1 78 6) < 2000 := by rw [ix_toNat]; omega
  have hc := toL_toInt c
  have ec : fMoney_transfer s f g c i = some (wI (wI (wI (wI (wI (wL (wL s 80 (ix f) (s.2.1 80 (ix f) - c.toInt64)) 80 (ix g) (s.2.1 80 (ix g) + c.toInt64)) 82 (ix (s.1 78 6)) f) 83 (ix (s.1 78 6)) g) 84 (ix (s.1 78 6)) c) 78 6 (s.1 78 6 + cI 1)) 85 (ix (s.1 78 6)) i) := by
    unfold fMoney_transfer
    have l : s.1 78 6 < cI 2000 := by rw [lt_i]; exact hl
    have w : (wL s 80 (ix f) (s.2.1 80 (ix f) - c.toInt64)).2.1 80 (ix g) = s.2.1 80 (ix g) := by rw [wL_c, if_pos rfl, if_neg ne]
    simp (disch := decide) only [if_neg c0, if_pos l, hfi, hgi, if_true, ltM_eq, w, ix_0, ix_1, ix_2, ix_3, ix_4, ix_5, ix_6, ix_7, ix_8, Nat.reduceAdd, wI_c, wI_ne, wL_1, lupd_ne, up1_eq, up1_ne, hn]
  have em : fM_pay t f g c i = some (wI (wI (wI (wI (wI t 628 (ix (s.1 78 6)) f) 629 (ix (s.1 78 6)) g) 630 (ix (s.1 78 6)) c) 631 (ix (s.1 78 6)) i) 549 114 (s.1 78 6 + cI 1)) := by
    unfold fM_pay
    simp (disch := decide) only [if_neg cp, ltM_eq, ix_0, ix_1, ix_2, ix_3, ix_4, ix_5, ix_6, ix_7, ix_8, Nat.reduceAdd, wI_c, wI_ne, wL_1, lupd_ne, up1_eq, up1_ne, n1, hn, if_true]
  have wk : ∀ k, (wI (wI (wI (wI (wI (wL (wL s 80 (ix f) (s.2.1 80 (ix f) - c.toInt64)) 80 (ix g) (s.2.1 80 (ix g) + c.toInt64)) 82 (ix (s.1 78 6)) f) 83 (ix (s.1 78 6)) g) 84 (ix (s.1 78 6)) c) 78 6 (s.1 78 6 + cI 1)) 85 (ix (s.1 78 6)) i).2.1 80 k = if k = ix g then s.2.1 80 (ix g) + c.toInt64 else if k = ix f then s.2.1 80 (ix f) - c.toInt64 else s.2.1 80 k := fun k => by
    show (wL (wL s 80 (ix f) (s.2.1 80 (ix f) - c.toInt64)) 80 (ix g) (s.2.1 80 (ix g) + c.toInt64)).2.1 80 k = _
    rw [wL_c, if_pos rfl, wL_c, if_pos rfl]
  have bf := b2 (ix f) fi
  have bg := b2 (ix g) gi
  have hF : (s.2.1 80 (ix f) - c.toInt64).toInt = (s.2.1 80 (ix f)).toInt - c.toInt := by rw [subL_toInt (by rw [hc]; omega) (by rw [hc]; omega), hc]
  have hG : (s.2.1 80 (ix g) + c.toInt64).toInt = (s.2.1 80 (ix g)).toInt + c.toInt := by rw [addL_toInt (by rw [hc]; omega) (by rw [hc]; omega), hc]
  refine ⟨_, _, ec, em, ?_, by simp (disch := decide) only [ix_0, ix_1, ix_2, ix_3, ix_4, ix_5, ix_6, ix_7, ix_8, Nat.reduceAdd, wI_c, wI_ne, wL_1, lupd_ne, up1_eq, up1_ne], by simp (disch := decide) only [ix_0, ix_1, ix_2, ix_3, ix_4, ix_5, ix_6, ix_7, ix_8, Nat.reduceAdd, wI_c, wI_ne, wL_1, lupd_ne, up1_eq, up1_ne], by rw [wk, if_pos rfl]⟩
  have eis : ((ix (s.1 78 6) + 1 : Nat) : Int) = (ix (s.1 78 6) : Int) + 1 := by omega
  unfold RLg
  simp (disch := decide) only [wk, ix_0, ix_1, ix_2, ix_3, ix_4, ix_5, ix_6, ix_7, ix_8, Nat.reduceAdd, wI_c, wI_ne, wL_1, lupd_ne, up1_eq, up1_ne, ei, eis]
  refine ⟨⟨trivial, by omega, by omega⟩, a1.ext rfl rfl, a2.ext rfl rfl, a3.ext rfl rfl, a4.ext rfl rfl, fun k hk => ?_, fun k hk => ?_, ?_, fun k h4 hk => ?_, fun k h4 hk => ?_⟩
  · rw [bal_add, ← b1 k hk]
    have q1 := cI_eq (k := f) f0 hk
    have q2 := cI_eq (k := g) g0 hk
    by_cases x1 : k = ix g
    · have x2 : ¬ k = ix f := fun q => ne (x1.symm.trans q)
      rw [if_pos x1, if_neg (fun q => x2 (q1.mp q)), if_pos (q2.mpr x1), x1]
    · by_cases x2 : k = ix f
      · rw [if_neg x1, if_pos x2, if_pos (q1.mpr x2), if_neg (fun q => x1 (q2.mp q)), x2]
      · rw [if_neg x1, if_neg x2, if_neg (fun q => x2 (q1.mp q)), if_neg (fun q => x1 (q2.mp q))]
  · have := b2 k hk
    by_cases x1 : k = ix g
    · rw [if_pos x1, hG]; omega
    · by_cases x2 : k = ix f
      · rw [if_neg x1, if_pos x2, hF]; omega
      · rw [if_neg x1, if_neg x2]; omega
  · have r1 := isum_set (f := s.2.1 80) (f' := fun k => if k = ix f then s.2.1 80 (ix f) - c.toInt64 else s.2.1 80 k) (k := ix f) (fun j hj => if_neg hj) 34 fi
    have r2 := isum_set (f := fun k => if k = ix f then s.2.1 80 (ix f) - c.toInt64 else s.2.1 80 k) (f' := fun k => if k = ix g then s.2.1 80 (ix g) + c.toInt64 else if k = ix f then s.2.1 80 (ix f) - c.toInt64 else s.2.1 80 k) (k := ix g) (fun j hj => if_neg hj) 34 gi
    simp only [if_true, if_neg ne, hF, hG] at r1 r2
    rw [show (wI (wI (wI (wI (wI (wL (wL s 80 (ix f) (s.2.1 80 (ix f) - c.toInt64)) 80 (ix g) (s.2.1 80 (ix g) + c.toInt64)) 82 (ix (s.1 78 6)) f) 83 (ix (s.1 78 6)) g) 84 (ix (s.1 78 6)) c) 78 6 (s.1 78 6 + cI 1)) 85 (ix (s.1 78 6)) i).2.1 80 = fun k => if k = ix g then s.2.1 80 (ix g) + c.toInt64 else if k = ix f then s.2.1 80 (ix f) - c.toInt64 else s.2.1 80 k from funext wk]
    omega
  · have := b4 k h4 hk
    by_cases x1 : k = ix g
    · rw [if_pos x1, hG]; rw [x1] at this; omega
    · by_cases x2 : k = ix f
      · rw [if_neg x1, if_pos x2, hF]
        have := hf (by rw [x2, ix_toNat] at h4; omega)
        omega
      · rw [if_neg x1, if_neg x2]; exact this
  · have x1 : ¬ k = ix g := fun q => by rw [q, ix_toNat, ix_toNat] at h4; omega
    have x2 : ¬ k = ix f := fun q => by rw [q, ix_toNat, ix_toNat] at h4; omega
    rw [if_neg x1, if_neg x2]
    exact b5 k h4 hk
end
