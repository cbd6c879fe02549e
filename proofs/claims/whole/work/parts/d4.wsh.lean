/-! ===== LEVEL 3: the act wish ===== -/
/-- bits of wishes: X the wishes, k the sort -/
def wishOk (x k : Nat) : Bool :=
  let X := cI (x : Int); let B := cI 1 <<< (cI (k : Int) &&& 31); let w := (X >>> (cI (k : Int) &&& 31)) &&& cI 1
  let dn := X &&& (B ^^^ cI (-1)); let up := X ||| B
  bif decide (w = cI 1) then decide (dn = X ^^^ B) && !decide (dn = X) && decide (up = X) && decide (0 ≤ dn.toInt ∧ dn.toInt ≤ 511)
  else decide (dn = X) && decide (up = X ^^^ B) && !decide (up = X) && decide (0 ≤ up.toInt ∧ up.toInt ≤ 511)
theorem wish_all : ((List.range 512).all fun x => (List.range 9).all fun k => wishOk x k) = true := by decide +kernel
theorem wish_at {X K : Int32} (h : 0 ≤ X.toInt ∧ X.toInt ≤ 511) (hk : InR K (cI 0) (cI 8)) : wishOk (ix X) (ix K) = true := by
  have k1 : 0 ≤ K.toInt := hk.1
  have k2 : K.toInt ≤ 8 := hk.2
  have h1 := List.all_eq_true.mp wish_all (ix X) (List.mem_range.mpr (by rw [ix_toNat]; omega))
  exact List.all_eq_true.mp h1 (ix K) (List.mem_range.mpr (by rw [ix_toNat]; omega))
theorem wish_b {X K : Int32} (h : 0 ≤ X.toInt ∧ X.toInt ≤ 511) (hk : InR K (cI 0) (cI 8)) : (((X >>> (K &&& 31)) &&& cI 1 = cI 1) ∧ X &&& ((cI 1 <<< (K &&& 31)) ^^^ cI (-1)) = X ^^^ (cI 1 <<< (K &&& 31)) ∧ ¬ X &&& ((cI 1 <<< (K &&& 31)) ^^^ cI (-1)) = X ∧ X ||| (cI 1 <<< (K &&& 31)) = X ∧ (0 ≤ (X &&& ((cI 1 <<< (K &&& 31)) ^^^ cI (-1))).toInt ∧ (X &&& ((cI 1 <<< (K &&& 31)) ^^^ cI (-1))).toInt ≤ 511)) ∨ ((¬ (X >>> (K &&& 31)) &&& cI 1 = cI 1) ∧ X &&& ((cI 1 <<< (K &&& 31)) ^^^ cI (-1)) = X ∧ X ||| (cI 1 <<< (K &&& 31)) = X ^^^ (cI 1 <<< (K &&& 31)) ∧ (¬ X ||| (cI 1 <<< (K &&& 31)) = X) ∧ (0 ≤ (X ||| (cI 1 <<< (K &&& 31))).toInt ∧ (X ||| (cI 1 <<< (K &&& 31))).toInt ≤ 511)) := by
  have q := wish_at h hk
  unfold wishOk at q
  rw [cI_ix h.1, cI_ix hk.1] at q
  by_cases w : (X >>> (K &&& 31)) &&& cI 1 = cI 1
  · simp only [w, decide_true, cond_true, Bool.and_eq_true, decide_eq_true_eq, Bool.not_eq_true', decide_eq_false_iff_not] at q
    exact Or.inl ⟨w, q.1.1.1, q.1.1.2, q.1.2, q.2⟩
  · simp only [w, decide_false, cond_false, Bool.and_eq_true, decide_eq_true_eq, Bool.not_eq_true', decide_eq_false_iff_not] at q
    exact Or.inr ⟨w, q.1.1.1, q.1.1.2, q.1.2, q.2⟩
section
variable {s t : ev_M} {F : Bool} {A : Nat → Nat → Int32}
theorem RCu.wish {a x : Int32} (h : RCu s t) (ha : Cus a (s.1 78 3)) (hx : 0 ≤ x.toInt ∧ x.toInt ≤ 511) : RCu (wI s 28 (ix a) x) (wI t 627 (ix (a - cI 4)) x) := by
  obtain ⟨⟨n1, n2, n3⟩, g1, g2, g3, b1, b2⟩ := h
  have a1 := ha.1
  have a2 := ha.2
  have e : (a - cI 4).toInt = a.toInt - 4 := sub_toInt (by rw [show (cI 4).toInt = 4 from rfl]; omega) (by rw [show (cI 4).toInt = 4 from rfl]; omega)
  have ei : ix (a - cI 4) + 4 = ix a := by rw [ix_toNat, ix_toNat, e]; omega
  have en : ix (s.1 78 3) = (s.1 78 3).toInt.toNat := ix_toNat _
  unfold RCu
  simp (disch := decide) only [ix_0, ix_1, ix_2, ix_3, ix_4, ix_5, ix_6, ix_7, ix_8, ix_9, ix_10, ix_11, ix_12, ix_13, ix_14, ix_15, ix_16, ix_17, ix_18, ix_19, ix_20, ix_21, Nat.reduceAdd, wI_c, wI_ne, wL_1, lupd_ne, up1_eq, up1_ne]
  refine ⟨⟨n1, n2, n3⟩, g1, fun i hi => ?_, fun i hi hi2 => ?_, b1, b2.set hx⟩
  · by_cases q : i = ix (a - cI 4)
    · rw [q, ei, up1_eq, up1_eq]
    · rw [up1_ne q, up1_ne (by omega)]
      exact g2 i hi
  · rw [up1_ne (by rw [ix_toNat]; omega)]
    exact g3 i hi hi2
theorem a_wish {a b v : Int32} (hv : v = cI 0 ∨ v = cI 1) (hA : AdmC s F A) (hM : FulM t F) (h0 : t.1 549 15 = 0) (h : RCu s t) : Ok (bd1 (fMoney_isCustomer s a) fun v85 => if v85 = 0 then some (s, cI (-101)) else fPH_act_1_b677 s a b v) fun x => Ok (fM_act_b516 t a b v) fun y => AP RCu RCu F A s x y := by
  obtain ⟨⟨n1, n2, n3⟩, g1, g2, g3, b1, b2⟩ := id h
  have hn : RCu s (wI t 549 15 (cI 1)) := h.keep rf_fr no_fr rfl rfl
  by_cases h1 : Cus a (s.1 78 3)
  rotate_left
  · exact sim_no (c := cI (-101)) (by simp only [fPH_act_1_b677, fChron_setWish_b60, fChron_setWish, fM_act_b516, fM_doWish_b105, fM_doWish_b67, fM_doWish, e_isCus n2 n3, e_isCusM (by rw [n1]; exact n2) (by rw [n1]; exact n3), n1, ltM_eq, ltI_eq, ltL_eq, bd1_some, bd2_some, ite_bI, if_true, if_false, ite_true, ite_false, eq_self, not_true_eq_false, not_false_eq_true, i10, outside_eq, in_eq, no_eq, eq_false h1]) (by simp only [fPH_act_1_b677, fChron_setWish_b60, fChron_setWish, fM_act_b516, fM_doWish_b105, fM_doWish_b67, fM_doWish, e_isCus n2 n3, e_isCusM (by rw [n1]; exact n2) (by rw [n1]; exact n3), n1, ltM_eq, ltI_eq, ltL_eq, bd1_some, bd2_some, ite_bI, if_true, if_false, ite_true, ite_false, eq_self, not_true_eq_false, not_false_eq_true, i10, outside_eq, in_eq, no_eq, eq_false h1]) hn
  by_cases h2 : InR b (cI 0) (cI 8)
  rotate_left
  · exact sim_no (c := cI (-102)) (by simp only [fPH_act_1_b677, fChron_setWish_b60, fChron_setWish, fM_act_b516, fM_doWish_b105, fM_doWish_b67, fM_doWish, e_isCus n2 n3, e_isCusM (by rw [n1]; exact n2) (by rw [n1]; exact n3), n1, ltM_eq, ltI_eq, ltL_eq, bd1_some, bd2_some, ite_bI, if_true, if_false, ite_true, ite_false, eq_self, not_true_eq_false, not_false_eq_true, i10, outside_eq, in_eq, no_eq, eq_true h1, eq_false h2]) (by simp only [fPH_act_1_b677, fChron_setWish_b60, fChron_setWish, fM_act_b516, fM_doWish_b105, fM_doWish_b67, fM_doWish, e_isCus n2 n3, e_isCusM (by rw [n1]; exact n2) (by rw [n1]; exact n3), n1, ltM_eq, ltI_eq, ltL_eq, bd1_some, bd2_some, ite_bI, if_true, if_false, ite_true, ite_false, eq_self, not_true_eq_false, not_false_eq_true, i10, outside_eq, in_eq, no_eq, eq_true h1, eq_false h2]) hn
  by_cases hF : F = true
  · subst hF
    exact sim_no (c := cI (-104)) (by simp only [fPH_act_1_b677, fChron_setWish_b60, fChron_setWish, fM_act_b516, fM_doWish_b105, fM_doWish_b67, fM_doWish, e_isCus n2 n3, e_isCusM (by rw [n1]; exact n2) (by rw [n1]; exact n3), n1, ltM_eq, ltI_eq, ltL_eq, bd1_some, bd2_some, ite_bI, if_true, if_false, ite_true, ite_false, eq_self, not_true_eq_false, not_false_eq_true, i10, outside_eq, in_eq, no_eq, eq_true h1, eq_true h2, hA.no]) (by simp only [fPH_act_1_b677, fChron_setWish_b60, fChron_setWish, fM_act_b516, fM_doWish_b105, fM_doWish_b67, fM_doWish, e_isCus n2 n3, e_isCusM (by rw [n1]; exact n2) (by rw [n1]; exact n3), n1, ltM_eq, ltI_eq, ltL_eq, bd1_some, bd2_some, ite_bI, if_true, if_false, ite_true, ite_false, eq_self, not_true_eq_false, not_false_eq_true, i10, outside_eq, in_eq, no_eq, eq_true h1, eq_true h2, hM.no]) hn
  have hF2 : F = false := by cases F <;> simp_all
  subst hF2
  have a1 := h1.1
  have a2 := h1.2
  have e : (a - cI 4).toInt = a.toInt - 4 := sub_toInt (by rw [show (cI 4).toInt = 4 from rfl]; omega) (by rw [show (cI 4).toInt = 4 from rfl]; omega)
  have ei : ix (a - cI 4) + 4 = ix a := by rw [ix_toNat, ix_toNat, e]; omega
  have hb : inb a 34 = true := inb_iff.mpr ⟨by omega, by omega⟩
  have hb4 : inb (a - cI 4) 30 = true := inb_iff.mpr ⟨by omega, by omega⟩
  have hX : t.1 627 (ix (a - cI 4)) = s.1 28 (ix a) := by rw [g2 _ (by rw [ix_toNat, ix_toNat]; omega), ei]
  have w28 : (lupd A s).1 28 = s.1 28 := lupd_ne (Or.inr (by decide))
  have hr := b2 (ix a) (by rw [ix_toNat]; omega)
  have hw := wish_b hr h2
  have h' : RCu (lupd A s) t := h.keep lupd_fr rf_fr (by decide +kernel) (by decide +kernel)
  have h1' : Cus a ((lupd A s).1 78 3) := by rw [lupd_ne (Or.inr (by decide))]; exact h1
  have z01 : ¬ cI 0 = cI 1 := by decide
  have z10 : ¬ cI 1 = cI 0 := by decide
  have z1 : ¬ cI 1 = 0 := by decide
  have z0 : cI 0 = 0 := rfl
  have fin : ∀ x c, (0 ≤ x.toInt ∧ x.toInt ≤ 511) → AP RCu RCu false A s (wI (lupd A s) 28 (ix a) x, c) (wI t 627 (ix (a - cI 4)) x, c) := fun x c hx => by
    refine ⟨rfl, Or.inr ⟨?_, rfl, lgS.rf.wI (by decide) (by decide), h'.wish h1' hx⟩⟩
    rw [wI_ne (by decide)]; exact h0
  rcases hw with ⟨w, e1, e2, e3, e4⟩ | ⟨w, e1, e2, e3, e4⟩
  · rw [e1] at e2 e4
    rcases hv with rfl | rfl
    · simp (maxSteps := 2000000) (disch := decide) only [fPH_act_1_b677, fChron_setWish_b60, fChron_setWish, fM_act_b516, fM_doWish_b105, fM_doWish_b67, fM_doWish, e_isCus n2 n3, e_isCusM (by rw [n1]; exact n2) (by rw [n1]; exact n3), n1, ltM_eq, ltI_eq, ltL_eq, bd1_some, bd2_some, ite_bI, if_true, if_false, ite_true, ite_false, eq_self, not_true_eq_false, not_false_eq_true, i10, outside_eq, in_eq, no_eq, eq_true h1, eq_true h2, hb, hb4, hA.yes, hM.yes, ix_0, ix_1, ix_2, ix_3, ix_4, ix_5, ix_6, ix_7, ix_8, ix_9, ix_10, ix_11, ix_12, ix_13, ix_14, ix_15, ix_16, ix_17, ix_18, ix_19, ix_20, ix_21, Nat.reduceAdd, wI_c, wI_ne, wL_1, lupd_ne, up1_eq, up1_ne, w28, hX, eq_true w, e1, eq_false e2, eq_true z0, eq_false z10, eq_false z01, ok_some]
      exact fin _ _ e4
    · simp (maxSteps := 2000000) (disch := decide) only [fPH_act_1_b677, fChron_setWish_b60, fChron_setWish, fM_act_b516, fM_doWish_b105, fM_doWish_b67, fM_doWish, e_isCus n2 n3, e_isCusM (by rw [n1]; exact n2) (by rw [n1]; exact n3), n1, ltM_eq, ltI_eq, ltL_eq, bd1_some, bd2_some, ite_bI, if_true, if_false, ite_true, ite_false, eq_self, not_true_eq_false, not_false_eq_true, i10, outside_eq, in_eq, no_eq, eq_true h1, eq_true h2, hb, hb4, hA.yes, hM.yes, ix_0, ix_1, ix_2, ix_3, ix_4, ix_5, ix_6, ix_7, ix_8, ix_9, ix_10, ix_11, ix_12, ix_13, ix_14, ix_15, ix_16, ix_17, ix_18, ix_19, ix_20, ix_21, Nat.reduceAdd, wI_c, wI_ne, wL_1, lupd_ne, up1_eq, up1_ne, w28, hX, eq_true w, e3, eq_false z1, ok_some]
      exact fin _ _ hr
  · rw [e2] at e3 e4
    rcases hv with rfl | rfl
    · simp (maxSteps := 2000000) (disch := decide) only [fPH_act_1_b677, fChron_setWish_b60, fChron_setWish, fM_act_b516, fM_doWish_b105, fM_doWish_b67, fM_doWish, e_isCus n2 n3, e_isCusM (by rw [n1]; exact n2) (by rw [n1]; exact n3), n1, ltM_eq, ltI_eq, ltL_eq, bd1_some, bd2_some, ite_bI, if_true, if_false, ite_true, ite_false, eq_self, not_true_eq_false, not_false_eq_true, i10, outside_eq, in_eq, no_eq, eq_true h1, eq_true h2, hb, hb4, hA.yes, hM.yes, ix_0, ix_1, ix_2, ix_3, ix_4, ix_5, ix_6, ix_7, ix_8, ix_9, ix_10, ix_11, ix_12, ix_13, ix_14, ix_15, ix_16, ix_17, ix_18, ix_19, ix_20, ix_21, Nat.reduceAdd, wI_c, wI_ne, wL_1, lupd_ne, up1_eq, up1_ne, w28, hX, eq_false w, e1, eq_true z0, ok_some]
      exact fin _ _ hr
    · simp (maxSteps := 2000000) (disch := decide) only [fPH_act_1_b677, fChron_setWish_b60, fChron_setWish, fM_act_b516, fM_doWish_b105, fM_doWish_b67, fM_doWish, e_isCus n2 n3, e_isCusM (by rw [n1]; exact n2) (by rw [n1]; exact n3), n1, ltM_eq, ltI_eq, ltL_eq, bd1_some, bd2_some, ite_bI, if_true, if_false, ite_true, ite_false, eq_self, not_true_eq_false, not_false_eq_true, i10, outside_eq, in_eq, no_eq, eq_true h1, eq_true h2, hb, hb4, hA.yes, hM.yes, ix_0, ix_1, ix_2, ix_3, ix_4, ix_5, ix_6, ix_7, ix_8, ix_9, ix_10, ix_11, ix_12, ix_13, ix_14, ix_15, ix_16, ix_17, ix_18, ix_19, ix_20, ix_21, Nat.reduceAdd, wI_c, wI_ne, wL_1, lupd_ne, up1_eq, up1_ne, w28, hX, eq_false w, e2, eq_false e3, eq_false z1, eq_false z10, eq_false z01, ok_some]
      exact fin _ _ e4
end
