/-! ===== LEVEL 3: the calls beside the acts: feed, end, octet, poke, cut ===== -/
def frX (F : List (Nat × (Nat × Nat))) (m z : ev_M) : Prop := (∀ c k, inF F c k = false → z.1 c k = m.1 c k ∧ z.2.1 c k = m.2.1 c k) ∧ z.2.2.1 = m.2.2.1 ∧ z.2.2.2.2.1 ≤ m.2.2.2.2.1 + 4 ∧ z.2.2.2.2.2 ≤ m.2.2.2.2.2 + 64
theorem frX.of {F : List (Nat × (Nat × Nat))} {m z : ev_M} (h : fr F m z) : frX F m z := ⟨h.1, by rw [h.2], by rw [h.2]; omega, by rw [h.2]; omega⟩
theorem frX.mk {F : List (Nat × (Nat × Nat))} {m z : ev_M} (h : fr F (mkX m) z) : frX F m z := ⟨h.1, by rw [h.2]; rfl, by rw [h.2]; exact Nat.le_refl _, by rw [h.2]; exact Nat.le_refl _⟩
theorem frX.keep {F : List (Nat × (Nat × Nat))} {L : List (Nat × Nat)} {m z : ev_M} (h : frX F m z) (n : nof F L = true) {c : Nat} (hc : L.contains (c, 0) = true) : z.1 c = m.1 c :=
  (nof_c (s := (m.1, (m.2.1, z.2.2))) (t := z) ⟨h.1, rfl⟩ n hc).1
theorem frX.p1 {F : List (Nat × (Nat × Nat))} {m z : ev_M} (h : frX F m z) (n : nof F SCR = true) : P1 m z := ⟨⟨h.keep n (c := 1020) rfl, h.keep n (c := 1021) rfl⟩, h.2.2⟩
theorem lgc_self (x : Int64) : lg_cmp x x = 0 := by
  unfold lg_cmp
  rw [if_neg (by simp), if_pos rfl]
theorem ad_pos {a b : Int32} (i1 : InR a (cI 1) (cI 150)) (i2 : InR b (cI 0) (cI 255)) : inb ((a - cI 1) * cI 256 + b) 38400 = true ∧ inb (cI 256 * a + b) 38656 = true ∧ ix (cI 256 * a + b) = ix ((a - cI 1) * cI 256 + b) + 256 ∧ ix ((a - cI 1) * cI 256 + b) < 38400 := by
  obtain ⟨a1, a2⟩ := i1
  obtain ⟨b1, b2⟩ := i2
  have c1 : (cI 1).toInt = 1 := rfl
  have c6 : (cI 256).toInt = 256 := rfl
  have a1 : 1 ≤ a.toInt := a1
  have a2 : a.toInt ≤ 150 := a2
  have b1 : 0 ≤ b.toInt := b1
  have b2 : b.toInt ≤ 255 := b2
  have e0 : (a - cI 1).toInt = a.toInt - 1 := sub_toInt (by rw [c1]; omega) (by rw [c1]; omega)
  have e1 : ((a - cI 1) * cI 256).toInt = (a.toInt - 1) * 256 := by rw [mul_toInt (by rw [c6, e0]; omega) (by rw [c6, e0]; omega), e0, c6]
  have e2 : ((a - cI 1) * cI 256 + b).toInt = (a.toInt - 1) * 256 + b.toInt := by rw [add_toInt (by rw [e1]; omega) (by rw [e1]; omega), e1]
  have f1 : (cI 256 * a).toInt = 256 * a.toInt := by rw [mul_toInt (by rw [c6]; omega) (by rw [c6]; omega), c6]
  have f2 : (cI 256 * a + b).toInt = 256 * a.toInt + b.toInt := by rw [add_toInt (by rw [f1]; omega) (by rw [f1]; omega), f1]
  refine ⟨inb_iff.mpr ⟨by omega, by omega⟩, inb_iff.mpr ⟨by omega, by omega⟩, ?_, ?_⟩
  · rw [ix_toNat, ix_toNat, e2, f2]; omega
  · rw [ix_toNat, e2]; omega
theorem hasB {m : ev_M} {a b : Int32} : fLog_hasByte m a b = some (bI (InR a (cI 1) (cI 150) ∧ InR b (cI 0) (cI 255))) := by
  by_cases i1 : InR a (cI 1) (cI 150)
  · by_cases i2 : InR b (cI 0) (cI 255)
    · simp only [fLog_hasByte, outside_eq, eq_true i1, eq_true i2, ltM_eq, ltI_eq, ltL_eq, bd1_some, bd2_some, ite_bI, if_true, if_false, ite_true, ite_false, eq_self, not_true_eq_false, not_false_eq_true, i10, bI_t (And.intro i1 i2)]
      rfl
    · simp only [fLog_hasByte, outside_eq, eq_true i1, eq_false i2, ltM_eq, ltI_eq, ltL_eq, bd1_some, bd2_some, ite_bI, if_true, if_false, ite_true, ite_false, eq_self, not_true_eq_false, not_false_eq_true, i10, bI_f (fun q : InR a (cI 1) (cI 150) ∧ InR b (cI 0) (cI 255) => i2 q.2)]
      rfl
  · simp only [fLog_hasByte, outside_eq, eq_false i1, ltM_eq, ltI_eq, ltL_eq, bd1_some, bd2_some, ite_bI, if_true, if_false, ite_true, ite_false, eq_self, not_true_eq_false, not_false_eq_true, i10, bI_f (fun q : InR a (cI 1) (cI 150) ∧ InR b (cI 0) (cI 255) => i1 q.1)]
    rfl
def OCT : List (Nat × (Nat × Nat)) := [(549, 549, 1), (681, 681, 1)]
theorem g_octet {m : ev_M} (hd : RDsk m m) (a b : Int32) : Ok (fOctet m a b) fun x => scr m x.1 ∧ Ok (fM_octet x.1 a b) fun z => z.1.1 549 0 = x.2 ∧ (x.2 = 0 → lg_cmp (z.1.2.1 681 (ix (cI 0))) (Int32.toInt64 z.2) = 0) ∧ frX OCT m z.1 := by
  unfold fOctet
  rw [hasB, bd1_some]
  by_cases i : InR a (cI 1) (cI 150) ∧ InR b (cI 0) (cI 255)
  · obtain ⟨p1, p2, p3, p4⟩ := ad_pos i.1 i.2
    have e : (m.1 551 (ix (cI 256 * a + b))) = m.1 10 (ix ((a - cI 1) * cI 256 + b)) := by rw [p3]; exact hd.1 _ p4
    rw [bI_t i, if_neg (by decide)]
    unfold fLog_byteAt
    rw [hasB, bd1_some, bI_t i, if_neg (by decide), if_pos p1, bd1_some, ok_some]
    refine ⟨⟨rfl, rfl⟩, ?_⟩
    unfold fM_octet
    simp only [in_eq, eq_true i.1, eq_true i.2, ltM_eq, ltI_eq, ltL_eq, bd1_some, bd2_some, ite_bI, if_true, if_false, ite_true, ite_false, eq_self, not_true_eq_false, not_false_eq_true, i10, fM_octet_b28, fM_at, eq_true p2]
    rw [if_pos (show (wI (wL m 681 0 (Int32.toInt64 (m.1 10 (ix ((a - cI 1) * cI 256 + b)) &&& cI 255))) 549 0 (cI 0)).1 549 0 ≤ 0 by rw [wI_c, up1_eq]; decide), ok_some]
    refine ⟨by rw [wI_c, up1_eq], fun _ => ?_, frX.of (.wI (.wL .rf rfl) rfl)⟩
    show lg_cmp _ (Int32.toInt64 ((wI (wL m 681 0 _) 549 0 (cI 0)).1 551 _ &&& _)) = 0
    rw [wI_ne (by decide)]
    show lg_cmp ((wL m 681 0 (Int32.toInt64 (m.1 10 (ix ((a - cI 1) * cI 256 + b)) &&& cI 255))).2.1 681 0) (Int32.toInt64 (m.1 551 _ &&& _)) = 0
    rw [e, wL_c, if_pos rfl, if_pos rfl]
    exact lgc_self _
  · rw [bI_f i, if_pos rfl, ok_some]
    refine ⟨⟨rfl, rfl⟩, ?_⟩
    have em : fM_octet (mkX m) a b = some (wI (mkX m) 549 0 (cI 1), cI 0) := by
      have k : fM_octet_b28 (mkX m) a b (cI 1) = some (wI (mkX m) 549 0 (cI 1), cI 0) := by
        unfold fM_octet_b28
        rw [ltM_eq, if_neg (show ¬ (wI (mkX m) 549 0 (cI 1)).1 549 0 ≤ 0 by rw [wI_c, up1_eq]; decide)]
      unfold fM_octet
      by_cases i1 : InR a (cI 1) (cI 150)
      · have i2 : ¬ InR b (cI 0) (cI 255) := fun q => i ⟨i1, q⟩
        simp only [in_eq, eq_true i1, eq_false i2, ltM_eq, ltI_eq, ltL_eq, bd1_some, bd2_some, ite_bI, if_true, if_false, ite_true, ite_false, eq_self, not_true_eq_false, not_false_eq_true, i10, fM_octet_b27, k]
      · simp only [in_eq, eq_false i1, ltM_eq, ltI_eq, ltL_eq, bd1_some, bd2_some, ite_bI, if_true, if_false, ite_true, ite_false, eq_self, not_true_eq_false, not_false_eq_true, i10, fM_octet_b27, k]
    rw [em, ok_some]
    exact ⟨by rw [wI_c, up1_eq], fun q => absurd q (show ¬ cI 1 = 0 by decide), .mk (.wI .rf rfl)⟩
theorem i2b_x {x c : Int32} : i2b (x ^^^ i2b c) = i2b (x ^^^ c) := by
  unfold i2b
  rw [Int32.toInt8_xor, Int32.toInt8_xor, Int8.toInt8_toInt32]
def PKC : List (Nat × (Nat × Nat)) := [(10, 10, 0), (549, 549, 1), (551, 551, 0), (681, 681, 1)]
theorem g_poke {m : ev_M} (hd : RDsk m m) (a b c : Int32) : Ok (fPoke m a b c) fun x => scr m x.1 ∧ Ok (fM_poke x.1 a b c) fun z => z.1.1 549 0 = x.2 ∧ (x.2 = 0 → lg_cmp (z.1.2.1 681 (ix (cI 0))) (Int32.toInt64 z.2) = 0) ∧ frX PKC m z.1 := by
  unfold fPoke
  rw [hasB, bd1_some]
  by_cases i : InR a (cI 1) (cI 150) ∧ InR b (cI 0) (cI 255)
  · obtain ⟨p1, p2, p3, p4⟩ := ad_pos i.1 i.2
    have e : (m.1 551 (ix (cI 256 * a + b))) = m.1 10 (ix ((a - cI 1) * cI 256 + b)) := by rw [p3]; exact hd.1 _ p4
    rw [bI_t i, if_neg (by decide)]
    unfold fLog_change
    rw [hasB, bd1_some, bI_t i, if_neg (by decide), if_pos p1, if_pos p1, ltM_eq]
    unfold fLog_change_b28 fLog_byteAt
    rw [hasB, bd1_some, bI_t i, if_neg (by decide), if_pos p1, bd1_some, bd2_some, ok_some]
    generalize hv : i2b (i2b (m.1 10 (ix ((a - cI 1) * cI 256 + b)) ^^^ i2b c)) = v
    generalize hp : ix ((a - cI 1) * cI 256 + b) = p at *
    rw [show (wI m 10 p v).1 10 p = v by rw [wI_c, up1_eq]]
    refine ⟨⟨by show (wI m 10 p v).1 1020 = _; rw [wI_ne (by decide)], by show (wI m 10 p v).1 1021 = _; rw [wI_ne (by decide)]⟩, ?_⟩
    unfold fM_poke
    simp only [in_eq, eq_true i.1, eq_true i.2, ltM_eq, ltI_eq, ltL_eq, bd1_some, bd2_some, ite_bI, if_true, if_false, ite_true, ite_false, eq_self, not_true_eq_false, not_false_eq_true, i10, fM_poke_b28, fM_at, eq_true p2]
    have k1 : (wI (wL (wI m 10 p v) 681 0 (Int32.toInt64 (v &&& cI 255))) 549 0 (cI 0)).1 549 0 = cI 0 := by rw [wI_c, up1_eq]
    have k2 : (wI (wL (wI m 10 p v) 681 0 (Int32.toInt64 (v &&& cI 255))) 549 0 (cI 0)).1 551 = m.1 551 := by rw [wI_ne (by decide), wL_1, wI_ne (by decide)]
    rw [if_pos (show (wI (wL (wI m 10 p v) 681 0 (Int32.toInt64 (v &&& cI 255))) 549 0 (cI 0)).1 549 0 ≤ 0 by rw [k1]; decide), ok_some]
    have k3 : i2b (i2b ((wI (wL (wI m 10 p v) 681 0 (Int32.toInt64 (v &&& cI 255))) 549 0 (cI 0)).1 551 (ix (cI 256 * a + b)) ^^^ c)) = v := by rw [k2, e, ← i2b_x, hv]
    rw [k3]
    refine ⟨by rw [wI_ne (by decide)]; exact k1, fun _ => ?_, frX.of (.wI (.wI (.wL (.wI .rf rfl) rfl) rfl) rfl)⟩
    show lg_cmp ((wL (wI m 10 p v) 681 0 (Int32.toInt64 (v &&& cI 255))).2.1 681 0) (Int32.toInt64 ((wI _ 551 (ix (cI 256 * a + b)) v).1 551 (ix (cI 256 * a + b)) &&& cI 255)) = 0
    rw [wI_c, up1_eq, wL_c, if_pos rfl, if_pos rfl]
    exact lgc_self _
  · rw [bI_f i, if_pos rfl, ok_some]
    refine ⟨⟨rfl, rfl⟩, ?_⟩
    have em : fM_poke (mkX m) a b c = some (wI (mkX m) 549 0 (cI 1), cI 0) := by
      have k : fM_poke_b28 (mkX m) a b c (cI 1) = some (wI (mkX m) 549 0 (cI 1), cI 0) := by
        unfold fM_poke_b28
        rw [ltM_eq, if_neg (show ¬ (wI (mkX m) 549 0 (cI 1)).1 549 0 ≤ 0 by rw [wI_c, up1_eq]; decide)]
      unfold fM_poke
      by_cases i1 : InR a (cI 1) (cI 150)
      · have i2 : ¬ InR b (cI 0) (cI 255) := fun q => i ⟨i1, q⟩
        simp only [in_eq, eq_true i1, eq_false i2, ltM_eq, ltI_eq, ltL_eq, bd1_some, bd2_some, ite_bI, if_true, if_false, ite_true, ite_false, eq_self, not_true_eq_false, not_false_eq_true, i10, fM_poke_b27, k]
      · simp only [in_eq, eq_false i1, ltM_eq, ltI_eq, ltL_eq, bd1_some, bd2_some, ite_bI, if_true, if_false, ite_true, ite_false, eq_self, not_true_eq_false, not_false_eq_true, i10, fM_poke_b27, k]
    rw [em, ok_some]
    exact ⟨by rw [wI_c, up1_eq], fun q => absurd q (show ¬ cI 1 = 0 by decide), .mk (.wI .rf rfl)⟩
def ENC : List (Nat × (Nat × Nat)) := [(1, 1, 2), (549, 549, 1), (549, 549, 3)]
theorem g_end {m : ev_M} (ht : RTap m.1 m.1) (n : Int32) : Ok (fEnd m n) fun x => scr m x.1 ∧ Ok (fM_end x.1 n) fun z => z.1 549 0 = x.2 ∧ frX ENC m z ∧ RTap z.1 z.1 := by
  obtain ⟨t1, t2, t3, t4⟩ := ht
  have hi : InR n (cI 0) (m.1 549 2) ↔ ¬ (n < 0 ∨ m.1 1 1 < n) := by
    rw [t1, lt_i, lt_i, i32_0]
    show (cI 0).toInt ≤ n.toInt ∧ _ ↔ _
    rw [show (cI 0).toInt = 0 from rfl]
    omega
  unfold fEnd
  by_cases i : n < 0 ∨ m.1 1 1 < n
  · rw [if_pos i, ok_some]
    refine ⟨⟨rfl, rfl⟩, ?_⟩
    have k : ¬ InR n (cI 0) ((mkX m).1 549 2) := fun q => absurd i (hi.mp q)
    unfold fM_end
    simp only [in_eq, eq_false k, ltM_eq, ltI_eq, ltL_eq, bd1_some, bd2_some, ite_bI, if_true, if_false, ite_true, ite_false, eq_self, not_true_eq_false, not_false_eq_true, i10, fM_end_b18, fM_end_b37]
    rw [if_neg (show ¬ (wI (mkX m) 549 0 (cI 1)).1 549 0 ≤ 0 by rw [wI_c, up1_eq]; decide), ok_some]
    refine ⟨by rw [wI_c, up1_ne (by decide), wI_c, up1_eq], .mk (.wI (.wI .rf rfl) rfl), ?_⟩
    have k2 : (wI (wI (mkX m) 549 0 (cI 1)) 549 2 ((wI (mkX m) 549 0 (cI 1)).1 549 2)).1 549 2 = m.1 549 2 := by rw [wI_c, up1_eq, wI_c, up1_ne (by decide)]; rfl
    refine ⟨?_, ?_, ?_, ?_⟩
    · rw [k2, wI_ne (by decide), wI_ne (by decide)]; exact t1
    · rw [wI_ne (by decide), wI_ne (by decide)]; exact t2
    · rw [wI_ne (by decide), wI_ne (by decide)]; exact t3
    · rw [wI_ne (by decide), wI_ne (by decide), wI_ne (by decide), wI_ne (by decide), wI_ne (by decide), wI_ne (by decide)]; exact t4
  · rw [if_neg i, ok_some]
    refine ⟨⟨by rw [wI_ne (by decide)], by rw [wI_ne (by decide)]⟩, ?_⟩
    have i2 := hi.mpr i
    have k : InR n (cI 0) ((wI m 1 1 n).1 549 2) := by rw [wI_ne (by decide)]; exact i2
    unfold fM_end
    simp only [in_eq, eq_true k, ltM_eq, ltI_eq, ltL_eq, bd1_some, bd2_some, ite_bI, if_true, if_false, ite_true, ite_false, eq_self, not_true_eq_false, not_false_eq_true, i10, fM_end_b18, fM_end_b37]
    rw [if_pos (show (wI (wI m 1 1 n) 549 0 (cI 0)).1 549 0 ≤ 0 by rw [wI_c, up1_eq]; decide), ok_some]
    refine ⟨by rw [wI_c, up1_ne (by decide), wI_c, up1_eq], .of (.wI (.wI (.wI .rf rfl) rfl) rfl), ?_⟩
    rw [t1] at i2
    have i3 : 0 ≤ n.toInt := i2.1
    have i4 : n.toInt ≤ (m.1 1 1).toInt := i2.2
    have e1 : (wI (wI (wI m 1 1 n) 549 0 (cI 0)) 549 2 n).1 1 1 = n := by rw [wI_ne (by decide), wI_ne (by decide), wI_c, up1_eq]
    refine ⟨?_, ?_, ?_, fun k hk => ?_⟩
    · rw [e1, wI_c, up1_eq]
    · rw [e1]; exact i3
    · rw [e1]; omega
    · rw [e1] at hk
      rw [wI_ne (by decide), wI_ne (by decide), wI_ne (by decide), wI_ne (by decide), wI_ne (by decide), wI_ne (by decide)]
      refine t4 k ?_
      rw [ix_toNat] at hk ⊢
      omega
theorem h34_0 : ∀ (n : Nat) {s : ev_M} {a b c d e x : Int32} {q : ev_M × Int32}, fM_feed_h34 n s a b c d e x = some q → q.1.1 549 0 = s.1 549 0
  | 0, _, _, _, _, _, _, _, _, h => by simp [fM_feed_h34] at h
  | n + 1, s, a, b, c, d, e, x, q, h => by
    have key : ∀ y0, fM_feed_b87 (fM_feed_h34 n) s a b c d e x y0 = some q → q.1.1 549 0 = s.1 549 0 := fun y0 h => by
      unfold fM_feed_b87 at h
      rw [if_neg (by decide)] at h
      split at h
      · rw [ltM_eq, ltM_eq] at h
        rw [h34_0 n h, wI_c, up1_ne (by decide), wI_ne (by decide)]
      · cases h
    unfold fM_feed_h34 at h
    split at h
    · split at h
      · exact key _ h
      · split at h
        · exact key _ h
        · split at h
          · exact key _ h
          · split at h
            · exact key _ h
            · exact key _ h
    · cases h
      rfl
def FDC : List (Nat × (Nat × Nat)) := [(1, 1, 2), (2, 2, 0), (549, 549, 1), (549, 549, 3), (550, 550, 0), (681, 681, 1)]
theorem g_feed {m : ev_M} (ht : RTap m.1 m.1) (a b c d e : Int32) : Ok (fFeed m a b c d e) fun x => scr m x.1 ∧ Ok (fM_feed x.1 a b c d e) fun z => z.1.1 549 0 = x.2 ∧ (x.2 = 0 → lg_cmp (z.1.2.1 681 (ix (cI 0))) (Int32.toInt64 z.2) = 0) ∧ frX FDC m z.1 ∧ RTap z.1.1 z.1.1 := by
  have e20 : (m.1 1 1 + cI 20).toInt = (m.1 1 1).toInt + 20 := add_toInt (by have := ht.2.1; have := ht.2.2.1; rw [show (cI 20).toInt = 20 from rfl]; omega) (by have := ht.2.1; have := ht.2.2.1; rw [show (cI 20).toInt = 20 from rfl]; omega)
  have c4 : (cI 4096).toInt = 4096 := rfl
  unfold fFeed
  by_cases i : cI 4096 < m.1 1 1 + cI 20
  · rw [if_pos i, ok_some]
    refine ⟨⟨rfl, rfl⟩, ?_⟩
    have k : ¬ ((mkX m).1 549 2 + cI 20 ≤ cI 4096) := by
      show ¬ (m.1 549 2 + cI 20 ≤ cI 4096)
      rw [ht.1, le_i]; rw [lt_i] at i; omega
    unfold fM_feed
    simp only [eq_false k, ltM_eq, ltI_eq, ltL_eq, bd1_some, bd2_some, ite_bI, if_true, if_false, ite_true, ite_false, eq_self, not_true_eq_false, not_false_eq_true, i10, fM_feed_b19]
    rw [if_neg (show ¬ (wI (mkX m) 549 0 (cI 1)).1 549 0 ≤ 0 by rw [wI_c, up1_eq]; decide), ok_some]
    refine ⟨by rw [wI_c, up1_eq], fun q => absurd q (show ¬ cI 1 = 0 by decide), .mk (.wI .rf rfl), ?_⟩
    obtain ⟨t1, t2, t3, t4⟩ := ht
    refine ⟨?_, ?_, ?_, ?_⟩
    · rw [wI_c, up1_ne (by decide), wI_ne (by decide)]; exact t1
    · rw [wI_ne (by decide)]; exact t2
    · rw [wI_ne (by decide)]; exact t3
    · rw [wI_ne (by decide), wI_ne (by decide), wI_ne (by decide)]; exact t4
  · have hl : (m.1 1 1).toInt + 20 ≤ 4096 := by rw [lt_i] at i; omega
    rw [if_neg i]
    obtain ⟨s1, -, c1, -, -⟩ := feed_20 (a := a) (b := b) (c := c) (d := d) (e := e) ht hl
    have ⟨y1, y2, y3, y4, h1, h2, h3, h4, h5⟩ : ∃ y1 y2 y3 y4, fTape_append_1 m a = some y1 ∧ fTape_append_1 y1 b = some y2 ∧ fTape_append_1 y2 c = some y3 ∧ fTape_append_1 y3 d = some y4 ∧ fTape_append_1 y4 e = some s1 := by
      cases h1 : fTape_append_1 m a with
      | none => rw [h1] at c1; exact absurd c1 (by simp [bd1])
      | some y1 =>
      rw [h1, bd1_some] at c1
      cases h2 : fTape_append_1 y1 b with
      | none => rw [h2] at c1; exact absurd c1 (by simp [bd1])
      | some y2 =>
      rw [h2, bd1_some] at c1
      cases h3 : fTape_append_1 y2 c with
      | none => rw [h3] at c1; exact absurd c1 (by simp [bd1])
      | some y3 =>
      rw [h3, bd1_some] at c1
      cases h4 : fTape_append_1 y3 d with
      | none => rw [h4] at c1; exact absurd c1 (by simp [bd1])
      | some y4 =>
      rw [h4, bd1_some] at c1
      exact ⟨y1, y2, y3, y4, rfl, h2, h3, h4, c1⟩
    have f0 : fr F_Tape_append_1 m s1 := ((((fr_fTape_append_1 h1).tr (fr_fTape_append_1 h2)).tr (fr_fTape_append_1 h3)).tr (fr_fTape_append_1 h4)).tr (fr_fTape_append_1 h5)
    rw [h1, bd1_some, h2, bd1_some, h3, bd1_some, h4, bd1_some, h5, bd1_some, ok_some]
    have n1 : ∀ c k, inF F_Tape_append_1 c k = false → s1.1 c k = m.1 c k := fun c k h => (f0.1 c k h).1
    refine ⟨⟨by show s1.1 1020 = _; exact funext fun k => n1 1020 k rfl, by show s1.1 1021 = _; exact funext fun k => n1 1021 k rfl⟩, ?_⟩
    have e2 : s1.1 549 2 = m.1 549 2 := n1 549 2 rfl
    have e5 : s1.1 550 = m.1 550 := funext fun k => n1 550 k rfl
    have k : (wL s1 681 0 (Int32.toInt64 (s1.1 1 1))).1 549 2 + cI 20 ≤ cI 4096 := by
      rw [wL_1, e2, ht.1, le_i]; omega
    unfold fM_feed
    simp only [eq_true k, ltM_eq, ltI_eq, ltL_eq, bd1_some, bd2_some, ite_bI, if_true, if_false, ite_true, ite_false, eq_self, not_true_eq_false, not_false_eq_true, i10, fM_feed_b19]
    rw [if_pos (show (wI (wL s1 681 0 (Int32.toInt64 (s1.1 1 1))) 549 0 (cI 0)).1 549 0 ≤ 0 by rw [wI_c, up1_eq]; decide)]
    have hT : RTap m.1 (wI (wL s1 681 0 (Int32.toInt64 (s1.1 1 1))) 549 0 (cI 0)).1 := by
      obtain ⟨t1, t2, t3, t4⟩ := ht
      refine ⟨?_, t2, t3, ?_⟩
      · rw [wI_c, up1_ne (by decide), wL_1, e2]; exact t1
      · rw [wI_ne (by decide), wL_1, e5]; exact t4
    obtain ⟨s2, t', c2, c3, r⟩ := feed_20 (a := a) (b := b) (c := c) (d := d) (e := e) hT hl
    rw [c1] at c2
    cases c2
    have f1 := fr_fM_feed_h34 _ c3
    rw [c3, ok_some]
    have g0 : t'.1 549 0 = cI 0 := by rw [h34_0 _ c3, wI_c, up1_eq]
    have g1 : t'.1 1 1 = s1.1 1 1 := by rw [(f1.1 1 1 rfl).1, wI_ne (by decide), wL_1]
    have g2 : t'.1 2 = s1.1 2 := funext fun k => by rw [(f1.1 2 k rfl).1, wI_ne (by decide), wL_1]
    refine ⟨g0, fun _ => ?_, .of (((f0.mono rfl).wL rfl).wI rfl |>.tr (f1.mono rfl)), ?_⟩
    · show lg_cmp (t'.2.1 681 0) (Int32.toInt64 (t'.1 549 2)) = 0
      rw [r.1, (f1.1 681 0 rfl).2]
      show lg_cmp ((wL s1 681 0 (Int32.toInt64 (s1.1 1 1))).2.1 681 0) _ = 0
      rw [wL_c, if_pos rfl, if_pos rfl]
      exact lgc_self _
    · show RTap t'.1 t'.1
      obtain ⟨t1, t2, t3, t4⟩ := r
      unfold RTap
      rw [g1, g2]
      exact ⟨t1, t2, t3, t4⟩
def CUC : List (Nat × (Nat × Nat)) := [(9, 9, 11), (9, 9, 12), (549, 549, 1), (549, 549, 7), (549, 549, 8)]
theorem RDsk_u {m : ev_M} {x : Int32} (h : RDsk m m) : RDsk (wI m 549 0 x) (wI m 549 0 x) := by
  unfold RDsk at h ⊢
  simpa (disch := decide) only [ix_0, ix_1, ix_2, ix_3, ix_4, ix_5, ix_6, ix_7, ix_8, Nat.reduceAdd, wI_c, wI_ne, wL_1, lupd_ne, up1_eq, up1_ne] using h
theorem g_cut {m : ev_M} (h : m.1 549 5 = m.1 9 9) (a b : Int32) : Ok (fPH_cut m a b) fun x => scr m x.1 ∧ Ok (fM_cut x.1 a b) fun z => x.2 = z.2 ∧ fr CUC m z.1 ∧ (RDsk m m → RDsk z.1 z.1) := by
  have e : (wI m 549 0 (cI 0)).1 549 5 = m.1 9 9 := by rw [wI_c, up1_ne (by decide), h]
  by_cases d : m.1 9 9 = 0
  · rw [d] at e
    by_cases i1 : InR a (cI (-1)) (cI 2000)
    · by_cases i2 : InR b (cI 0) (cI 255)
      · simp only [fPH_cut, d, fLog_setCut, outside_eq, eq_true i1, eq_true i2, ltM_eq, ltI_eq, ltL_eq, bd1_some, bd2_some, ite_bI, if_true, if_false, ite_true, ite_false, eq_self, not_true_eq_false, not_false_eq_true, i10, ok_some, fM_cut]
        refine ⟨⟨by rw [wI_ne (by decide), wI_ne (by decide)], by rw [wI_ne (by decide), wI_ne (by decide)]⟩, ?_⟩
        have e : (wI (wI (wI m 9 10 a) 9 11 b) 549 0 (cI 0)).1 549 5 = 0 := by
          rw [wI_c, up1_ne (by decide), wI_ne (by decide), wI_ne (by decide), h, d]
        simp only [e, in_eq, eq_true i1, eq_true i2, ltM_eq, ltI_eq, ltL_eq, bd1_some, bd2_some, ite_bI, if_true, if_false, ite_true, ite_false, eq_self, not_true_eq_false, not_false_eq_true, i10, ok_some]
        refine ⟨trivial, .wI (.wI (.wI (.wI (.wI .rf rfl) rfl) rfl) rfl) rfl, fun q => ?_⟩
        obtain ⟨q1, q2, q3, -, -⟩ := q
        refine ⟨?_, ?_, ?_, ?_, ?_⟩
        · simpa (disch := decide) only [ix_0, ix_1, ix_2, ix_3, ix_4, ix_5, ix_6, ix_7, ix_8, Nat.reduceAdd, wI_c, wI_ne, wL_1, lupd_ne, up1_eq, up1_ne] using q1
        · simpa (disch := decide) only [ix_0, ix_1, ix_2, ix_3, ix_4, ix_5, ix_6, ix_7, ix_8, Nat.reduceAdd, wI_c, wI_ne, wL_1, lupd_ne, up1_eq, up1_ne] using q2
        · simpa (disch := decide) only [ix_0, ix_1, ix_2, ix_3, ix_4, ix_5, ix_6, ix_7, ix_8, Nat.reduceAdd, wI_c, wI_ne, wL_1, lupd_ne, up1_eq, up1_ne] using q3
        · simp (disch := decide) only [ix_0, ix_1, ix_2, ix_3, ix_4, ix_5, ix_6, ix_7, ix_8, Nat.reduceAdd, wI_c, wI_ne, wL_1, lupd_ne, up1_eq, up1_ne]
          exact ⟨trivial, i1⟩
        · simp (disch := decide) only [ix_0, ix_1, ix_2, ix_3, ix_4, ix_5, ix_6, ix_7, ix_8, Nat.reduceAdd, wI_c, wI_ne, wL_1, lupd_ne, up1_eq, up1_ne]
          exact ⟨trivial, i2⟩
      · simp only [fPH_cut, d, fLog_setCut, outside_eq, eq_true i1, eq_false i2, ltM_eq, ltI_eq, ltL_eq, bd1_some, bd2_some, ite_bI, if_true, if_false, ite_true, ite_false, eq_self, not_true_eq_false, not_false_eq_true, i10, ok_some, fM_cut, e, in_eq]
        exact ⟨⟨rfl, rfl⟩, trivial, .wI .rf rfl, RDsk_u⟩
    · simp only [fPH_cut, d, fLog_setCut, outside_eq, eq_false i1, ltM_eq, ltI_eq, ltL_eq, bd1_some, bd2_some, ite_bI, if_true, if_false, ite_true, ite_false, eq_self, not_true_eq_false, not_false_eq_true, i10, ok_some, fM_cut, e, in_eq]
      exact ⟨⟨rfl, rfl⟩, trivial, .wI .rf rfl, RDsk_u⟩
  · simp only [fPH_cut, eq_false d, ltM_eq, ltI_eq, ltL_eq, bd1_some, bd2_some, ite_bI, if_true, if_false, ite_true, ite_false, eq_self, not_true_eq_false, not_false_eq_true, i10, ok_some, fM_cut, e]
    exact ⟨⟨rfl, rfl⟩, trivial, .wI .rf rfl, RDsk_u⟩
