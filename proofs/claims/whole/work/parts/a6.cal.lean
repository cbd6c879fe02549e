/-! ===== LEVEL 3: calls: what is staged, and the reference's record ===== -/
/-- the class's log with an act staged -/
def stg (s : ev_M) (num a b c d e f : Int32) : ev_M := wI (wI (wI (wI (wI (wI (wI s 9 14 num) 14 0 a) 14 1 b) 14 2 c) 14 3 d) 14 4 e) 14 5 f
theorem e_stages {s : ev_M} {num a b c d e f : Int32} : fLog_stages s num a b c d e f = some (stg s num a b c d e f, bI (s.1 9 9 = 0)) := by
  unfold fLog_stages
  simp only [ltM_eq, ix_0, ix_1, ix_2, ix_3, ix_4, ix_5]
  have e9 : (stg s num a b c d e f).1 9 9 = s.1 9 9 := by
    unfold stg
    simp (disch := decide) only [ix_0, ix_1, ix_2, ix_3, ix_4, ix_5, ix_6, ix_7, ix_8, Nat.reduceAdd, wI_c, wI_ne, wL_1, lupd_ne, up1_eq, up1_ne]
  show (if (stg s num a b c d e f).1 9 9 = 0 then some (stg s num a b c d e f, cI 1) else some (stg s num a b c d e f, cI 0)) = _
  rw [e9]
  by_cases h : s.1 9 9 = 0
  · rw [if_pos h, bI_t h]; rfl
  · rw [if_neg h, bI_f h]; rfl
/-- the reference with an act begun -/
def mst (t : ev_M) (num : Int32) : ev_M := wI (wI (wI (wI t 549 0 (cI 0)) 549 16 num) 549 14 (cI 0)) 549 15 (cI 0)
theorem e_call {t : ev_M} {num : Int32} (h : ¬ rdT num) : fM_call t num = if t.1 549 5 = 0 then fM_call_b78 (mst t num) num else some (wI t 549 0 (cI 0), cI (-105)) := by
  unfold fM_call
  simp only [ltM_eq, m_reads, bd1_some, ite_bI, if_neg h]
  have e5 : (wI t 549 0 (cI 0)).1 549 5 = t.1 549 5 := by simp (disch := decide) only [ix_0, ix_1, ix_2, ix_3, ix_4, ix_5, ix_6, ix_7, ix_8, Nat.reduceAdd, wI_c, wI_ne, wL_1, lupd_ne, up1_eq, up1_ne]
  rw [e5]
  rfl
theorem mst_5 {t : ev_M} {num : Int32} {k : Nat} (h0 : k ≠ 0) (h1 : k ≠ 16) (h2 : k ≠ 14) (h3 : k ≠ 15) : (mst t num).1 549 k = t.1 549 k := by
  unfold mst
  rw [wI_c, up1_ne h3, wI_c, up1_ne h2, wI_c, up1_ne h1, wI_c, up1_ne h0]
theorem mst_c {t : ev_M} {num : Int32} {c : Nat} (h : c ≠ 549) : (mst t num).1 c = t.1 c := by
  unfold mst
  rw [wI_ne h, wI_ne h, wI_ne h, wI_ne h]
theorem mst_16 {t : ev_M} {num : Int32} : (mst t num).1 549 16 = num := by
  unfold mst
  rw [wI_c, up1_ne (by decide), wI_c, up1_ne (by decide), wI_c, up1_eq]
theorem mst_14 {t : ev_M} {num : Int32} : (mst t num).1 549 14 = cI 0 := by
  unfold mst
  rw [wI_c, up1_ne (by decide), wI_c, up1_eq]
theorem mst_15 {t : ev_M} {num : Int32} : (mst t num).1 549 15 = cI 0 := by
  unfold mst
  rw [wI_c, up1_eq]
theorem mst_2 {t : ev_M} {num : Int32} : (mst t num).2 = t.2 := rfl
/-- the reference's loops that note a record -/
theorem nt_h109 {kk : ev_M → Int32 → Int32 → Int32 → Option (ev_M × Int32)} {n : Nat} {t : ev_M} {x1 x2 x3 : Int32} (hx : inb x3 6 = true) (h0 : 0 ≤ (t.1 549 9).toInt) (h1 : (t.1 549 9).toInt + 4 ≤ 37200) : fM_call_h109 kk (n + 5) t x1 x2 x3 (cI 24) = kk (nteL (wB (t.1 553 (ix x3))) t) x1 x2 (x3 + cI 1) := by
  have st : ∀ (m : Nat) (u : ev_M) (z : Int32), 0 ≤ z.toInt → 0 ≤ (u.1 549 9).toInt → (u.1 549 9).toInt < 37200 → fM_call_h109 kk (m + 1) u x1 x2 x3 z = fM_call_h109 kk m (nte u ((u.1 553 (ix x3)) >>> (z &&& 31))) x1 x2 x3 (z - cI 8) := fun m u z hz a b => by
    have e : ¬ z < 0 := by rw [lt_i, i32_0]; omega
    simp only [fM_call_h109, if_neg e, if_pos hx, m_note a b, bd1_some, ltI_eq]
  have e1 : ((nte t ((t.1 553 (ix x3)) >>> (cI 24 &&& 31))).1 549 9).toInt = (t.1 549 9).toInt + 1 := by rw [nte_9, inc_i (by omega)]
  rw [st (n + 4) t (cI 24) (by decide) h0 (by omega), st (n + 3) _ _ (by decide) (by omega) (by omega), nte_ne (c := 553) (by decide) (by decide)]
  generalize hs1 : nte t ((t.1 553 (ix x3)) >>> (cI 24 &&& 31)) = s1 at e1 ⊢
  have e2 : ((nte s1 ((t.1 553 (ix x3)) >>> (cI 16 &&& 31))).1 549 9).toInt = (t.1 549 9).toInt + 2 := by rw [nte_9, inc_i (by omega)]; omega
  have q1 : s1.1 553 = t.1 553 := by rw [← hs1]; exact nte_ne (by decide) (by decide)
  rw [show cI 24 - cI 8 = cI 16 from rfl, st (n + 2) _ _ (by decide) (by omega) (by omega), nte_ne (c := 553) (by decide) (by decide), q1]
  generalize hs2 : nte s1 ((t.1 553 (ix x3)) >>> (cI 16 &&& 31)) = s2 at e2 ⊢
  have q2 : s2.1 553 = t.1 553 := by rw [← hs2]; exact (nte_ne (by decide) (by decide)).trans q1
  have e3 : ((nte s2 ((t.1 553 (ix x3)) >>> (cI 8 &&& 31))).1 549 9).toInt = (t.1 549 9).toInt + 3 := by rw [nte_9, inc_i (by omega)]; omega
  rw [show cI 16 - cI 8 = cI 8 from rfl, st (n + 1) _ _ (by decide) (by omega) (by omega), nte_ne (c := 553) (by decide) (by decide), q2, show cI 8 - cI 8 = cI 0 from rfl]
  simp only [fM_call_h109, if_pos (show cI 0 - cI 8 < 0 by decide)]
  rw [← hs2, ← hs1]
  rfl
theorem nt_h171 {x2 : Int32} : ∀ (m n : Nat) {t : ev_M} {x3 : Int32}, 0 ≤ x3.toInt → (t.1 549 13).toInt ≤ 4096 → x3.toInt + m = (t.1 549 13).toInt → 0 ≤ (t.1 549 9).toInt → (t.1 549 9).toInt + m ≤ 37200 → fM_call_h171 (n + m + 1) t x2 x3 = fM_call_b195 (nteL (txtL (t.1 554) (ix x3) m) t) x2
  | 0, n, t, x3, h0, h1, h2, h3, h4 => by
    have e : ¬ x3 < t.1 549 13 := by rw [lt_i]; omega
    simp only [fM_call_h171, if_neg e]
    rfl
  | m + 1, n, t, x3, h0, h1, h2, h3, h4 => by
    have e : x3 < t.1 549 13 := by rw [lt_i]; omega
    have hb : inb x3 4096 = true := inb_iff.mpr ⟨h0, by omega⟩
    have e1 : ((nte t (t.1 554 (ix x3))).1 549 9).toInt = (t.1 549 9).toInt + 1 := by rw [nte_9, inc_i (by omega)]
    have i1 : (x3 + cI 1).toInt = x3.toInt + 1 := inc_i (by omega)
    have a1 : (nte t (t.1 554 (ix x3))).1 549 13 = t.1 549 13 := nte_k (by decide)
    have a2 : (nte t (t.1 554 (ix x3))).1 554 = t.1 554 := nte_ne (by decide) (by decide)
    have ih := nt_h171 (x2 := x2) m n (t := nte t (t.1 554 (ix x3))) (x3 := x3 + cI 1) (by omega) (by rw [a1]; exact h1) (by rw [a1]; omega) (by omega) (by omega)
    show fM_call_h171 ((n + m + 1) + 1) t x2 x3 = _
    generalize n + m + 1 = q at ih ⊢
    simp only [fM_call_h171, if_pos e, if_pos hb, m_note h3 (by omega), bd1_some]
    rw [ih, a2, ix_inc h0 (by omega)]
    rfl
def nteT (t : ev_M) (x1 x2 : Int32) : Option (ev_M × Int32) := bd1 (fM_reads t x1) fun v6 => if v6 = 0 then fM_call_b195 t x2 else bd1 (fM_note t ((t.1 549 13) >>> ((cI 8) &&& 31))) fun s7 => bd1 (fM_note s7 (s7.1 549 13)) fun s8 => fM_call_h171 1048576 s8 x2 (cI 0)
theorem nt_h97 {x1 x2 : Int32} (g1 : 1 ≤ x1.toInt) (g2 : x1.toInt ≤ 40) : ∀ (m n : Nat) {t : ev_M} {x3 : Int32}, 0 ≤ x3.toInt → x3.toInt + m = nAr.getD (ix x1) 0 → 0 ≤ (t.1 549 9).toInt → (t.1 549 9).toInt + 4 * m ≤ 37200 → fM_call_h97 (n + m + 1) t x1 x2 x3 = nteT (nteL (argB (t.1 553) (ix x3) m) t) x1 x2
  | 0, n, t, x3, h0, h2, h3, h4 => by
    have hl := nAr_le (ix x1)
    have e : ¬ x3 < cI ((nAr.getD (ix x1) 0 : Nat) : Int) := by
      rw [lt_i, cI_toInt (by omega) (by omega)]
      omega
    simp only [fM_call_h97, m_args g1 g2, bd1_some, if_neg e]
    rfl
  | m + 1, n, t, x3, h0, h2, h3, h4 => by
    have hl := nAr_le (ix x1)
    have e : x3 < cI ((nAr.getD (ix x1) 0 : Nat) : Int) := by
      rw [lt_i, cI_toInt (by omega) (by omega)]
      omega
    have hx : inb x3 6 = true := inb_iff.mpr ⟨h0, by omega⟩
    have i1 : (x3 + cI 1).toInt = x3.toInt + 1 := inc_i (by omega)
    have l4 : (wB (t.1 553 (ix x3))).length = 4 := rfl
    have e6 := nteL_9 (wB (t.1 553 (ix x3))) (t := t) h3 (by rw [l4]; omega)
    have a14 : (nteL (wB (t.1 553 (ix x3))) t).1 553 = t.1 553 := nteL_ne (by decide) (by decide) _
    have ih := nt_h97 (x2 := x2) g1 g2 m n (t := nteL (wB (t.1 553 (ix x3))) t) (x3 := x3 + cI 1) (by omega) (by omega) (by omega) (by omega)
    show fM_call_h97 ((n + m + 1) + 1) t x1 x2 x3 = _
    generalize n + m + 1 = q at ih ⊢
    simp only [fM_call_h97, m_args g1 g2, bd1_some, if_pos e]
    rw [show (1048576 : Nat) = 1048571 + 5 from rfl, nt_h109 hx h3 (by omega), ih, a14, ix_inc h0 (by omega), nteL_app]
    rfl
theorem m_record {t : ev_M} {x1 x2 : Int32} (g1 : 1 ≤ x1.toInt) (g2 : x1.toInt ≤ 40) (t0 : rdT x1 → 0 ≤ (t.1 549 13).toInt) (t1 : rdT x1 → (t.1 549 13).toInt ≤ 4096) (h3 : 0 ≤ (t.1 549 9).toInt) (h4 : (t.1 549 9).toInt + recN x1 (t.1 549 13) ≤ 37200) : (bd1 (fM_note t x1) fun s11 => fM_call_h97 1048576 s11 x1 x2 (cI 0)) = fM_call_b195 (nteL (recB x1 (t.1 553) (t.1 549 13) (t.1 554)) t) x2 := by
  have hN : recN x1 (t.1 549 13) = 1 + 4 * nAr.getD (ix x1) 0 + (if rdT x1 then 2 + ix (t.1 549 13) else 0) := rfl
  have hl := nAr_le (ix x1)
  rw [m_note h3 (by omega), bd1_some]
  have e1 : ((nte t x1).1 549 9).toInt = (t.1 549 9).toInt + 1 := by rw [nte_9, inc_i (by omega)]
  have a14 : (nte t x1).1 553 = t.1 553 := nte_ne (by decide) (by decide)
  rw [show (1048576 : Nat) = (1048575 - nAr.getD (ix x1) 0) + nAr.getD (ix x1) 0 + 1 by omega, nt_h97 g1 g2 (nAr.getD (ix x1) 0) _ (t := nte t x1) (x3 := cI 0) (by decide) (by rw [show (cI 0).toInt = 0 from rfl]; omega) (by omega) (by omega), a14, ix_0]
  show nteT (nteL (argB (t.1 553) 0 (nAr.getD (ix x1) 0)) (nte t x1)) x1 x2 = fM_call_b195 (nteL (argB (t.1 553) 0 (nAr.getD (ix x1) 0) ++ _) (nte t x1)) x2
  rw [← nteL_app]
  have e2 := nteL_9 (argB (t.1 553) 0 (nAr.getD (ix x1) 0)) (t := nte t x1) (by omega) (by rw [argB_len]; omega)
  rw [argB_len] at e2
  have u1 : (nteL (argB (t.1 553) 0 (nAr.getD (ix x1) 0)) (nte t x1)).1 549 13 = t.1 549 13 := (nteL_k (by decide) _).trans (nte_k (by decide))
  have u2 : (nteL (argB (t.1 553) 0 (nAr.getD (ix x1) 0)) (nte t x1)).1 554 = t.1 554 := (nteL_ne (by decide) (by decide) _).trans (nte_ne (by decide) (by decide))
  generalize nteL (argB (t.1 553) 0 (nAr.getD (ix x1) 0)) (nte t x1) = u at e2 u1 u2 ⊢
  unfold nteT
  rw [m_reads, bd1_some, ite_bI]
  by_cases hr : rdT x1
  · rw [if_pos hr] at hN
    have t0 := t0 hr
    have t1 := t1 hr
    have hi : (ix (t.1 549 13) : Int) = (t.1 549 13).toInt := ix_int t0
    rw [if_pos hr, if_pos hr, m_note (by omega) (by omega), bd1_some]
    have e3 : ((nte u (u.1 549 13 >>> (cI 8 &&& 31))).1 549 9).toInt = (u.1 549 9).toInt + 1 := by rw [nte_9, inc_i (by omega)]
    have v1 : (nte u (u.1 549 13 >>> (cI 8 &&& 31))).1 549 13 = t.1 549 13 := (nte_k (by decide)).trans u1
    have v2 : (nte u (u.1 549 13 >>> (cI 8 &&& 31))).1 554 = t.1 554 := (nte_ne (by decide) (by decide)).trans u2
    rw [m_note (by omega) (by omega), bd1_some]
    have e4 : ((nte (nte u (u.1 549 13 >>> (cI 8 &&& 31))) ((nte u (u.1 549 13 >>> (cI 8 &&& 31))).1 549 13)).1 549 9).toInt = (u.1 549 9).toInt + 2 := by rw [nte_9, inc_i (by omega)]; omega
    have w1 : (nte (nte u (u.1 549 13 >>> (cI 8 &&& 31))) ((nte u (u.1 549 13 >>> (cI 8 &&& 31))).1 549 13)).1 549 13 = t.1 549 13 := (nte_k (by decide)).trans v1
    have w2 : (nte (nte u (u.1 549 13 >>> (cI 8 &&& 31))) ((nte u (u.1 549 13 >>> (cI 8 &&& 31))).1 549 13)).1 554 = t.1 554 := (nte_ne (by decide) (by decide)).trans v2
    have h171 := nt_h171 (x2 := x2) (ix (t.1 549 13)) (1048575 - ix (t.1 549 13)) (t := nte (nte u (u.1 549 13 >>> (cI 8 &&& 31))) ((nte u (u.1 549 13 >>> (cI 8 &&& 31))).1 549 13)) (x3 := cI 0) (by decide) (by rw [w1]; exact t1) (by rw [w1, show (cI 0).toInt = 0 from rfl]; omega) (by omega) (by omega)
    rw [show 1048575 - ix (t.1 549 13) + ix (t.1 549 13) + 1 = 1048576 by omega] at h171
    rw [h171, w2, v1, u1]
    rfl
  · rw [if_neg hr, if_neg hr]
    rfl
/-- disk, tears, the cut -/
def RDsk (s t : ev_M) : Prop := (∀ j, j < 38400 → t.1 551 (j + 256) = s.1 10 j) ∧ Bd 38400 (s.1 10) (-128) 127 ∧ (∀ b, b < 150 → t.1 555 (b + 1) = s.1 11 b ∧ (s.1 11 b = 0 ∨ s.1 11 b = 1)) ∧ (t.1 549 6 = s.1 9 10 ∧ Rg (-1) (s.1 9 10) 2000) ∧ (t.1 549 7 = s.1 9 11 ∧ Rg 0 (s.1 9 11) 255)
/-- the log between calls -/
def RLog (s t : ev_M) : Prop := Arg41 s ∧ (t.1 549 5 = s.1 9 9 ∧ (s.1 9 9 = 0 ∨ s.1 9 9 = 1)) ∧ (t.1 549 4 = s.1 9 4 ∧ Rg 0 (s.1 9 4) 150) ∧ RWt s t ∧ (s.1 9 6).toInt ≤ 248 * (150 - (s.1 9 4).toInt) ∧ t.1 549 10 = s.1 9 7 ∧ s.1 9 12 = 0 ∧ RDsk s t
def LgC : List (Nat × Nat) := [(1, 2), (2, 0), (1003, 0)]
def LgM : List (Nat × Nat) := [(549, 5), (549, 6), (549, 7), (549, 8), (549, 10), (549, 11), (549, 14), (549, 15), (549, 17), (551, 0), (552, 0), (553, 0), (554, 0), (555, 0)]
theorem act_C : nof F_PH_act_1 LgC = true := by decide +kernel
theorem act_M : nof F_M_act LgM = true := by decide +kernel
theorem RWt_of {s t s' t' : ev_M} (h : RWt s t) (e1 : s'.1 9 6 = s.1 9 6) (e2 : s'.1 13 = s.1 13) (e3 : t'.1 549 9 = t.1 549 9) (e4 : t'.1 552 = t.1 552) : RWt s' t' := by
  unfold RWt at h ⊢
  rw [e1, e2, e3, e4]
  exact h
theorem RDsk_of {s t s' t' : ev_M} (h : RDsk s t) (e1 : s'.1 10 = s.1 10) (e2 : s'.1 11 = s.1 11) (e3 : s'.1 9 10 = s.1 9 10) (e4 : s'.1 9 11 = s.1 9 11) (f1 : t'.1 551 = t.1 551) (f2 : t'.1 555 = t.1 555) (f3 : t'.1 549 6 = t.1 549 6) (f4 : t'.1 549 7 = t.1 549 7) : RDsk s' t' := by
  unfold RDsk at h ⊢
  rw [e1, e2, e3, e4, f1, f2, f3, f4]
  exact h
theorem stg_ne {s : ev_M} {num a b c d e f : Int32} {z : Nat} (h1 : z ≠ 9) (h2 : z ≠ 14) : (stg s num a b c d e f).1 z = s.1 z := by
  unfold stg
  rw [wI_ne h2, wI_ne h2, wI_ne h2, wI_ne h2, wI_ne h2, wI_ne h2, wI_ne h1]
theorem stg_9 {s : ev_M} {num a b c d e f : Int32} {k : Nat} (h : k ≠ 14) : (stg s num a b c d e f).1 9 k = s.1 9 k := by
  unfold stg
  simp (disch := decide) only [wI_ne]
  rw [wI_c, up1_ne h]
theorem stg_14 {s : ev_M} {num a b c d e f : Int32} : (stg s num a b c d e f).1 9 14 = num := by
  unfold stg
  simp (disch := decide) only [wI_ne]
  rw [wI_c, up1_eq]
theorem stg_L {s : ev_M} {num a b c d e f : Int32} : (stg s num a b c d e f).2 = s.2 := rfl
/-- the two sides' arguments -/
def ArgE (num : Int32) (f g : Nat → Int32) : Prop := ∀ k, k < nAr.getD (ix num) 0 → g k = f k
theorem recB_eq {num len : Int32} {f g tx : Nat → Int32} {len' : Int32} {tx' : Nat → Int32} (h : ArgE num f g) (h2 : rdT num → len' = len ∧ ∀ k, k < ix len → tx' k = tx k) : recB num g len' tx' = recB num f len tx := by
  unfold recB
  rw [argB_eq (f := f) (g := g) (nAr.getD (ix num) 0) 0 (fun j _ hj => h j (by omega))]
  by_cases hr : rdT num
  · obtain ⟨e1, e2⟩ := h2 hr
    rw [if_pos hr, if_pos hr, e1, txtL_eq (f := tx) (g := tx') (ix len) 0 (fun j _ hj => e2 j (by omega))]
  · rw [if_neg hr, if_neg hr]
theorem recN_eq {num len len' : Int32} (h : rdT num → len' = len) : recN num len' = recN num len := by
  unfold recN
  by_cases hr : rdT num
  · rw [if_pos hr, if_pos hr, h hr]
  · rw [if_neg hr, if_neg hr]
/-- where the reference's notes of a record come -/
def NTF : List (Nat × (Nat × Nat)) := [(552, 552, 0), (549, 549, 10), (549, 549, 11)]
theorem nteL_fr : ∀ (l : List Int32) {t : ev_M}, fr NTF t (nteL l t)
  | [], _ => fr.rf
  | v :: l, t => (fr.tr (F := NTF) (fr.wI (fr.wI fr.rf rfl) rfl) (nteL_fr l (t := nte t v)))
/-- a call of an act, once both sides are staged and up -/
theorem call_up {s1 t1 : ev_M} {num : Int32} {R0 R1 : ev_M → ev_M → Prop} (g1 : 1 ≤ num.toInt) (g2 : num.toInt ≤ 40) (hA : Arg41 s1) (en : s1.1 9 14 = num) (em : t1.1 549 16 = num) (er : t1.1 549 14 = 0) (e15 : t1.1 549 15 = 0) (hu : t1.1 549 4 = s1.1 9 4 ∧ Rg 0 (s1.1 9 4) 150) (hw : RWt s1 t1) (hcap : (s1.1 9 6).toInt ≤ 248 * (150 - (s1.1 9 4).toInt)) (h10 : t1.1 549 10 = s1.1 9 7) (h12 : s1.1 9 12 = 0) (hdn : t1.1 549 5 = s1.1 9 9 ∧ (s1.1 9 9 = 0 ∨ s1.1 9 9 = 1)) (hD : RDsk s1 t1) (ht : Rg 0 (s1.1 1 1) 4096) (harg : ArgE num (s1.1 14) (t1.1 553)) (hdoc : rdT num → t1.1 549 13 = s1.1 1 1 ∧ ∀ k, k < ix (s1.1 1 1) → t1.1 554 k = s1.1 2 k)
    (hR1 : ∀ x y z, fr NTF y z → R1 x y → R1 x z) (hact : ∀ F A, AdmC s1 F A → FulM t1 F → Ok (fPH_act_1 s1) fun x => Ok (fM_act t1) fun y => AP R0 R1 F A s1 x y) :
    Ok (fPH_act_1 s1) fun x => Ok (fM_call_b78 t1 num) fun y => x.2 = y.2 ∧ RLog x.1 y.1 ∧ (R0 x.1 y.1 ∨ R1 x.1 y.1) := by
  obtain ⟨u1, u2, u3⟩ := hu
  obtain ⟨w1, w2, w3⟩ := id hw
  have hcap2 : (s1.1 9 6).toInt ≤ 37200 := by omega
  have hAct : RAct s1 t1 := ⟨hA, ⟨by rw [em, en], by rw [en]; exact ⟨g1, g2⟩⟩, by rw [er, h12], ⟨u1, u2, u3⟩, ⟨w1, w2, hcap2⟩, ht, fun h _ => (hdoc (by rw [← en]; exact h)).1⟩
  obtain ⟨x, ex, y, ey, hv, hap⟩ := hact _ _ hAct.adm hAct.ful
  have fx := fr_fPH_act_1 ex
  have fy := fr_fM_act ey
  have x3 : x.1.1 1003 = s1.1 1003 := (nof_c fx act_C (c := 1003) rfl).1
  have m4 : y.1.1 549 4 = t1.1 549 4 := (nof_s fy act_M (c := 549) (k := 4) rfl).1
  have m5 : y.1.1 549 5 = t1.1 549 5 := (nof_s fy act_M (c := 549) (k := 5) rfl).1
  have m6 : y.1.1 549 6 = t1.1 549 6 := (nof_s fy act_M (c := 549) (k := 6) rfl).1
  have m7 : y.1.1 549 7 = t1.1 549 7 := (nof_s fy act_M (c := 549) (k := 7) rfl).1
  have m9 : y.1.1 549 9 = t1.1 549 9 := (nof_s fy act_M (c := 549) (k := 9) rfl).1
  have m10 : y.1.1 549 10 = t1.1 549 10 := (nof_s fy act_M (c := 549) (k := 10) rfl).1
  have m13 : y.1.1 549 13 = t1.1 549 13 := (nof_s fy act_M (c := 549) (k := 13) rfl).1
  have m551 : y.1.1 551 = t1.1 551 := (nof_c fy act_M (c := 551) rfl).1
  have m552 : y.1.1 552 = t1.1 552 := (nof_c fy act_M (c := 552) rfl).1
  have m553 : y.1.1 553 = t1.1 553 := (nof_c fy act_M (c := 553) rfl).1
  have m554 : y.1.1 554 = t1.1 554 := (nof_c fy act_M (c := 554) rfl).1
  have m555 : y.1.1 555 = t1.1 555 := (nof_c fy act_M (c := 555) rfl).1
  refine ⟨x, ex, ?_⟩
  unfold fM_call_b78
  rw [ey, bd2_some]
  rcases hap with ⟨r1, r2, r3⟩ | ⟨r1, r2, r3, r4⟩
  · rw [if_neg (by rw [r1]; decide), ok_some]
    obtain ⟨l1, l2, l3, l4⟩ := r2
    have c9 := l1 9 (by decide) (by decide)
    refine ⟨hv, ⟨fun j hj => (congrFun x3 j).trans (hA j hj), ⟨by rw [m5, c9]; exact hdn.1, by rw [c9]; exact hdn.2⟩, ⟨by rw [m4, c9]; exact u1, by rw [c9]; exact ⟨u2, u3⟩⟩, RWt_of hw (by rw [c9]) (l1 13 (by decide) (by decide)) m9 m552, by rw [c9]; exact hcap, by rw [m10, c9]; exact h10, by rw [c9]; exact h12, RDsk_of hD (l1 10 (by decide) (by decide)) (l1 11 (by decide) (by decide)) (by rw [c9]) (by rw [c9]) m551 m555 m6 m7⟩, Or.inl r3⟩
  · have hfull : ¬ 248 * (150 - (s1.1 9 4).toInt) < (s1.1 9 6).toInt + recN num (s1.1 1 1) := fun z => by
      have : lgF s1 = true := decide_eq_true ⟨h12, by rw [en]; exact z⟩
      rw [this] at r2
      cases r2
    obtain ⟨l1, l2, l3, l4⟩ := r3
    have hN : recN num (y.1.1 549 13) = recN num (s1.1 1 1) := recN_eq (fun h => by rw [m13]; exact (hdoc h).1)
    have hB : recB num (y.1.1 553) (y.1.1 549 13) (y.1.1 554) = recB num (s1.1 14) (s1.1 1 1) (s1.1 2) := recB_eq (fun k hk => by rw [m553]; exact harg k hk) (fun h => by rw [m13, m554]; exact hdoc h)
    rw [if_pos r1, m_record g1 g2 (fun h => by rw [m13, (hdoc h).1]; exact ht.1) (fun h => by rw [m13, (hdoc h).1]; exact ht.2) (by rw [m9, w1]; exact w2) (by rw [hN, m9, w1]; omega), hB]
    unfold fM_call_b195
    rw [ltM_eq, ok_some]
    have eA : (lgR s1).1 = (wI (appL (recB num (s1.1 14) (s1.1 1 1) (s1.1 2)) s1) 9 7 (s1.1 9 7 + cI 1)).1 := by
      unfold lgR
      rw [if_pos h12, en]
    have hlen := recB_len (num := num) (f := s1.1 14) (len := s1.1 1 1) (tx := s1.1 2)
    have hRW := RWt_appL (recB num (s1.1 14) (s1.1 1 1) (s1.1 2)) (RWt_of hw rfl rfl m9 m552) (by rw [hlen]; omega)
    have a6 := appL_6 (recB num (s1.1 14) (s1.1 1 1) (s1.1 2)) (s := s1) w2 (by rw [hlen]; omega)
    rw [hlen] at a6
    generalize recB num (s1.1 14) (s1.1 1 1) (s1.1 2) = l at *
    have k9 : ∀ k, k ≠ 6 → k ≠ 7 → x.1.1 9 k = s1.1 9 k := fun k h6 h7 => by
      rw [l1 9 (by decide) (by decide)]
      show (if 9 ≤ 9 ∧ 9 ≤ 14 then (lgR s1).1 9 k else s1.1 9 k) = _
      rw [if_pos (by decide), eA, wI_c, up1_ne h7, appL_9 h6]
    have k96 : x.1.1 9 6 = (appL l s1).1 9 6 := by
      rw [l1 9 (by decide) (by decide)]
      show (if 9 ≤ 9 ∧ 9 ≤ 14 then (lgR s1).1 9 6 else s1.1 9 6) = _
      rw [if_pos (by decide), eA, wI_c, up1_ne (by decide)]
    have k97 : x.1.1 9 7 = s1.1 9 7 + cI 1 := by
      rw [l1 9 (by decide) (by decide)]
      show (if 9 ≤ 9 ∧ 9 ≤ 14 then (lgR s1).1 9 7 else s1.1 9 7) = _
      rw [if_pos (by decide), eA, wI_c, up1_eq]
    have kc : ∀ c, 10 ≤ c → c ≤ 14 → x.1.1 c = (appL l s1).1 c := fun c hc1 hc2 => by
      rw [l1 c (by omega) hc2]
      funext k
      show (if 9 ≤ c ∧ c ≤ 14 then (lgR s1).1 c k else s1.1 c k) = _
      rw [if_pos ⟨by omega, hc2⟩, eA, wI_ne (by omega)]
    have z5 : ∀ k, k ≠ 9 → k ≠ 10 → (wI (nteL l y.1) 549 10 ((nteL l y.1).1 549 10 + cI 1)).1 549 k = y.1.1 549 k := fun k h9 h10 => by
      rw [wI_c, up1_ne h10, nteL_k h9]
    have zc : ∀ c, c ≠ 549 → c ≠ 552 → (wI (nteL l y.1) 549 10 ((nteL l y.1).1 549 10 + cI 1)).1 c = y.1.1 c := fun c h1 h2 => by
      rw [wI_ne h1, nteL_ne h1 h2]
    refine ⟨hv, ⟨fun j hj => (congrFun x3 j).trans (hA j hj), ⟨by rw [z5 5 (by decide) (by decide), m5, k9 9 (by decide) (by decide)]; exact hdn.1, by rw [k9 9 (by decide) (by decide)]; exact hdn.2⟩, ⟨by rw [z5 4 (by decide) (by decide), m4, k9 4 (by decide) (by decide)]; exact u1, by rw [k9 4 (by decide) (by decide)]; exact ⟨u2, u3⟩⟩, RWt_of hRW k96 (kc 13 (by decide) (by decide)) (by rw [wI_c, up1_ne (by decide)]) (wI_ne (by decide)), by rw [k96, k9 4 (by decide) (by decide)]; omega, ?_, by rw [k9 12 (by decide) (by decide)]; exact h12, RDsk_of hD ((kc 10 (by decide) (by decide)).trans (appL_ne (by decide) (by decide) l)) ((kc 11 (by decide) (by decide)).trans (appL_ne (by decide) (by decide) l)) (k9 10 (by decide) (by decide)) (k9 11 (by decide) (by decide)) ((zc 551 (by decide) (by decide)).trans m551) ((zc 555 (by decide) (by decide)).trans m555) ((z5 6 (by decide) (by decide)).trans m6) ((z5 7 (by decide) (by decide)).trans m7)⟩, Or.inr (hR1 _ _ _ (fr.wI (nteL_fr l) rfl) r4)⟩
    rw [wI_c, up1_eq, nteL_k (by decide), m10, k97, h10]
