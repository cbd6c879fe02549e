/-! ===== LEVEL 3: the log done again: class and reference ===== -/
section
variable {s t s' t' : ev_M}
/-- the log while it is done again -/
def RPy (b : Nat) (s t : ev_M) : Prop := Arg41 s ∧ s.1 9 4 = cI (b : Int) ∧ t.1 549 4 = cI (b : Int) ∧ s.1 9 12 = cI 1 ∧ t.1 549 14 = cI 1 ∧ t.1 549 9 = cI 0 ∧ t.1 549 10 = cI 0 ∧ s.1 9 7 = cI 0 ∧ t.1 549 5 = cI 0 ∧ RDsk s t
def RPy_M : List (Nat × Nat) := [(549, 5), (549, 6), (549, 7), (549, 8), (549, 10), (549, 11), (549, 15), (551, 0), (555, 0)]
theorem RPy.to {b : Nat} {G : List (Nat × (Nat × Nat))} (h : RPy b s t) (e9 : ∀ k, k = 4 ∨ k = 7 ∨ k = 10 ∨ k = 11 ∨ k = 12 → s'.1 9 k = s.1 9 k) (e10 : s'.1 10 = s.1 10) (e11 : s'.1 11 = s.1 11) (e3 : s'.1 1003 = s.1 1003) (ht : fr G t t') (d : nof G RPy_M = true) : RPy b s' t' := by
  obtain ⟨a1, a2, a3, a4, a5, a6, a7, a8, a9, D⟩ := h
  have m4 : t'.1 549 4 = t.1 549 4 := (nof_s ht d (c := 549) (k := 4) (by decide +kernel)).1
  have m5 : t'.1 549 5 = t.1 549 5 := (nof_s ht d (c := 549) (k := 5) (by decide +kernel)).1
  have m6 : t'.1 549 6 = t.1 549 6 := (nof_s ht d (c := 549) (k := 6) (by decide +kernel)).1
  have m7 : t'.1 549 7 = t.1 549 7 := (nof_s ht d (c := 549) (k := 7) (by decide +kernel)).1
  have m9 : t'.1 549 9 = t.1 549 9 := (nof_s ht d (c := 549) (k := 9) (by decide +kernel)).1
  have m10 : t'.1 549 10 = t.1 549 10 := (nof_s ht d (c := 549) (k := 10) (by decide +kernel)).1
  have m14 : t'.1 549 14 = t.1 549 14 := (nof_s ht d (c := 549) (k := 14) (by decide +kernel)).1
  have m51 : t'.1 551 = t.1 551 := (nof_c ht d (c := 551) (by decide +kernel)).1
  have m55 : t'.1 555 = t.1 555 := (nof_c ht d (c := 555) (by decide +kernel)).1
  exact ⟨fun j hj => (congrFun e3 j).trans (a1 j hj), by rw [e9 4 (by simp)]; exact a2, m4.trans a3, by rw [e9 12 (by simp)]; exact a4, m14.trans a5, m9.trans a6, m10.trans a7, by rw [e9 7 (by simp)]; exact a8, m5.trans a9, RDsk_of D e10 e11 (e9 10 (by simp)) (e9 11 (by simp)) m51 m55 m6 m7⟩
/-- while the log is done again, an act is always admitted, and counted -/
theorem adm_again (h : s.1 9 12 = cI 1) : AdmC s false (wI s 9 13 (s.1 9 13 + cI 1)).1 := by
  intro x hx
  obtain ⟨h1, h2, h3, h4⟩ := hx
  have e9 : x.1 9 = s.1 9 := h1 9 (by decide) (by decide)
  unfold fLog_admits
  rw [e9, h, if_neg (show ¬ cI 1 = 0 by decide), ltM_eq, if_neg (show ¬ (false = true) by decide), bI_t (show false = false from rfl)]
  have e : wI x 9 13 (s.1 9 13 + cI 1) = lupd (wI s 9 13 (s.1 9 13 + cI 1)).1 x := by
    refine Prod.ext (funext fun c => ?_) rfl
    show (wI x 9 13 (s.1 9 13 + cI 1)).1 c = fun k => if 9 ≤ c ∧ c ≤ 14 then (wI s 9 13 (s.1 9 13 + cI 1)).1 c k else x.1 c k
    funext k
    by_cases z : 9 ≤ c ∧ c ≤ 14
    · rw [if_pos z]
      by_cases y : c = 9
      · rw [y, wI_c, wI_c, e9]
      · rw [wI_ne y, wI_ne y, h1 c z.1 z.2]
    · rw [if_neg z, wI_ne (by omega)]
  rw [e]
  rfl
theorem ful_again {b N : Nat} (hb : b ≤ 150) (h4 : t.1 549 4 = cI (b : Int)) (h9 : t.1 549 9 = cI 0) (h14 : t.1 549 14 = cI 1) (n1 : 1 ≤ N) (n2 : N ≤ 40) (h16 : t.1 549 16 = cI (N : Int)) : FulM t false := by
  intro y hy
  obtain ⟨y1, y2, y3, y4, y5⟩ := hy
  have hn : ¬ (y.1 549 14 = 0 ∧ 248 * (150 - (y.1 549 4).toInt) < (y.1 549 9).toInt + recN (y.1 549 16) 0) := fun u => by rw [y4, h14] at u; exact absurd u.1 (by decide)
  rw [m_full (t := y) (len := 0) (by rw [y5, h16, q_ti (by omega)]; omega) (by rw [y5, h16, q_ti (by omega)]; omega) (by rw [y1, h4, q_ti (by omega)]; omega) (by rw [y1, h4, q_ti (by omega)]; omega) (by rw [y2, h9]; decide) (by rw [y2, h9]; decide) (by decide) (by decide) (fun _ u => by rw [y4, h14] at u; exact absurd u (by decide)), bI_f hn, bI_f (show ¬ (false = true) by decide)]
end
def AGM : List (Nat × Nat) := RPy_M ++ [(549, 21), (549, 22), (557, 0)]
theorem ag_lp {b U : Nat} (hb : b ≤ 150) {x1 : Int32} {k26 : ev_M → Int32 → Option (ev_M × Int32)} : ∀ (r m m' j q P : Nat) (s t : ev_M) (x c : Int32), U - P ≤ r → r < m → r < m' → j ≤ P → 3 * q + (U - P) ≤ 2496000 → RPy b s t → RAg U P s t → RH q s t → s.1 9 13 = x + c → ∃ (S T : ev_M) (q' : Nat) (c' : Int32), fPH_start_h58 k26 m s x1 (cI (j : Int)) = fPH_start_b93 k26 S x1 ∧ fM_again_h7 m' t c = some (T, c') ∧ RPy b S T ∧ RH q' S T ∧ 3 * q' ≤ 3 * q + (U - P) ∧ S.1 9 13 = x + c' ∧ S.1 10 = s.1 10 := by
  intro r
  induction r with
  | zero =>
    intro m m' j q P s t x c hr hm hm' hj hq hP hA hR hx
    obtain ⟨m, rfl⟩ : ∃ k, m = k + 1 := ⟨m - 1, by omega⟩
    obtain ⟨m', rfl⟩ : ∃ k, m' = k + 1 := ⟨m' - 1, by omega⟩
    obtain ⟨r1, r2, r3, r4, r5, r6, r7⟩ := hA
    obtain rfl : P = U := by omega
    refine ⟨s, t, q, c, ?_, ?_, hP, hR, by omega, hx, rfl⟩
    · rw [fPH_start_h58]
      by_cases z : cI (j : Int) < cI 37200
      · have e : fLog_readsRecord_4 s = some (s, cI 0) := by
          unfold fLog_readsRecord_4
          rw [r4, r2, if_neg (by rw [lt_i]; omega)]
        rw [if_pos z, e, bd2_some, if_pos (show cI 0 = 0 from rfl)]
      · rw [if_neg z]
    · rw [fM_again_h7, r3, r1, if_neg (by rw [lt_i]; omega)]
  | succ r ih =>
    intro m m' j q P s t x c hr hm hm' hj hq hP hA hR hx
    by_cases hPU : U - P ≤ r
    · exact ih m m' j q P s t x c hPU (by omega) (by omega) hj hq hP hA hR hx
    obtain ⟨m, rfl⟩ : ∃ k, m = k + 1 := ⟨m - 1, by omega⟩
    obtain ⟨m', rfl⟩ : ∃ k, m' = k + 1 := ⟨m' - 1, by omega⟩
    obtain ⟨r1, r2, r3, r4, r5, r6, r7⟩ := id hA
    obtain ⟨s1, t1, v, a1, a2, a3⟩ := rec_ok hP.1 hA (by omega)
    have f1 := fr_fLog_readsRecord_4 a1
    have g1 := fr_fM_isRecord a2
    have R1 : RH q s1 t1 := hR.keep f1 g1 (by decide +kernel) (by decide +kernel)
    have dC : nof F_Log_readsRecord_4 [(9, 5), (9, 7), (9, 8), (9, 11), (9, 12), (9, 13), (9, 14), (10, 0), (11, 0), (13, 0), (1003, 0)] = true := by decide +kernel
    have c9 : ∀ k, k = 4 ∨ k = 7 ∨ k = 10 ∨ k = 11 ∨ k = 12 → s1.1 9 k = s.1 9 k := fun k hk => by
      rcases hk with rfl | rfl | rfl | rfl | rfl
      · exact (nof_s f1 dC (c := 9) (k := 4) rfl).1
      · exact (nof_s f1 dC (c := 9) (k := 7) rfl).1
      · exact (nof_s f1 dC (c := 9) (k := 10) rfl).1
      · exact (nof_s f1 dC (c := 9) (k := 11) rfl).1
      · exact (nof_s f1 dC (c := 9) (k := 12) rfl).1
    have s10 : s1.1 10 = s.1 10 := (nof_c f1 dC (c := 10) rfl).1
    have s13 : s1.1 13 = s.1 13 := (nof_c f1 dC (c := 13) rfl).1
    have s913 : s1.1 9 13 = s.1 9 13 := (nof_s f1 dC (c := 9) (k := 13) rfl).1
    have s96 : s1.1 9 6 = s.1 9 6 := (nof_s f1 dC (c := 9) (k := 6) rfl).1
    have P1 : RPy b s1 t1 := hP.to c9 s10 (nof_c f1 dC (c := 11) rfl).1 (nof_c f1 dC (c := 1003) rfl).1 g1 (by decide +kernel)
    have jl : cI (j : Int) < cI 37200 := by rw [lt_i, q_ti (by omega), show (cI 37200).toInt = 37200 from rfl]; omega
    have pl : t.1 549 21 < t.1 549 20 := by rw [r3, r1]; exact (q_lt (by omega) (by omega)).mpr (by omega)
    rcases a3 with e | ⟨e, P', N, p1, p2, p3, p4, n1, n2, n3, n4, n5, n6⟩
    · refine ⟨s1, t1, q, c, ?_, ?_, P1, R1, by omega, by rw [s913]; exact hx, s10⟩
      · rw [fPH_start_h58, if_pos jl, a1, bd2_some]; exact if_pos e
      · rw [fM_again_h7, if_pos pl, a2, bd2_some]; exact if_pos e
    · have v0 : ¬ v = 0 := by rw [e]; decide
      obtain ⟨T, eT⟩ : ∃ T, T = wI t1 549 15 (cI 0) := ⟨_, rfl⟩
      have fT : fr [(549, 549, 16)] t1 T := by rw [eT]; exact fr.rf.wI rfl
      have Tk : ∀ k, k ≠ 15 → T.1 549 k = t1.1 549 k := fun k hk => by rw [eT, wI_c, up1_ne hk]
      have Tc : ∀ k, k ≠ 549 → T.1 k = t1.1 k := fun k hk => by rw [eT, wI_ne hk]
      obtain ⟨b1, b2, b3, b4, b5, b6, b7, b8, b9, b10⟩ := id P1
      have hN1 : 1 ≤ (cI (N : Int)).toInt := by rw [q_ti (by omega)]; omega
      have hN2 : (cI (N : Int)).toInt ≤ 40 := by rw [q_ti (by omega)]; omega
      have act := act_4 (q := q) (s := s1) (t := T) (num := cI (N : Int)) (by omega) (adm_again b4) (ful_again hb ((Tk 4 (by decide)).trans b3) ((Tk 9 (by decide)).trans b6) ((Tk 14 (by decide)).trans b5) n1 n2 ((Tk 16 (by decide)).trans n4)) (by rw [eT, wI_c, up1_eq]; rfl) (fun u => by
        obtain ⟨x1, x2, x3, x4⟩ := n6 u
        exact ⟨(Tk 13 (by decide)).trans x1, x2, x3, fun k hk => by rw [Tc 554 (by decide)]; exact x4 k hk⟩) (R1.keep fr.rf fT (F := []) (by decide +kernel) (by decide +kernel)) hN1 hN2 n3 ((Tk 16 (by decide)).trans n4) (by rw [Tc 553 (by decide)]; exact n5)
      obtain ⟨y, ey, z, ez, e1, e2⟩ := act
      have fz := fr_fM_act ez
      have gz : fr ([(549, 549, 16)] ++ F_M_act) t1 z.1 := (fT.mono (contains_of fun q hq => List.mem_append_left _ hq)).tr (fz.mono (contains_of fun q hq => List.mem_append_right _ hq))
      have dM : nof ([(549, 549, 16)] ++ F_M_act) AGM = true := by decide +kernel
      have z20 : z.1.1 549 20 = cI (U : Int) := by
        have q1 : t1.1 549 20 = t.1 549 20 := (g1.1 549 20 (by decide +kernel)).1
        rw [(nof_s gz dM (c := 549) (k := 20) (by decide +kernel)).1, q1, r1]
      have z21 : z.1.1 549 21 = cI (P' : Int) := by rw [(nof_s gz dM (c := 549) (k := 21) (by decide +kernel)).1, p4]
      have z57 : z.1.1 557 = t.1 557 := by
        rw [(nof_c gz dM (c := 557) (by decide +kernel)).1]
        exact (nof_c g1 (L := [(557, 0)]) (by decide +kernel) (c := 557) rfl).1
      have go : ∀ (w d : Int32), (∀ k, k ≠ 13 → y.1.1 9 k = s1.1 9 k) → y.1.1 9 13 = s.1 9 13 + w → y.1.1 10 = s1.1 10 → y.1.1 11 = s1.1 11 → y.1.1 13 = s1.1 13 → y.1.1 1003 = s1.1 1003 → RH (q + 1) y.1 z.1 → d = c + w → ∃ (S T : ev_M) (q' : Nat) (c' : Int32), fPH_start_h58 k26 m y.1 x1 (cI ((j + 1 : Nat) : Int)) = fPH_start_b93 k26 S x1 ∧ fM_again_h7 m' z.1 d = some (T, c') ∧ RPy b S T ∧ RH q' S T ∧ 3 * q' ≤ 3 * q + (U - P) ∧ S.1 9 13 = x + c' ∧ S.1 10 = s.1 10 := fun w d k9 k13 k10 k11 kk k3 hH hd => by
        obtain ⟨S, T', q', c', u1, u2, u3, u4, u5, u6, u7⟩ := ih m m' (j + 1) (q + 1) P' y.1 z.1 x d (by omega) (by omega) (by omega) (by omega) (by omega) (P1.to (fun k hk => k9 k (by omega)) k10 k11 k3 gz (nof_sub dM (by decide +kernel))) ⟨z20, by rw [k9 6 (by decide), s96]; exact r2, z21, by rw [k9 8 (by decide)]; exact p3, r5, p2, fun i hi => by rw [z57, kk, s13]; exact r7 i hi⟩ hH (by rw [k13, hx, hd, Int32.add_assoc])
        exact ⟨S, T', q', c', u1, u2, u3, u4, by omega, u6, u7.trans (k10.trans s10)⟩
      rw [fPH_start_h58, if_pos jl, a1, bd2_some]
      dsimp only
      rw [if_neg v0, ey, bd2_some, q_s (by omega), fM_again_h7, if_pos pl, a2, bd2_some]
      dsimp only
      rw [if_neg v0, ltM_eq, ← eT, ez, bd2_some]
      unfold fM_again_b49
      rcases e2 with ⟨d1, ⟨d2, -, -, d3⟩, d4⟩ | ⟨d1, -, ⟨d2, -, -, d3⟩, d4⟩
      · rw [if_neg (show ¬ z.1.1 549 15 = 0 by rw [d1]; decide)]
        exact go 0 c (fun k _ => by rw [d2 9 (by decide) (by decide)]) (by rw [d2 9 (by decide) (by decide), s913, Int32.add_zero]) (d2 10 (by decide) (by decide)) (d2 11 (by decide) (by decide)) (d2 13 (by decide) (by decide)) (d3 1003 (by decide)) d4 (Int32.add_zero c).symm
      · rw [if_pos d1]
        have la : ∀ k, 9 ≤ k → k ≤ 14 → y.1.1 k = (wI s1 9 13 (s1.1 9 13 + cI 1)).1 k := fun k h1 h2 => by
          rw [d2 k h1 h2]
          funext i
          show (if 9 ≤ k ∧ k ≤ 14 then _ else _) = _
          rw [if_pos ⟨h1, h2⟩]
        exact go (cI 1) (c + cI 1) (fun k hk => by rw [la 9 (by decide) (by decide), wI_c, up1_ne hk]) (by rw [la 9 (by decide) (by decide), wI_c, up1_eq, s913]) (by rw [la 10 (by decide) (by decide), wI_ne (by decide)]) (by rw [la 11 (by decide) (by decide), wI_ne (by decide)]) (by rw [la 13 (by decide) (by decide), wI_ne (by decide)]) ((d3 1003 (by decide)).trans (lupd_ne (Or.inr (by decide)))) d4 rfl
