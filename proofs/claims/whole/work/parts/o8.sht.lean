/-! ===== LEVEL 3: the sheet: the act ===== -/
theorem RBk.kp {s t s' t' : ev_M} {F G : List (Nat × (Nat × Nat))} (h : RBk s t) (hs : fr F s s') (ht : fr G t t') (d1 : nof F RPl_C = true) (d2 : nof G RPl_M = true) (d3 : nof F RSt_C = true) (d4 : nof G RSt_M = true) (d5 : nof F RRn_C = true) (d6 : nof G RRn_M = true) (d7 : nof F RPo_C = true) (d8 : nof G RPo_M = true) : RBk s' t' :=
  ⟨h.1.keep hs ht d1 d2, h.2.1.keep hs ht d3 d4, h.2.2.1.keep hs ht d5 d6, h.2.2.2.keep hs ht d7 d8⟩
/-- what the sheet is after the act, and before -/
def RSs (s t : ev_M) : Prop := RSg s t ∧ RSh s t ∧ Sym s t ∧ (s.1 52 2 = 0 → s.1 52 3 = cI (-1))
def FshC : List (Nat × (Nat × Nat)) := [(53, 53, 0)] ++ FptC ++ FjlC ++ [(61, 61, 0)] ++ FkbC
def FshM : List (Nat × (Nat × Nat)) := [(649, 649, 0), (650, 650, 0)] ++ FptM ++ [(656, 656, 0)] ++ FlyM ++ [(549, 549, 49)]
/-- from the dark on -/
theorem sh_core {w h : Nat} {s t : ev_M} (D : Dim w h s t) (S : Shd (w * h) s t) (e13 : t.1 549 13 = cI ((w * h : Nat) : Int)) (e146 : t.1 549 146 = cI 0) (Sy : Sym s t) (R : RBk s t) (e2 : s.1 52 2 = cI 1) : ∃ (s' t' : ev_M) (v : Int32), (bd1 (fSheet_findParts s) fun s8 => bd1 (fSheet_joinLines s8) fun s9 => bd1 (fSheet_orderParts s9) fun s10 => bd1 (fSheet_keepLines s10) fun s11 => bd2 (fSheet_reading s11) fun s12 v13 => some (s12, v13)) = some (s', v) ∧ fM_doSheet_h75 1048576 t (cI 0) = some (t', v) ∧ RSs s' t' ∧ fr (FshC ++ FrgC) s s' ∧ fr (FshM ++ (FrgM ++ [(549, 549, 50)])) t t' := by
  obtain ⟨s8, t8, n, a1, a2, a3, a4, a5, a6, a7, a8⟩ := parts_ok D S e13 e146
  have Sy8 := Sy.keep a7 a8 (by decide +kernel) (by decide +kernel)
  obtain ⟨g, O, K, s9, s10, s11, t9, t10, b1, b2, b3, b4, b5, b6, b7, b8, b9, b10, b11, b12, b13, b14⟩ := sheet_ok a3 a4 a5 a6 Sy8
  have M := sh_mod b6 b8 b9 b10
  have k8 := b8.1
  have gC : fr FshC s s11 := ((((a7.mono (by decide +kernel)).tr (b11.mono (by decide +kernel))).tr (b12.mono (by decide +kernel))).tr (k8.mono (by decide +kernel)))
  have gM : fr FshM t (wI t10 549 48 (cI 1)) := fr.wI (((a8.mono (by decide +kernel)).tr (b13.mono (by decide +kernel))).tr (b14.mono (by decide +kernel))) (by decide +kernel)
  have M2 : RSh s11 (wI t10 549 48 (cI 1)) := M.keep rf_fr (fr.rf.wI (F := [(549, 549, 49)]) rfl) (by decide +kernel) (by decide +kernel)
  obtain ⟨s', t', v, c1, c2, c3, c4, c5, c6⟩ := rg_ok M2 (Sy.keep gC gM (by decide +kernel) (by decide +kernel)) (R.kp gC gM (by decide +kernel) (by decide +kernel) (by decide +kernel) (by decide +kernel) (by decide +kernel) (by decide +kernel) (by decide +kernel) (by decide +kernel))
  have c7 : fr (FrgM ++ [(549, 549, 50)]) (wI t10 549 48 (cI 1)) (wI t' 549 49 v) := fr.wI (c6.mono (by decide +kernel)) (by decide +kernel)
  have m49 : (wI t' 549 49 v).1 549 49 = v := by rw [wI_c, up1_eq]
  refine ⟨s', wI t' 549 49 v, v, ?_, ?_, ⟨⟨?_, Or.inr ⟨?_, ?_⟩⟩, ?_, ?_, ?_⟩, (gC.mono (by decide +kernel)).tr (c5.mono (by decide +kernel)), (gM.mono (by decide +kernel)).tr (c7.mono (by decide +kernel))⟩
  · rw [a1, bd1_some, b3, bd1_some, b4, bd1_some, b5, bd1_some, c1, bd2_some]
  · rw [a2]
    unfold shTl
    rw [b1, bd1_some, b2, bd1_some, ltM_eq, c2, bd2_some, ltM_eq, m49]
  · rw [(c7.1 549 48 (by decide +kernel)).1, (c5.1 52 2 (by decide +kernel)).1, (gC.1 52 2 (by decide +kernel)).1, e2, wI_c, up1_eq]
  · rw [wI_c, up1_ne (by decide)]; exact c3
  · have c9 : s'.1 30 9 = s11.1 30 9 := (c5.1 30 9 (by decide +kernel)).1
    have g9 : s11.1 30 9 = s.1 30 9 := (gC.1 30 9 (by decide +kernel)).1
    obtain ⟨⟨-, n2, n3⟩, -⟩ := R.2.2.2
    have nn := ix_toNat (s.1 30 9)
    rw [c9, g9]
    rcases c4 with u | ⟨q, q1, q2⟩
    · rw [u]; exact ⟨by decide, by show (-1 : Int) ≤ _; omega⟩
    · rw [g9] at q1
      rw [q2]; unfold Rg; rw [q_ti (by omega)]; omega
  · exact M2.keep c5 c7 (by decide +kernel) (by decide +kernel)
  · exact (Sy.keep gC gM (by decide +kernel) (by decide +kernel)).keep c5 c7 (by decide +kernel) (by decide +kernel)
  · intro u
    rw [(c5.1 52 2 (by decide +kernel)).1, (gC.1 52 2 (by decide +kernel)).1, e2] at u
    exact absurd u (by decide)
theorem RSs.keep {s t s' t' : ev_M} {F G : List (Nat × (Nat × Nat))} (h : RSs s t) (hs : fr F s s') (ht : fr G t t') (d1 : nof F RSg_C = true) (d2 : nof G RSg_M = true) (d3 : nof F RSh_C = true) (d4 : nof G RSh_M = true) (d5 : nof F Sym_C = true) (d6 : nof G Sym_M = true) : RSs s' t' :=
  ⟨h.1.keep hs ht d1 d2, h.2.1.keep hs ht d3 d4, h.2.2.1.keep hs ht d5 d6, by
    rw [(nof_s hs d1 (c := 52) (k := 2) rfl).1, (nof_s hs d1 (c := 52) (k := 3) rfl).1]; exact h.2.2.2⟩
theorem a_sheet1 {s t : ev_M} {F : Bool} {A : Nat → Nat → Int32} {w : Int32} (hA : AdmC s F A) (hM : FulM t F) (h0 : t.1 549 15 = 0) (h : RSs s t) (R : RBk s t) (hx : RTx1 s t) : Ok (fSheet_show_1 s w) fun x => Ok (fM_doSheet t w) fun y => AP RSs RSs F A s x y := by
  have hn : RSs s (wI t 549 15 (cI 1)) := h.keep rf_fr no_fr rfl rfl rfl rfl rfl rfl
  obtain ⟨x1, x2, x3, x4⟩ := hx
  by_cases h1 : InR w (cI 8) (cI 128)
  rotate_left
  · refine sim_no (c := cI (-102)) ?_ ?_ hn
    · unfold fSheet_show_1
      rw [outside_eq, bd1_some, ite_bI, if_pos h1]
    · unfold fM_doSheet fM_doSheet_b28
      rw [in_bI, bd1_some, ite_bI, if_neg h1, no_eq, bd2_some]
  by_cases h2 : s.1 1 1 = 0
  · refine sim_no (c := cI (-102)) ?_ ?_ hn
    · unfold fSheet_show_1
      rw [outside_eq, bd1_some, ite_bI, if_neg (fun u => u h1), if_pos h2]
    · unfold fM_doSheet fM_doSheet_b28
      rw [in_bI, bd1_some, ite_bI, if_pos h1, x1, if_pos h2, no_eq, bd2_some]
  obtain ⟨w1, w2⟩ := id h1
  have e8 : (cI 8).toInt = 8 := rfl
  have e128 : (cI 128).toInt = 128 := rfl
  have hw0 : ¬ w = 0 := fun u => by rw [u] at w1; exact absurd w1 (by decide)
  by_cases h3 : irem (s.1 1 1) w = 0
  rotate_left
  · refine sim_no (c := cI (-102)) ?_ ?_ hn
    · unfold fSheet_show_1
      rw [outside_eq, bd1_some, ite_bI, if_neg (fun u => u h1), if_neg h2, if_neg hw0, if_neg h3]
    · unfold fM_doSheet fM_doSheet_b28
      rw [in_bI, bd1_some, ite_bI, if_pos h1, x1, if_neg h2, if_neg hw0, if_neg h3, no_eq, bd2_some]
  by_cases hF : F = true
  · subst hF
    refine sim_no (c := cI (-104)) ?_ ?_ hn
    · unfold fSheet_show_1
      rw [outside_eq, bd1_some, ite_bI, if_neg (fun u => u h1), if_neg h2, if_neg hw0, if_pos h3, hA.no, bd2_some, if_pos rfl]
    · unfold fM_doSheet
      rw [in_bI, bd1_some, ite_bI, if_pos h1, x1, if_neg h2, if_neg hw0, if_pos h3, hM.no, bd1_some, if_neg (show ¬ (1 : Int32) = 0 by decide), no_eq, bd2_some]
  have hF2 : F = false := by cases F <;> simp_all
  subst hF2
  -- the sheet's measures
  have wx := ix_toNat w
  have nx := ix_toNat (s.1 1 1)
  have ew : cI ((ix w : Nat) : Int) = w := cI_ix (by omega)
  have ri := irem_toInt (x := s.1 1 1) (y := w) x2 (by omega)
  rw [h3, show (0 : Int32).toInt = 0 from rfl] at ri
  have hn0 : ¬ (s.1 1 1).toInt = 0 := fun u => h2 (by rw [eq_i]; exact u)
  obtain ⟨W, hW⟩ : ∃ W, W = ix w := ⟨_, rfl⟩
  obtain ⟨N, hN⟩ : ∃ N, N = ix (s.1 1 1) := ⟨_, rfl⟩
  have w8 : 8 ≤ W := by omega
  have w9 : W ≤ 128 := by omega
  have n0 : 0 < N := by omega
  have n9 : N ≤ 4096 := by omega
  have tn : (s.1 1 1).toInt = (N : Int) := by omega
  have tw : w.toInt = (W : Int) := by omega
  have dv : W ∣ N := by
    refine Nat.dvd_of_mod_eq_zero ?_
    rw [tn, tw] at ri
    omega
  have hm : W * (N / W) = N := Nat.mul_div_cancel' dv
  have hp : 0 < N / W := Nat.div_pos (Nat.le_of_dvd n0 dv) (by omega)
  have hl : N / W ≤ N := Nat.div_le_self _ _
  have eH : s.1 1 1 / w = cI ((N / W : Nat) : Int) := by
    rw [eq_i, div_toInt x2 (by omega), tn, tw, q_ti (by omega)]
    rfl
  have eW : w = cI (W : Int) := by rw [hW, ew]
  have eN : s.1 1 1 = cI (N : Int) := by rw [eq_i, tn, q_ti (by omega)]
  obtain ⟨s6, es6⟩ : ∃ x, x = wI (wI (wI (lupd A s) 52 2 (cI 1)) 52 4 w) 52 5 (s.1 1 1 / w) := ⟨_, rfl⟩
  obtain ⟨t6, et6⟩ : ∃ x, x = wI (wI (wI t 549 152 w) 549 153 (s.1 1 1 / w)) 549 146 (cI 0) := ⟨_, rfl⟩
  have f6 : fr [(52, 52, 3), (52, 52, 5), (52, 52, 6)] (lupd A s) s6 := by rw [es6]; exact ((fr.rf.wI rfl).wI rfl).wI rfl
  have g6 : fr [(549, 549, 153), (549, 549, 154), (549, 549, 147)] t t6 := by rw [et6]; exact ((fr.rf.wI rfl).wI rfl).wI rfl
  have c1 : s6.1 1 1 = s.1 1 1 := (f6.1 1 1 (by decide +kernel)).1.trans (congrFun (lupd_ne (Or.inl (by decide))) 1)
  have cb : s6.1 2 = s.1 2 := (funext fun k => (f6.1 2 k rfl).1 : s6.1 2 = (lupd A s).1 2).trans (lupd_ne (Or.inl (by decide)))
  have hx6 : RTx1 s6 t6 := by
    refine ⟨?_, by rw [c1]; exact x2, by rw [c1]; exact x3, fun k hk => ?_⟩
    · rw [c1, (g6.1 549 13 (by decide +kernel)).1]; exact x1
    · rw [c1] at hk
      rw [cb, (g6.1 554 k rfl).1]; exact x4 k hk
  obtain ⟨s7, t7, d1, d2, d3, d4, d5⟩ := dark1 hx6
  rw [c1, ← hN, ← hm] at d3
  have D7 : Dim W (N / W) s7 t7 := by
    refine ⟨⟨?_, ?_, ?_, ?_⟩, w8, w9, hp, by omega, by omega⟩
    · rw [(d4.1 52 4 rfl).1, es6, wI_c, up1_ne (by decide), wI_c, up1_eq]; exact eW
    · rw [(d4.1 52 5 rfl).1, es6, wI_c, up1_eq]; exact eH
    · rw [(d5.1 549 152 rfl).1, et6, wI_c, up1_ne (by decide), wI_c, up1_ne (by decide), wI_c, up1_eq]; exact eW
    · rw [(d5.1 549 153 rfl).1, et6, wI_c, up1_ne (by decide), wI_c, up1_eq]; exact eH
  have e13 : t7.1 549 13 = cI ((W * (N / W) : Nat) : Int) := by
    rw [(d5.1 549 13 rfl).1, (g6.1 549 13 (by decide +kernel)).1, x1, hm]; exact eN
  have e146 : t7.1 549 146 = cI 0 := by rw [(d5.1 549 146 rfl).1, et6, wI_c, up1_eq]
  have e2 : s7.1 52 2 = cI 1 := by rw [(d4.1 52 2 rfl).1, es6, wI_c, up1_ne (by decide), wI_c, up1_ne (by decide), wI_c, up1_eq]
  have Sy7 : Sym s7 t7 := ((h.2.2.1.keep lupd_fr rf_fr (by decide +kernel) (by decide +kernel)).keep f6 g6 (by decide +kernel) (by decide +kernel)).keep d4 d5 (by decide +kernel) (by decide +kernel)
  have R7 : RBk s7 t7 := ((R.kp lupd_fr rf_fr (by decide +kernel) (by decide +kernel) (by decide +kernel) (by decide +kernel) (by decide +kernel) (by decide +kernel) (by decide +kernel) (by decide +kernel)).kp f6 g6 (by decide +kernel) (by decide +kernel) (by decide +kernel) (by decide +kernel) (by decide +kernel) (by decide +kernel) (by decide +kernel) (by decide +kernel)).kp d4 d5 (by decide +kernel) (by decide +kernel) (by decide +kernel) (by decide +kernel) (by decide +kernel) (by decide +kernel) (by decide +kernel) (by decide +kernel)
  obtain ⟨s', t', v, v1, v2, v3, v4, v5⟩ := sh_core D7 d3 e13 e146 Sy7 R7 e2
  have kC : fSheet_show_1 s w = some (s', v) := by
    unfold fSheet_show_1
    rw [outside_eq, bd1_some, ite_bI, if_neg (fun u => u h1), if_neg h2, if_neg hw0, if_pos h3, hA.yes, bd2_some, if_neg (show ¬ (1 : Int32) = 0 by decide), ltM_eq, ltM_eq, if_neg hw0, ltM_eq, show (wI (wI (lupd A s) 52 2 (cI 1)) 52 4 w).1 1 1 = s.1 1 1 by rw [wI_ne (by decide), wI_ne (by decide), lupd_ne (Or.inl (by decide))], ← es6, d1, bd1_some]
    exact v1
  have kM : fM_doSheet t w = some (t', v) := by
    unfold fM_doSheet
    rw [in_bI, bd1_some, ite_bI, if_pos h1, x1, if_neg h2, if_neg hw0, if_pos h3, hM.yes, bd1_some, if_pos rfl, ltM_eq, if_neg hw0, ltM_eq, ltM_eq, show (wI t 549 152 w).1 549 13 = s.1 1 1 by rw [wI_c, up1_ne (by decide)]; exact x1]
    rw [← et6, d2, bd1_some]
    exact v2
  rw [kC, kM, ok_some, ok_some]
  refine ⟨rfl, Or.inr ⟨?_, rfl, ?_, v3⟩⟩
  · rw [(v5.1 549 15 (by decide +kernel)).1, (d5.1 549 15 rfl).1, (g6.1 549 15 (by decide +kernel)).1]; exact h0
  · have fa : fr ([(52, 52, 3), (52, 52, 5), (52, 52, 6)] ++ (FshC ++ FrgC)) (lupd A s) s' := ((f6.mono (by decide +kernel)).tr (d4.mono (by decide +kernel))).tr (v4.mono (by decide +kernel))
    exact lgS.fr fa (by decide +kernel) (by decide +kernel)
theorem a_sheet4 {s t : ev_M} {F : Bool} {A : Nat → Nat → Int32} {w : Int32} (hA : AdmC s F A) (hM : FulM t F) (h0 : t.1 549 15 = 0) (h : RSs s t) (R : RBk s t) (hx : RTx4 s t) : Ok (fSheet_show_4 s w) fun x => Ok (fM_doSheet t w) fun y => AP RSs RSs F A s x y := by
  have hn : RSs s (wI t 549 15 (cI 1)) := h.keep rf_fr no_fr rfl rfl rfl rfl rfl rfl
  obtain ⟨x1, x2, x3, x4⟩ := hx
  by_cases h1 : InR w (cI 8) (cI 128)
  rotate_left
  · refine sim_no (c := cI (-102)) ?_ ?_ hn
    · unfold fSheet_show_4
      rw [outside_eq, bd1_some, ite_bI, if_pos h1]
    · unfold fM_doSheet fM_doSheet_b28
      rw [in_bI, bd1_some, ite_bI, if_neg h1, no_eq, bd2_some]
  by_cases h2 : s.1 4 1 = 0
  · refine sim_no (c := cI (-102)) ?_ ?_ hn
    · unfold fSheet_show_4
      rw [outside_eq, bd1_some, ite_bI, if_neg (fun u => u h1), if_pos h2]
    · unfold fM_doSheet fM_doSheet_b28
      rw [in_bI, bd1_some, ite_bI, if_pos h1, x1, if_pos h2, no_eq, bd2_some]
  obtain ⟨w1, w2⟩ := id h1
  have e8 : (cI 8).toInt = 8 := rfl
  have e128 : (cI 128).toInt = 128 := rfl
  have hw0 : ¬ w = 0 := fun u => by rw [u] at w1; exact absurd w1 (by decide)
  by_cases h3 : irem (s.1 4 1) w = 0
  rotate_left
  · refine sim_no (c := cI (-102)) ?_ ?_ hn
    · unfold fSheet_show_4
      rw [outside_eq, bd1_some, ite_bI, if_neg (fun u => u h1), if_neg h2, if_neg hw0, if_neg h3]
    · unfold fM_doSheet fM_doSheet_b28
      rw [in_bI, bd1_some, ite_bI, if_pos h1, x1, if_neg h2, if_neg hw0, if_neg h3, no_eq, bd2_some]
  by_cases hF : F = true
  · subst hF
    refine sim_no (c := cI (-104)) ?_ ?_ hn
    · unfold fSheet_show_4
      rw [outside_eq, bd1_some, ite_bI, if_neg (fun u => u h1), if_neg h2, if_neg hw0, if_pos h3, hA.no, bd2_some, if_pos rfl]
    · unfold fM_doSheet
      rw [in_bI, bd1_some, ite_bI, if_pos h1, x1, if_neg h2, if_neg hw0, if_pos h3, hM.no, bd1_some, if_neg (show ¬ (1 : Int32) = 0 by decide), no_eq, bd2_some]
  have hF2 : F = false := by cases F <;> simp_all
  subst hF2
  -- the sheet's measures
  have wx := ix_toNat w
  have nx := ix_toNat (s.1 4 1)
  have ew : cI ((ix w : Nat) : Int) = w := cI_ix (by omega)
  have ri := irem_toInt (x := s.1 4 1) (y := w) x2 (by omega)
  rw [h3, show (0 : Int32).toInt = 0 from rfl] at ri
  have hn0 : ¬ (s.1 4 1).toInt = 0 := fun u => h2 (by rw [eq_i]; exact u)
  obtain ⟨W, hW⟩ : ∃ W, W = ix w := ⟨_, rfl⟩
  obtain ⟨N, hN⟩ : ∃ N, N = ix (s.1 4 1) := ⟨_, rfl⟩
  have w8 : 8 ≤ W := by omega
  have w9 : W ≤ 128 := by omega
  have n0 : 0 < N := by omega
  have n9 : N ≤ 4096 := by omega
  have tn : (s.1 4 1).toInt = (N : Int) := by omega
  have tw : w.toInt = (W : Int) := by omega
  have dv : W ∣ N := by
    refine Nat.dvd_of_mod_eq_zero ?_
    rw [tn, tw] at ri
    omega
  have hm : W * (N / W) = N := Nat.mul_div_cancel' dv
  have hp : 0 < N / W := Nat.div_pos (Nat.le_of_dvd n0 dv) (by omega)
  have hl : N / W ≤ N := Nat.div_le_self _ _
  have eH : s.1 4 1 / w = cI ((N / W : Nat) : Int) := by
    rw [eq_i, div_toInt x2 (by omega), tn, tw, q_ti (by omega)]
    rfl
  have eW : w = cI (W : Int) := by rw [hW, ew]
  have eN : s.1 4 1 = cI (N : Int) := by rw [eq_i, tn, q_ti (by omega)]
  obtain ⟨s6, es6⟩ : ∃ x, x = wI (wI (wI (lupd A s) 52 2 (cI 1)) 52 4 w) 52 5 (s.1 4 1 / w) := ⟨_, rfl⟩
  obtain ⟨t6, et6⟩ : ∃ x, x = wI (wI (wI t 549 152 w) 549 153 (s.1 4 1 / w)) 549 146 (cI 0) := ⟨_, rfl⟩
  have f6 : fr [(52, 52, 3), (52, 52, 5), (52, 52, 6)] (lupd A s) s6 := by rw [es6]; exact ((fr.rf.wI rfl).wI rfl).wI rfl
  have g6 : fr [(549, 549, 153), (549, 549, 154), (549, 549, 147)] t t6 := by rw [et6]; exact ((fr.rf.wI rfl).wI rfl).wI rfl
  have c1 : s6.1 4 1 = s.1 4 1 := (f6.1 4 1 (by decide +kernel)).1.trans (congrFun (lupd_ne (Or.inl (by decide))) 1)
  have cb : s6.1 5 = s.1 5 := (funext fun k => (f6.1 5 k rfl).1 : s6.1 5 = (lupd A s).1 5).trans (lupd_ne (Or.inl (by decide)))
  have hx6 : RTx4 s6 t6 := by
    refine ⟨?_, by rw [c1]; exact x2, by rw [c1]; exact x3, fun k hk => ?_⟩
    · rw [c1, (g6.1 549 13 (by decide +kernel)).1]; exact x1
    · rw [c1] at hk
      rw [cb, (g6.1 554 k rfl).1]; exact x4 k hk
  obtain ⟨s7, t7, d1, d2, d3, d4, d5⟩ := dark4 hx6
  rw [c1, ← hN, ← hm] at d3
  have D7 : Dim W (N / W) s7 t7 := by
    refine ⟨⟨?_, ?_, ?_, ?_⟩, w8, w9, hp, by omega, by omega⟩
    · rw [(d4.1 52 4 rfl).1, es6, wI_c, up1_ne (by decide), wI_c, up1_eq]; exact eW
    · rw [(d4.1 52 5 rfl).1, es6, wI_c, up1_eq]; exact eH
    · rw [(d5.1 549 152 rfl).1, et6, wI_c, up1_ne (by decide), wI_c, up1_ne (by decide), wI_c, up1_eq]; exact eW
    · rw [(d5.1 549 153 rfl).1, et6, wI_c, up1_ne (by decide), wI_c, up1_eq]; exact eH
  have e13 : t7.1 549 13 = cI ((W * (N / W) : Nat) : Int) := by
    rw [(d5.1 549 13 rfl).1, (g6.1 549 13 (by decide +kernel)).1, x1, hm]; exact eN
  have e146 : t7.1 549 146 = cI 0 := by rw [(d5.1 549 146 rfl).1, et6, wI_c, up1_eq]
  have e2 : s7.1 52 2 = cI 1 := by rw [(d4.1 52 2 rfl).1, es6, wI_c, up1_ne (by decide), wI_c, up1_ne (by decide), wI_c, up1_eq]
  have Sy7 : Sym s7 t7 := ((h.2.2.1.keep lupd_fr rf_fr (by decide +kernel) (by decide +kernel)).keep f6 g6 (by decide +kernel) (by decide +kernel)).keep d4 d5 (by decide +kernel) (by decide +kernel)
  have R7 : RBk s7 t7 := ((R.kp lupd_fr rf_fr (by decide +kernel) (by decide +kernel) (by decide +kernel) (by decide +kernel) (by decide +kernel) (by decide +kernel) (by decide +kernel) (by decide +kernel)).kp f6 g6 (by decide +kernel) (by decide +kernel) (by decide +kernel) (by decide +kernel) (by decide +kernel) (by decide +kernel) (by decide +kernel) (by decide +kernel)).kp d4 d5 (by decide +kernel) (by decide +kernel) (by decide +kernel) (by decide +kernel) (by decide +kernel) (by decide +kernel) (by decide +kernel) (by decide +kernel)
  obtain ⟨s', t', v, v1, v2, v3, v4, v5⟩ := sh_core D7 d3 e13 e146 Sy7 R7 e2
  have kC : fSheet_show_4 s w = some (s', v) := by
    unfold fSheet_show_4
    rw [outside_eq, bd1_some, ite_bI, if_neg (fun u => u h1), if_neg h2, if_neg hw0, if_pos h3, hA.yes, bd2_some, if_neg (show ¬ (1 : Int32) = 0 by decide), ltM_eq, ltM_eq, if_neg hw0, ltM_eq, show (wI (wI (lupd A s) 52 2 (cI 1)) 52 4 w).1 4 1 = s.1 4 1 by rw [wI_ne (by decide), wI_ne (by decide), lupd_ne (Or.inl (by decide))], ← es6, d1, bd1_some]
    exact v1
  have kM : fM_doSheet t w = some (t', v) := by
    unfold fM_doSheet
    rw [in_bI, bd1_some, ite_bI, if_pos h1, x1, if_neg h2, if_neg hw0, if_pos h3, hM.yes, bd1_some, if_pos rfl, ltM_eq, if_neg hw0, ltM_eq, ltM_eq, show (wI t 549 152 w).1 549 13 = s.1 4 1 by rw [wI_c, up1_ne (by decide)]; exact x1]
    rw [← et6, d2, bd1_some]
    exact v2
  rw [kC, kM, ok_some, ok_some]
  refine ⟨rfl, Or.inr ⟨?_, rfl, ?_, v3⟩⟩
  · rw [(v5.1 549 15 (by decide +kernel)).1, (d5.1 549 15 rfl).1, (g6.1 549 15 (by decide +kernel)).1]; exact h0
  · have fa : fr ([(52, 52, 3), (52, 52, 5), (52, 52, 6)] ++ (FshC ++ FrgC)) (lupd A s) s' := ((f6.mono (by decide +kernel)).tr (d4.mono (by decide +kernel))).tr (v4.mono (by decide +kernel))
    exact lgS.fr fa (by decide +kernel) (by decide +kernel)
