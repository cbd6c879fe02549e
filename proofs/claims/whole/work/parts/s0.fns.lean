/-! ===== LEVEL 3: calls: what the reference's call leaves alone ===== -/
theorem bd1_of {α β : Type} {o : Option α} {f : α → Option β} {y : β} (h : bd1 o f = some y) : ∃ x, o = some x ∧ f x = some y := by
  cases o with
  | none => cases h
  | some x => exact ⟨x, rfl, h⟩
theorem bd2_of {α β γ : Type} {o : Option (α × β)} {f : α → β → Option γ} {y : γ} (h : bd2 o f = some y) : ∃ x v, o = some (x, v) ∧ f x v = some y := by
  cases o with
  | none => cases h
  | some x => exact ⟨x.1, x.2, rfl, h⟩
theorem note_fr {t : ev_M} {x : Int32} {y : ev_M} (h : fM_note t x = some y) : fr NTF t y := (fr_fM_note h).mono (by decide +kernel)
theorem b195_fr {t : ev_M} {x : Int32} {y : ev_M × Int32} (h : fM_call_b195 t x = some y) : fr NTF t y.1 := by
  unfold fM_call_b195 at h
  rw [ltM_eq] at h
  cases h
  exact fr.rf.wI rfl
theorem h171_fr : ∀ (n : Nat) {t : ev_M} {a b : Int32} {y : ev_M × Int32}, fM_call_h171 n t a b = some y → fr NTF t y.1
  | 0, t, a, b, y, h => by rw [fM_call_h171] at h; cases h
  | n + 1, t, a, b, y, h => by
    rw [fM_call_h171] at h
    by_cases z : b < t.1 549 13
    · rw [if_pos z] at h
      by_cases w : inb b 4096 = true
      · rw [if_pos w] at h
        obtain ⟨u, u1, u2⟩ := bd1_of h
        exact (note_fr u1).tr (h171_fr n u2)
      · rw [if_neg w] at h; cases h
    · rw [if_neg z] at h; exact b195_fr h
theorem h109_fr {k97 : ev_M → Int32 → Int32 → Int32 → Option (ev_M × Int32)} (hk : ∀ (t : ev_M) (a b c : Int32) (y : ev_M × Int32), k97 t a b c = some y → fr NTF t y.1) : ∀ (n : Nat) {t : ev_M} {a b c d : Int32} {y : ev_M × Int32}, fM_call_h109 k97 n t a b c d = some y → fr NTF t y.1
  | 0, t, a, b, c, d, y, h => by rw [fM_call_h109] at h; cases h
  | n + 1, t, a, b, c, d, y, h => by
    rw [fM_call_h109] at h
    by_cases z : d < 0
    · rw [if_pos z] at h; exact hk _ _ _ _ _ h
    · rw [if_neg z] at h
      by_cases w : inb c 6 = true
      · rw [if_pos w] at h
        obtain ⟨u, u1, u2⟩ := bd1_of h
        rw [ltI_eq] at u2
        exact (note_fr u1).tr (h109_fr hk n u2)
      · rw [if_neg w] at h; cases h
theorem h97_fr : ∀ (n : Nat) {t : ev_M} {a b c : Int32} {y : ev_M × Int32}, fM_call_h97 n t a b c = some y → fr NTF t y.1
  | 0, t, a, b, c, y, h => by rw [fM_call_h97] at h; cases h
  | n + 1, t, a, b, c, y, h => by
    rw [fM_call_h97] at h
    obtain ⟨v, v1, h⟩ := bd1_of h
    by_cases z : c < v
    · rw [if_pos z] at h
      exact h109_fr (fun t a b c y hh => h97_fr n hh) 1048576 h
    · rw [if_neg z] at h
      obtain ⟨w, w1, h⟩ := bd1_of h
      by_cases z2 : w = 0
      · rw [if_pos z2] at h; exact b195_fr h
      · rw [if_neg z2] at h
        obtain ⟨u, u1, h⟩ := bd1_of h
        obtain ⟨u', u2, h⟩ := bd1_of h
        exact ((note_fr u1).tr (note_fr u2)).tr (h171_fr 1048576 h)
def F78 : List (Nat × (Nat × Nat)) := F_M_act ++ NTF
theorem b78_fr {t : ev_M} {a : Int32} {y : ev_M × Int32} (h : fM_call_b78 t a = some y) : fr F78 t y.1 := by
  unfold fM_call_b78 at h
  obtain ⟨u, v, u1, h⟩ := bd2_of h
  have f1 : fr F78 t u := (fr_fM_act u1).mono (contains_of fun q hq => List.mem_append_left _ hq)
  by_cases z : u.1 549 15 = 0
  · rw [if_pos z] at h
    obtain ⟨w, w1, h⟩ := bd1_of h
    exact f1.tr (((note_fr w1).tr (h97_fr 1048576 h)).mono (contains_of fun q hq => List.mem_append_right _ hq))
  · rw [if_neg z] at h
    cases h
    exact f1
/-- the call of an act that reads no tape -/
def FCL : List (Nat × (Nat × Nat)) := F78 ++ STM
theorem call_fr {t : ev_M} {num : Int32} (hr : ¬ rdT num) {y : ev_M × Int32} (h : fM_call t num = some y) : fr FCL t y.1 := by
  rw [e_call hr] at h
  by_cases z : t.1 549 5 = 0
  · rw [if_pos z] at h
    exact ((mst_fr (fr.rf (F := STM))).mono (contains_of fun q hq => List.mem_append_right _ hq)).tr ((b78_fr h).mono (contains_of fun q hq => List.mem_append_left _ hq))
  · rw [if_neg z] at h
    cases h
    exact fr.wI fr.rf (by decide +kernel)
theorem clc_fr {s : ev_M} {num a b c d e f : Int32} {x : ev_M × Int32} (h : clC s num a b c d e f = some x) : fr CLF s x.1 := by
  rw [clC_eq] at h
  by_cases z : s.1 9 9 = 0
  · rw [if_pos z] at h
    exact (clf_2 stg_fr).tr (clf_1 (fr_fPH_act_1 h))
  · rw [if_neg z] at h
    cases h
    exact clf_2 stg_fr
/-- all that holds between the class's and the reference's cells -/
def RI (q : Nat) (s t : ev_M) : Prop := RH q s t ∧ Cn s t ∧ RLog s t ∧ RTap s.1 t.1 ∧ ∀ k, k < 4096 → i2b (s.1 2 k) = s.1 2 k
/-- … before call i of a run -/
def II (L i : Nat) (m : ev_M) : Prop := (∃ q, q ≤ 13000 * i ∧ RI q m m) ∧ m.1 1021 0 = cI (L : Int) ∧ m.2.2.2.2.1 ≤ 2000 + 4 * i ∧ m.2.2.2.2.2 ≤ 4000000 + 64 * i
theorem II.up {L i : Nat} {m : ev_M} (h : II L i m) : II L (i + 1) m := by
  obtain ⟨⟨q, q1, q2⟩, h2, h3, h4⟩ := h
  exact ⟨⟨q, by omega, q2⟩, h2, by omega, by omega⟩
theorem II.of {L i : Nat} {m z : ev_M} (h : II L i m) (hp : P1 m z) (hI : ∃ q, q ≤ 13000 * (i + 1) ∧ RI q z z) : II L (i + 1) z := by
  obtain ⟨-, h2, h3, h4⟩ := h
  obtain ⟨⟨-, p1⟩, p2, p3⟩ := hp
  exact ⟨hI, by rw [p1]; exact h2, by omega, by omega⟩
/-- what a question leaves alone, and what it may touch -/
def RI_C : List (Nat × Nat) := RH_C ++ (Cn_C ++ [(9, 0), (10, 0), (11, 0), (13, 0), (1003, 0), (1, 2), (2, 0)])
def RI_M : List (Nat × Nat) := RH_M ++ (Cn_M ++ [(549, 3), (549, 5), (549, 6), (549, 7), (549, 8), (549, 10), (549, 11), (550, 0), (551, 0), (552, 0), (555, 0)])
theorem RI.keep {q : Nat} {s t s' t' : ev_M} {F G : List (Nat × (Nat × Nat))} (H : RI q s t) (hs : fr F s s') (ht : fr G t t') (d1 : nof F RI_C = true) (d2 : nof G RI_M = true) : RI q s' t' := by
  obtain ⟨h1, h2, h3, h4, h5⟩ := H
  have c9 := (nof_c hs d1 (c := 9) (by decide +kernel)).1
  have c10 := (nof_c hs d1 (c := 10) (by decide +kernel)).1
  have c11 := (nof_c hs d1 (c := 11) (by decide +kernel)).1
  have c13 := (nof_c hs d1 (c := 13) (by decide +kernel)).1
  have c2 := (nof_c hs d1 (c := 2) (by decide +kernel)).1
  have c1 := (nof_s hs d1 (c := 1) (k := 1) (by decide +kernel)).1
  have m2 := (nof_s ht d2 (c := 549) (k := 2) (by decide +kernel)).1
  have m50 := (nof_c ht d2 (c := 550) (by decide +kernel)).1
  refine ⟨h1.keep hs ht (nof_sub d1 (by decide +kernel)) (nof_sub d2 (by decide +kernel)), h2.keep hs ht (nof_sub d1 (by decide +kernel)) (nof_sub d2 (by decide +kernel)), RLog_of h3 (fun c a b d k _ => ?_) (nof_c hs d1 (c := 1003) (by decide +kernel)).1 (fun k hk => ?_) (nof_c ht d2 (c := 551) (by decide +kernel)).1 (nof_c ht d2 (c := 552) (by decide +kernel)).1 (nof_c ht d2 (c := 555) (by decide +kernel)).1, ?_, fun k hk => by rw [c2]; exact h5 k hk⟩
  · obtain rfl | rfl | rfl | rfl : c = 9 ∨ c = 10 ∨ c = 11 ∨ c = 13 := by omega
    · rw [c9]
    · rw [c10]
    · rw [c11]
    · rw [c13]
  · rcases hk with rfl | rfl | rfl | rfl | rfl | rfl
    · exact (nof_s ht d2 (c := 549) (k := 4) (by decide +kernel)).1
    · exact (nof_s ht d2 (c := 549) (k := 5) (by decide +kernel)).1
    · exact (nof_s ht d2 (c := 549) (k := 6) (by decide +kernel)).1
    · exact (nof_s ht d2 (c := 549) (k := 7) (by decide +kernel)).1
    · exact (nof_s ht d2 (c := 549) (k := 9) (by decide +kernel)).1
    · exact (nof_s ht d2 (c := 549) (k := 10) (by decide +kernel)).1
  · unfold RTap at h4 ⊢
    rw [c1, c2, m2, m50]
    exact h4
/-- a question that changes nothing in the class -/
theorem ii_ask {L i : Nat} {m : ev_M} {α : Type} {G : List (Nat × (Nat × Nat))} {fc : Option α} {fm : Option (ev_M × α)} (H : II L i m) (h2 : ∀ q, fm = some q → fr G m q.1) (n1 : nof G SCR = true) (n2 : nof G RI_C = true) (n3 : nof G RI_M = true) (h : ∀ q, q < 832100 → RI q m m → Ok fc fun x => Ok fm fun z => x = z.2) (hi : i ≤ 64) : Ok fc fun x => Ok fm fun z => x = z.2 ∧ II L (i + 1) z.1 := by
  obtain ⟨q, q1, q2⟩ := H.1
  obtain ⟨x, ex, z, ez, e⟩ := h q (by omega) q2
  have f := h2 z ez
  exact ⟨x, ex, z, ez, e, H.of (p1_fr (F := []) (fr.rf) f rfl n1).2 ⟨q, by omega, q2.keep f f n2 n3⟩⟩
/-- the call of an act that reads no tape -/
theorem ii_act {L i : Nat} {m : ev_M} (H : II L i m) (hi : i ≤ 64) {num a b c d e f : Int32} {W : ev_M → ev_M} (g1 : 1 ≤ num.toInt) (g2 : num.toInt ≤ 40) (hr : ¬ rdT num) (hW : ∀ z, fr STM z (W z)) (hWa : ∀ z, ArgE num ((stg m num a b c d e f).1 14) ((W z).1 553)) (hz : ∀ q s t F A, q < 832100 → AdmC s F A → FulM t F → t.1 549 15 = 0 → RH q s t → s.1 9 14 = num → t.1 549 16 = num → ArgE num (s.1 14) (t.1 553) → Ok (fPH_act_1 s) fun x => Ok (fM_act t) fun y => AP (RH (q + 1)) (RH (q + 1)) F A s x y) : Ok (clC m num a b c d e f) fun x => scr m x.1 ∧ Ok (fM_call (W x.1) num) fun y => x.2 = y.2 ∧ II L (i + 1) y.1 := by
  obtain ⟨q, q1, h1, h2, h3, h4, h5⟩ := H.1
  have h1 := call_nr (R0 := RH (q + 1)) (R1 := RH (q + 1)) g1 g2 hr h3 ⟨h4.2.1, h4.2.2.1⟩ hW hWa (fun x y z hz hR => hR.keep rf_fr hz (by decide +kernel) (by decide +kernel)) (fun u t1 F A hu ht h16 ha h15 hA hM => hz q _ _ F A (by omega) hA hM h15 (h1.keep stg_fr ((hu.mono (F := CLF ++ STM) (contains_of fun q hq => List.mem_append_left _ hq)).tr (ht.mono (contains_of fun q hq => List.mem_append_right _ hq))) (by decide +kernel) (by decide +kernel)) stg_14 h16 ha) |> fun k => (⟨h1, k⟩ : RH q m m ∧ _)
  obtain ⟨hq, x, ex, y, ey, e1, e2, e3⟩ := h1
  have fx := clc_fr ex
  have fy : fr (STM ++ FCL) x.1 y.1 := ((hW x.1).mono (contains_of fun q hq => List.mem_append_left _ hq)).tr ((call_fr hr ey).mono (contains_of fun q hq => List.mem_append_right _ hq))
  obtain ⟨p1, p2⟩ := p1_fr fx fy (by decide +kernel) (by decide +kernel)
  have hR : RH (q + 1) x.1 y.1 := by
    rcases e3 with ⟨a1, a2⟩ | u | u
    · exact (hq.mono (Nat.le_succ q)).keep a1 ((a1.mono (F := STG ++ STM) (contains_of fun q hq => List.mem_append_left _ hq)).tr (a2.mono (contains_of fun q hq => List.mem_append_right _ hq))) (by decide +kernel) (by decide +kernel)
    · exact u
    · exact u
  have fxy : fr (CLF ++ (STM ++ FCL)) m y.1 := (fx.mono (contains_of fun q hq => List.mem_append_left _ hq)).tr (fy.mono (contains_of fun q hq => List.mem_append_right _ hq))
  have c1 : y.1.1 1 1 = m.1 1 1 := (nof_s fxy (L := [(1, 2), (2, 0), (549, 3), (550, 0)]) (by decide +kernel) (c := 1) (k := 1) rfl).1
  have c2 : y.1.1 2 = m.1 2 := (nof_c fxy (L := [(1, 2), (2, 0), (549, 3), (550, 0)]) (by decide +kernel) (c := 2) rfl).1
  have m2 : y.1.1 549 2 = m.1 549 2 := (nof_s fxy (L := [(1, 2), (2, 0), (549, 3), (550, 0)]) (by decide +kernel) (c := 549) (k := 2) rfl).1
  have m5 : y.1.1 550 = m.1 550 := (nof_c fxy (L := [(1, 2), (2, 0), (549, 3), (550, 0)]) (by decide +kernel) (c := 550) rfl).1
  refine ⟨x, ex, p1, y, ey, e1, H.of p2 ⟨q + 1, by omega, hR.keep fy rf_fr (by decide +kernel) (by decide +kernel), h2.keep fxy fxy (by decide +kernel) (by decide +kernel), ?_, ?_, fun k hk => by rw [c2]; exact h5 k hk⟩⟩
  · have d : nof (STM ++ FCL) [(9, 0), (10, 0), (11, 0), (13, 0), (1003, 0)] = true := by decide +kernel
    refine RLog_of e2 (fun c a b g k _ => ?_) (nof_c fy d (c := 1003) rfl).1 (fun k _ => rfl) rfl rfl rfl
    obtain rfl | rfl | rfl | rfl : c = 9 ∨ c = 10 ∨ c = 11 ∨ c = 13 := by omega
    · rw [(nof_c fy d (c := 9) rfl).1]
    · rw [(nof_c fy d (c := 10) rfl).1]
    · rw [(nof_c fy d (c := 11) rfl).1]
    · rw [(nof_c fy d (c := 13) rfl).1]
  · unfold RTap at h4 ⊢
    rw [c1, c2, m2, m5]
    exact h4
