/-! ===== LEVEL 3: an entry's shape, read by class and reference ===== -/
/-- the reference reads a shape: from t to t', the numbers l, the name n -/
def RfS : List Nat → ev_M → ev_M → List Int32 → Int64 → Prop
  | [], t, t', l, _ => t' = t ∧ l = []
  | c :: cs, t, t', l, n => if c = 35 then ∃ (t1 : ev_M) (v : Int32) (l' : List Int32), fM_digits t = some (t1, v) ∧ l = v :: l' ∧ RfS cs t1 t' l' n else if c = 64 then ∃ t1 : ev_M, fM_letters t = some (t1, n) ∧ RfS cs t1 t' l n else ∃ t1 : ev_M, fM_eat t (cI (c : Int)) = some t1 ∧ RfS cs t1 t' l n
def n35 : List Nat → Nat
  | [] => 0
  | c :: cs => n35 cs + (if c = 35 then 1 else 0)
def ends59 : List Nat → Bool
  | [] => false
  | c :: cs => if c = 59 then cs.isEmpty else ends59 cs
def ok64 : List Nat → Bool
  | [] => true
  | c :: cs => if c = 64 then !(cs.contains 64) else ok64 cs
theorem RfS.fail {t : ev_M} (h : t.1 549 140 = cI 1) : ∀ cs : List Nat, ∃ l, RfS cs t t l (cL 0) ∧ l.length = n35 cs
  | [] => ⟨[], ⟨rfl, rfl⟩, rfl⟩
  | c :: cs => by
    obtain ⟨l, h1, h2⟩ := RfS.fail h cs
    by_cases z : c = 35
    · refine ⟨cI 0 :: l, ?_, ?_⟩
      · unfold RfS
        rw [if_pos z]
        exact ⟨t, cI 0, l, digF h, rfl, h1⟩
      · show l.length + 1 = n35 cs + (if c = 35 then 1 else 0)
        rw [h2, if_pos z]
    · refine ⟨l, ?_, ?_⟩
      · unfold RfS
        rw [if_neg z]
        by_cases y : c = 64
        · rw [if_pos y]
          exact ⟨t, letF h, h1⟩
        · rw [if_neg y]
          exact ⟨t, eatF h, h1⟩
      · show l.length = n35 cs + (if c = 35 then 1 else 0)
        rw [h2, if_neg z, Nat.add_zero]
theorem RfS.irr {n n' : Int64} : ∀ {cs : List Nat} {t t' : ev_M} {l : List Int32}, 64 ∉ cs → RfS cs t t' l n → RfS cs t t' l n'
  | [], _, _, _, _, h => h
  | c :: cs, t, t', l, hn, h => by
    have h1 : c ≠ 64 := fun e => hn (by rw [e]; exact List.mem_cons_self)
    have h2 : 64 ∉ cs := fun e => hn (List.mem_cons_of_mem _ e)
    unfold RfS at h ⊢
    by_cases z : c = 35
    · rw [if_pos z] at h ⊢
      obtain ⟨t1, v, l', a1, a2, a3⟩ := h
      exact ⟨t1, v, l', a1, a2, RfS.irr h2 a3⟩
    · rw [if_neg z, if_neg h1] at h ⊢
      obtain ⟨t1, a1, a3⟩ := h
      exact ⟨t1, a1, RfS.irr h2 a3⟩
/-- the shape cs stands in the text g from i on -/
def Shp (g i : Nat) (cs : List Nat) : Prop := ∀ j, j < cs.length → i + j < (txtT g).length ∧ (txtT g).getD (i + j) 0 = cs.getD j 0 ∧ cs.getD j 0 < 128
theorem Shp.tl {g i c : Nat} {cs : List Nat} (h : Shp g i (c :: cs)) : Shp g (i + 1) cs := fun j hj => by
  have := h (j + 1) (by rw [List.length_cons]; omega)
  rw [show i + (j + 1) = i + 1 + j by omega, show (c :: cs).getD (j + 1) 0 = cs.getD j 0 from rfl] at this
  exact this
theorem Shp.hd {g i c : Nat} {cs : List Nat} (h : Shp g i (c :: cs)) (hl : (txtT g).length < 1000) : i < (txtT g).length ∧ fSat g (cI (i : Int)) = some (cI (c : Int)) ∧ c < 128 := by
  obtain ⟨h1, h2, h3⟩ := h 0 (by rw [List.length_cons]; omega)
  rw [Nat.add_zero] at h1 h2
  have e : (c :: cs).getD 0 0 = c := rfl
  rw [e] at h2 h3
  refine ⟨h1, ?_, h3⟩
  unfold fSat
  rw [if_pos (q_in h1 (by omega)), q_ix (by omega), h2]
/-- a name is read -/
theorem rdL1 {p : Nat} {s t : ev_M} (h : Ps1 p s t) (hf : t.1 549 140 = 0) : (∃ (s' t' : ev_M) (v : Int64) (p' : Nat), fTape_reads_1 s (cI 64) = some (s', cI 0) ∧ fM_letters t = some (t', v) ∧ Ps1 p' s' t' ∧ t'.1 549 140 = cI 1 ∧ fr FrdC1 s s' ∧ fr FrdM t t') ∨ (∃ (s' t' : ev_M) (p' : Nat), fTape_reads_1 s (cI 64) = some (s', cI 1) ∧ fM_letters t = some (t', s'.2.1 1 5) ∧ Ps1 p' s' t' ∧ t'.1 549 140 = 0 ∧ p < p' ∧ s'.1 3 = s.1 3 ∧ s'.1 1 4 = s.1 1 4 ∧ fr FrdC1 s s' ∧ fr FrdM t t') := by
  have f0 : fr [(1, 1, 3), (1, 1, 6)] s (wL s 1 5 (cL 0)) := fr.rf.wL rfl
  obtain ⟨p', d', s', t', b1, b2, b3, b4, b7, b8, b9, b10, b11⟩ := ll1 10 1048576 1048576 0 p (wL s 1 5 (cL 0)) t (by omega) (by omega) (by omega) ⟨h.1.kp (fr.rf.wL rfl) fr.rf, h.2.1, h.2.2.1, h.2.2.2⟩ hf
  have L0 : (wL s 1 5 (cL 0)).2.1 1 5 = cL 0 := by
    show u2 s.2.1 1 5 (cL 0) 1 5 = cL 0
    simp [u2]
  rw [L0] at b2
  have c1 : fTape_readsName_1 s = fTape_readsName_1_b83 s' (cI (d' : Int)) := by
    unfold fTape_readsName_1
    rw [ltM_eq]
    exact b1
  have c2 : fM_letters t = fM_letters_b65 t' (cI (d' : Int)) (s'.2.1 1 5) := by
    unfold fM_letters
    exact b2
  have n4 : s'.1 1 4 = s.1 1 4 := (b10.1 1 4 rfl).1
  have nN : s'.1 3 = s.1 3 := funext fun k => (b10.1 3 k rfl).1
  have kr : fTape_reads_1 s (cI 64) = bd2 (fTape_readsName_1 s) fun s1 v2 => if bz v2 = true then some (s1, v2) else none := by
    unfold fTape_reads_1
    rw [if_neg (show ¬ cI 64 = cI 35 by decide), if_pos rfl]
  by_cases z : d' = 0
  · refine Or.inl ⟨s', wI t' 549 140 (cI 1), s'.2.1 1 5, p', ?_, ?_, ⟨b3.1.kp fr.rf (fr.rf.wI rfl), b3.2.1, by rw [wI_c, up1_ne (by decide)]; exact b3.2.2.1, b3.2.2.2⟩, by rw [wI_c, up1_eq], (f0.tr b10).mono (by decide +kernel), (b11.mono (by decide +kernel)).wI rfl⟩
    · rw [kr, c1]
      unfold fTape_readsName_1_b83
      rw [z, if_pos (show cI ((0 : Nat) : Int) ≤ 0 by decide), bd2_some, if_pos (show bz (cI 0) = true by decide)]
    · rw [c2]
      unfold fM_letters_b65 fM_letters_b77 fM_letters_b82
      rw [if_pos b4, z, if_pos (show cI ((0 : Nat) : Int) = 0 from rfl), if_pos (by decide), ltM_eq]
  · have nz : ¬ cI (d' : Int) = 0 := fun u => by rw [eq_i, q_ti (by omega), i32_0] at u; omega
    have nz2 : ¬ cI (d' : Int) ≤ 0 := fun u => by rw [le_i, q_ti (by omega), i32_0] at u; omega
    refine Or.inr ⟨s', wI t' 549 140 (cI 0), p', ?_, ?_, ⟨b3.1.kp fr.rf (fr.rf.wI rfl), b3.2.1, by rw [wI_c, up1_ne (by decide)]; exact b3.2.2.1, b3.2.2.2⟩, by rw [wI_c, up1_eq]; rfl, by omega, nN, n4, (f0.tr b10).mono (by decide +kernel), (b11.mono (by decide +kernel)).wI rfl⟩
    · rw [kr, c1]
      unfold fTape_readsName_1_b83
      rw [if_neg nz2, bd2_some, if_pos (show bz (cI 1) = true by decide)]
    · rw [c2]
      unfold fM_letters_b65 fM_letters_b82
      rw [if_pos b4, if_neg nz, if_pos (by decide), ltM_eq]
/-- a name is read -/
theorem rdL4 {p : Nat} {s t : ev_M} (h : Ps4 p s t) (hf : t.1 549 140 = 0) : (∃ (s' t' : ev_M) (v : Int64) (p' : Nat), fTape_reads_4 s (cI 64) = some (s', cI 0) ∧ fM_letters t = some (t', v) ∧ Ps4 p' s' t' ∧ t'.1 549 140 = cI 1 ∧ fr FrdC4 s s' ∧ fr FrdM t t') ∨ (∃ (s' t' : ev_M) (p' : Nat), fTape_reads_4 s (cI 64) = some (s', cI 1) ∧ fM_letters t = some (t', s'.2.1 4 5) ∧ Ps4 p' s' t' ∧ t'.1 549 140 = 0 ∧ p < p' ∧ s'.1 6 = s.1 6 ∧ s'.1 4 4 = s.1 4 4 ∧ fr FrdC4 s s' ∧ fr FrdM t t') := by
  have f0 : fr [(4, 4, 3), (4, 4, 6)] s (wL s 4 5 (cL 0)) := fr.rf.wL rfl
  obtain ⟨p', d', s', t', b1, b2, b3, b4, b7, b8, b9, b10, b11⟩ := ll4 10 1048576 1048576 0 p (wL s 4 5 (cL 0)) t (by omega) (by omega) (by omega) ⟨h.1.kp (fr.rf.wL rfl) fr.rf, h.2.1, h.2.2.1, h.2.2.2⟩ hf
  have L0 : (wL s 4 5 (cL 0)).2.1 4 5 = cL 0 := by
    show u2 s.2.1 4 5 (cL 0) 4 5 = cL 0
    simp [u2]
  rw [L0] at b2
  have c1 : fTape_readsName_4 s = fTape_readsName_4_b83 s' (cI (d' : Int)) := by
    unfold fTape_readsName_4
    rw [ltM_eq]
    exact b1
  have c2 : fM_letters t = fM_letters_b65 t' (cI (d' : Int)) (s'.2.1 4 5) := by
    unfold fM_letters
    exact b2
  have n4 : s'.1 4 4 = s.1 4 4 := (b10.1 4 4 rfl).1
  have nN : s'.1 6 = s.1 6 := funext fun k => (b10.1 6 k rfl).1
  have kr : fTape_reads_4 s (cI 64) = bd2 (fTape_readsName_4 s) fun s1 v2 => if bz v2 = true then some (s1, v2) else none := by
    unfold fTape_reads_4
    rw [if_neg (show ¬ cI 64 = cI 35 by decide), if_pos rfl]
  by_cases z : d' = 0
  · refine Or.inl ⟨s', wI t' 549 140 (cI 1), s'.2.1 4 5, p', ?_, ?_, ⟨b3.1.kp fr.rf (fr.rf.wI rfl), b3.2.1, by rw [wI_c, up1_ne (by decide)]; exact b3.2.2.1, b3.2.2.2⟩, by rw [wI_c, up1_eq], (f0.tr b10).mono (by decide +kernel), (b11.mono (by decide +kernel)).wI rfl⟩
    · rw [kr, c1]
      unfold fTape_readsName_4_b83
      rw [z, if_pos (show cI ((0 : Nat) : Int) ≤ 0 by decide), bd2_some, if_pos (show bz (cI 0) = true by decide)]
    · rw [c2]
      unfold fM_letters_b65 fM_letters_b77 fM_letters_b82
      rw [if_pos b4, z, if_pos (show cI ((0 : Nat) : Int) = 0 from rfl), if_pos (by decide), ltM_eq]
  · have nz : ¬ cI (d' : Int) = 0 := fun u => by rw [eq_i, q_ti (by omega), i32_0] at u; omega
    have nz2 : ¬ cI (d' : Int) ≤ 0 := fun u => by rw [le_i, q_ti (by omega), i32_0] at u; omega
    refine Or.inr ⟨s', wI t' 549 140 (cI 0), p', ?_, ?_, ⟨b3.1.kp fr.rf (fr.rf.wI rfl), b3.2.1, by rw [wI_c, up1_ne (by decide)]; exact b3.2.2.1, b3.2.2.2⟩, by rw [wI_c, up1_eq]; rfl, by omega, nN, n4, (f0.tr b10).mono (by decide +kernel), (b11.mono (by decide +kernel)).wI rfl⟩
    · rw [kr, c1]
      unfold fTape_readsName_4_b83
      rw [if_neg nz2, bd2_some, if_pos (show bz (cI 1) = true by decide)]
    · rw [c2]
      unfold fM_letters_b65 fM_letters_b82
      rw [if_pos b4, if_neg nz, if_pos (by decide), ltM_eq]
theorem en1_1010 {m i c : Nat} {x2 : Int32} {s : ev_M} (hi : i < (txtT 1010).length) (hc : fSat 1010 (cI (i : Int)) = some (cI (c : Int))) (h7 : c < 128) : fTape_readsEntry_1_1010_h56 (m + 1) s x2 (cI (i : Int)) = bd2 (fTape_reads_1 s (cI (c : Int))) fun s3 v4 => if v4 = 0 then some (s3, cI (-1)) else if c = 59 then some (s3, x2) else fTape_readsEntry_1_1010_h56 m s3 x2 (cI ((i + 1 : Nat) : Int)) := by
  have l : (txtT 1010).length < 1000 := by decide
  have e : fSlen 1010 = some (cI ((txtT 1010).length : Int)) := rfl
  rw [fTape_readsEntry_1_1010_h56, e, bd1_some, if_pos ((q_lt (by omega) (by omega)).mpr hi), hc, bd1_some]
  congr 1
  funext s3 v4
  rw [q_s (by omega)]
  by_cases w : v4 = 0
  · rw [if_pos w, if_pos w]
  rw [if_neg w, if_neg w]
  by_cases z : c = 59
  · rw [if_pos z, z, if_pos (show cI ((59 : Nat) : Int) = cI 59 from rfl)]
  · rw [if_neg z, if_neg (fun u => z (by rw [eq_i, q_ti (by omega), show (cI 59).toInt = 59 from rfl] at u; omega))]
theorem sq1_1010 {x2 : Int32} : ∀ (cs : List Nat) (i nr p m : Nat) (s t : ev_M), Shp 1010 i cs → ends59 cs = true → ok64 cs = true → nr + n35 cs ≤ 4 → cs.length ≤ m → Ps1 p s t → t.1 549 140 = 0 → s.1 1 4 = cI (nr : Int) → ∃ (s' t' : ev_M) (p' : Nat) (l : List Int32) (n : Int64), RfS cs t t' l n ∧ l.length = n35 cs ∧ Ps1 p' s' t' ∧ fr FrdC1 s s' ∧ fr FrdM t t' ∧ ((t'.1 549 140 = cI 1 ∧ fTape_readsEntry_1_1010_h56 m s x2 (cI (i : Int)) = some (s', cI (-1))) ∨ (t'.1 549 140 = 0 ∧ p < p' ∧ fTape_readsEntry_1_1010_h56 m s x2 (cI (i : Int)) = some (s', x2) ∧ (∀ j, j < nr → s'.1 3 j = s.1 3 j) ∧ (∀ j (h : j < l.length), s'.1 3 (nr + j) = l[j] ∧ Rg 0 l[j] 999999) ∧ (64 ∈ cs → s'.2.1 1 5 = n) ∧ (64 ∉ cs → s'.2.1 1 5 = s.2.1 1 5)))
  | [], i, nr, p, m, s, t, hS, he, _, _, _, _, _, _ => by cases he
  | c :: cs, i, nr, p, m, s, t, hS, he, ho, hn, hm, hP, hf, h4 => by
    obtain ⟨m, rfl⟩ : ∃ k, m = k + 1 := ⟨m - 1, by rw [List.length_cons] at hm; omega⟩
    rw [List.length_cons] at hm
    obtain ⟨i1, i2, i3⟩ := hS.hd (by decide)
    have eq := en1_1010 (m := m) (x2 := x2) (s := s) i1 i2 i3
    have n10 : ¬ (cI 1 : Int32) = 0 := by decide
    have hnum : n35 (c :: cs) = n35 cs + (if c = 35 then 1 else 0) := rfl
    -- what remains, when one piece is read
    have go : ∀ {s1 t1 : ev_M} {p1 nr1 : Nat}, ¬ c = 64 → Ps1 p1 s1 t1 → t1.1 549 140 = 0 → p < p1 → fr FrdC1 s s1 → fr FrdM t t1 → s1.1 1 4 = cI (nr1 : Int) → nr1 + n35 cs ≤ 4 → s1.2.1 1 5 = s.2.1 1 5 → fTape_reads_1 s (cI (c : Int)) = some (s1, cI 1) → ∃ (s' t' : ev_M) (p' : Nat) (l : List Int32) (n : Int64), RfS cs t1 t' l n ∧ l.length = n35 cs ∧ Ps1 p' s' t' ∧ fr FrdC1 s s' ∧ fr FrdM t t' ∧ ((t'.1 549 140 = cI 1 ∧ fTape_readsEntry_1_1010_h56 (m + 1) s x2 (cI (i : Int)) = some (s', cI (-1))) ∨ (t'.1 549 140 = 0 ∧ p < p' ∧ fTape_readsEntry_1_1010_h56 (m + 1) s x2 (cI (i : Int)) = some (s', x2) ∧ (∀ j, j < nr1 → s'.1 3 j = s1.1 3 j) ∧ (∀ j (h : j < l.length), s'.1 3 (nr1 + j) = l[j] ∧ Rg 0 l[j] 999999) ∧ (64 ∈ cs → s'.2.1 1 5 = n) ∧ (64 ∉ cs → s'.2.1 1 5 = s.2.1 1 5))) := by
      intro s1 t1 p1 nr1 h64 P1 f1 lt1 fr1 gr1 n1 n2 nm1 rd
      rw [rd, bd2_some, if_neg n10] at eq
      by_cases z59 : c = 59
      · have ce : cs = [] := by
          unfold ends59 at he
          rw [if_pos z59] at he
          simpa using he
        subst ce
        rw [if_pos z59] at eq
        exact ⟨s1, t1, p1, [], cL 0, ⟨rfl, rfl⟩, rfl, P1, fr1, gr1, Or.inr ⟨f1, lt1, eq, fun _ _ => rfl, fun j h => absurd h (Nat.not_lt_zero _), (fun h => by cases h), fun _ => nm1⟩⟩
      · rw [if_neg z59] at eq
        have he2 : ends59 cs = true := by
          unfold ends59 at he
          rw [if_neg z59] at he
          exact he
        have ho2 : ok64 cs = true := by
          unfold ok64 at ho
          rw [if_neg h64] at ho
          exact ho
        obtain ⟨s', t', p', l, n, a1, a2, a3, a4, a5, a6⟩ := sq1_1010 (x2 := x2) cs (i + 1) nr1 p1 m s1 t1 hS.tl he2 ho2 n2 (by omega) P1 f1 n1
        refine ⟨s', t', p', l, n, a1, a2, a3, fr1.tr a4, gr1.tr a5, ?_⟩
        rcases a6 with ⟨b1, b2⟩ | ⟨b1, b2, b3, b4, b5, b6, b7⟩
        · exact Or.inl ⟨b1, eq.trans b2⟩
        · exact Or.inr ⟨b1, by omega, eq.trans b3, b4, b5, b6, fun h => (b7 h).trans nm1⟩
    by_cases z : c = 35
    · subst z
      rw [if_pos rfl] at hnum
      rcases rdN1 hP hf h4 (by omega) with ⟨s1, t1, v, p1, a1, a2, a3, a4, a5, a6⟩ | ⟨s1, t1, p1, v, a1, a2, a3, a4, a5, a6, a7, a8, a9, a10, a11⟩
      · obtain ⟨l, b1, b2⟩ := RfS.fail a4 cs
        refine ⟨s1, t1, p1, v :: l, cL 0, ?_, by rw [List.length_cons, b2, hnum], a3, a5, a6, Or.inl ⟨a4, ?_⟩⟩
        · unfold RfS
          rw [if_pos rfl]
          exact ⟨t1, v, l, a2, rfl, b1⟩
        · rw [eq, show cI ((35 : Nat) : Int) = cI 35 from rfl, a1, bd2_some, if_pos (show (cI 0 : Int32) = 0 from rfl)]
      · obtain ⟨s', t', p', l, n, b1, b2, b3, b4, b5, b6⟩ := go (by decide) a3 a4 a5 a10 a11 a8 (by omega) a9 a1
        refine ⟨s', t', p', v :: l, n, ?_, by rw [List.length_cons, b2, hnum], b3, b4, b5, ?_⟩
        · unfold RfS
          rw [if_pos rfl]
          exact ⟨t1, v, l, a2, rfl, b1⟩
        · rcases b6 with b6 | ⟨c1, c2, c3, c4, c5, c6, c7⟩
          · exact Or.inl b6
          · refine Or.inr ⟨c1, c2, c3, fun j hj => ?_, fun j hj => ?_, fun h => c6 ?_, fun h => c7 (fun h2 => h (List.mem_cons_of_mem _ h2))⟩
            · rw [c4 j (by omega), a7, up1_ne (by omega)]
            · cases j with
              | zero =>
                refine ⟨?_, a6⟩
                rw [Nat.add_zero, c4 nr (by omega), a7, up1_eq]
                rfl
              | succ j =>
                have := c5 j (by rw [List.length_cons] at hj; omega)
                rw [show nr + (j + 1) = nr + 1 + j by omega]
                exact this
            · rcases List.mem_cons.mp h with h | h
              · exact absurd h (by decide)
              · exact h
    · rw [if_neg z, Nat.add_zero] at hnum
      by_cases y : c = 64
      · subst y
        have h64 : 64 ∉ cs := by
          unfold ok64 at ho
          rw [if_pos rfl] at ho
          simpa using ho
        rcases rdL1 hP hf with ⟨s1, t1, v, p1, a1, a2, a3, a4, a5, a6⟩ | ⟨s1, t1, p1, a1, a2, a3, a4, a5, a7, a8, a10, a11⟩
        · obtain ⟨l, b1, b2⟩ := RfS.fail a4 cs
          refine ⟨s1, t1, p1, l, v, ?_, by rw [b2, hnum], a3, a5, a6, Or.inl ⟨a4, ?_⟩⟩
          · unfold RfS
            rw [if_neg z, if_pos rfl]
            exact ⟨t1, a2, b1.irr h64⟩
          · rw [eq, show cI ((64 : Nat) : Int) = cI 64 from rfl, a1, bd2_some, if_pos (show (cI 0 : Int32) = 0 from rfl)]
        · rw [show cI ((64 : Nat) : Int) = cI 64 from rfl, a1, bd2_some, if_neg n10, if_neg (by decide)] at eq
          have he2 : ends59 cs = true := by
            unfold ends59 at he
            rw [if_neg (by decide)] at he
            exact he
          have ho2 : ok64 cs = true := by
            have : ∀ l : List Nat, 64 ∉ l → ok64 l = true := fun l => by
              induction l with
              | nil => intro _; rfl
              | cons a l ih =>
                intro h
                unfold ok64
                rw [if_neg (fun e => h (by rw [e]; exact List.mem_cons_self))]
                exact ih (fun e => h (List.mem_cons_of_mem _ e))
            exact this cs h64
          obtain ⟨s', t', p', l, n, b1, b2, b3, b4, b5, b6⟩ := sq1_1010 (x2 := x2) cs (i + 1) nr p1 m s1 t1 hS.tl he2 ho2 (by omega) (by omega) a3 a4 (by rw [a8]; exact h4)
          refine ⟨s', t', p', l, s1.2.1 1 5, ?_, by rw [b2, hnum], b3, a10.tr b4, a11.tr b5, ?_⟩
          · unfold RfS
            rw [if_neg z, if_pos rfl]
            exact ⟨t1, a2, b1.irr h64⟩
          · rcases b6 with ⟨c1, c2⟩ | ⟨c1, c2, c3, c4, c5, c6, c7⟩
            · exact Or.inl ⟨c1, eq.trans c2⟩
            · exact Or.inr ⟨c1, by omega, eq.trans c3, fun j hj => by rw [c4 j hj, a7], c5, fun _ => c7 h64, fun h => absurd List.mem_cons_self h⟩
      · rcases rdC1 (c := cI (c : Int)) hP hf (fun u => z (by rw [eq_i, q_ti (by omega), show (cI 35).toInt = 35 from rfl] at u; omega)) (fun u => y (by rw [eq_i, q_ti (by omega), show (cI 64).toInt = 64 from rfl] at u; omega)) (by rw [q_ti (by omega)]; omega) with ⟨s1, t1, p1, a1, a2, a3, a4, a5, a6⟩ | ⟨s1, t1, p1, a1, a2, a3, a4, a5, a7, a8, a9, a10, a11⟩
        · obtain ⟨l, b1, b2⟩ := RfS.fail a4 cs
          refine ⟨s1, t1, p1, l, cL 0, ?_, by rw [b2, hnum], a3, a5, a6, Or.inl ⟨a4, ?_⟩⟩
          · unfold RfS
            rw [if_neg z, if_neg y]
            exact ⟨t1, a2, b1⟩
          · rw [eq, a1, bd2_some, if_pos (show (cI 0 : Int32) = 0 from rfl)]
        · obtain ⟨s', t', p', l, n, b1, b2, b3, b4, b5, b6⟩ := go y a3 a4 a5 a10 a11 (nr1 := nr) (by rw [a8]; exact h4) (by omega) a9 a1
          refine ⟨s', t', p', l, n, ?_, by rw [b2, hnum], b3, b4, b5, ?_⟩
          · unfold RfS
            rw [if_neg z, if_neg y]
            exact ⟨t1, a2, b1⟩
          · rcases b6 with b6 | ⟨c1, c2, c3, c4, c5, c6, c7⟩
            · exact Or.inl b6
            · refine Or.inr ⟨c1, c2, c3, fun j hj => by rw [c4 j hj, a7], c5, fun h => c6 ?_, fun h => c7 (fun h2 => h (List.mem_cons_of_mem _ h2))⟩
              rcases List.mem_cons.mp h with h | h
              · exact absurd h.symm y
              · exact h
theorem en1_1011 {m i c : Nat} {x2 : Int32} {s : ev_M} (hi : i < (txtT 1011).length) (hc : fSat 1011 (cI (i : Int)) = some (cI (c : Int))) (h7 : c < 128) : fTape_readsEntry_1_1011_h56 (m + 1) s x2 (cI (i : Int)) = bd2 (fTape_reads_1 s (cI (c : Int))) fun s3 v4 => if v4 = 0 then some (s3, cI (-1)) else if c = 59 then some (s3, x2) else fTape_readsEntry_1_1011_h56 m s3 x2 (cI ((i + 1 : Nat) : Int)) := by
  have l : (txtT 1011).length < 1000 := by decide
  have e : fSlen 1011 = some (cI ((txtT 1011).length : Int)) := rfl
  rw [fTape_readsEntry_1_1011_h56, e, bd1_some, if_pos ((q_lt (by omega) (by omega)).mpr hi), hc, bd1_some]
  congr 1
  funext s3 v4
  rw [q_s (by omega)]
  by_cases w : v4 = 0
  · rw [if_pos w, if_pos w]
  rw [if_neg w, if_neg w]
  by_cases z : c = 59
  · rw [if_pos z, z, if_pos (show cI ((59 : Nat) : Int) = cI 59 from rfl)]
  · rw [if_neg z, if_neg (fun u => z (by rw [eq_i, q_ti (by omega), show (cI 59).toInt = 59 from rfl] at u; omega))]
theorem sq1_1011 {x2 : Int32} : ∀ (cs : List Nat) (i nr p m : Nat) (s t : ev_M), Shp 1011 i cs → ends59 cs = true → ok64 cs = true → nr + n35 cs ≤ 4 → cs.length ≤ m → Ps1 p s t → t.1 549 140 = 0 → s.1 1 4 = cI (nr : Int) → ∃ (s' t' : ev_M) (p' : Nat) (l : List Int32) (n : Int64), RfS cs t t' l n ∧ l.length = n35 cs ∧ Ps1 p' s' t' ∧ fr FrdC1 s s' ∧ fr FrdM t t' ∧ ((t'.1 549 140 = cI 1 ∧ fTape_readsEntry_1_1011_h56 m s x2 (cI (i : Int)) = some (s', cI (-1))) ∨ (t'.1 549 140 = 0 ∧ p < p' ∧ fTape_readsEntry_1_1011_h56 m s x2 (cI (i : Int)) = some (s', x2) ∧ (∀ j, j < nr → s'.1 3 j = s.1 3 j) ∧ (∀ j (h : j < l.length), s'.1 3 (nr + j) = l[j] ∧ Rg 0 l[j] 999999) ∧ (64 ∈ cs → s'.2.1 1 5 = n) ∧ (64 ∉ cs → s'.2.1 1 5 = s.2.1 1 5)))
  | [], i, nr, p, m, s, t, hS, he, _, _, _, _, _, _ => by cases he
  | c :: cs, i, nr, p, m, s, t, hS, he, ho, hn, hm, hP, hf, h4 => by
    obtain ⟨m, rfl⟩ : ∃ k, m = k + 1 := ⟨m - 1, by rw [List.length_cons] at hm; omega⟩
    rw [List.length_cons] at hm
    obtain ⟨i1, i2, i3⟩ := hS.hd (by decide)
    have eq := en1_1011 (m := m) (x2 := x2) (s := s) i1 i2 i3
    have n10 : ¬ (cI 1 : Int32) = 0 := by decide
    have hnum : n35 (c :: cs) = n35 cs + (if c = 35 then 1 else 0) := rfl
    -- what remains, when one piece is read
    have go : ∀ {s1 t1 : ev_M} {p1 nr1 : Nat}, ¬ c = 64 → Ps1 p1 s1 t1 → t1.1 549 140 = 0 → p < p1 → fr FrdC1 s s1 → fr FrdM t t1 → s1.1 1 4 = cI (nr1 : Int) → nr1 + n35 cs ≤ 4 → s1.2.1 1 5 = s.2.1 1 5 → fTape_reads_1 s (cI (c : Int)) = some (s1, cI 1) → ∃ (s' t' : ev_M) (p' : Nat) (l : List Int32) (n : Int64), RfS cs t1 t' l n ∧ l.length = n35 cs ∧ Ps1 p' s' t' ∧ fr FrdC1 s s' ∧ fr FrdM t t' ∧ ((t'.1 549 140 = cI 1 ∧ fTape_readsEntry_1_1011_h56 (m + 1) s x2 (cI (i : Int)) = some (s', cI (-1))) ∨ (t'.1 549 140 = 0 ∧ p < p' ∧ fTape_readsEntry_1_1011_h56 (m + 1) s x2 (cI (i : Int)) = some (s', x2) ∧ (∀ j, j < nr1 → s'.1 3 j = s1.1 3 j) ∧ (∀ j (h : j < l.length), s'.1 3 (nr1 + j) = l[j] ∧ Rg 0 l[j] 999999) ∧ (64 ∈ cs → s'.2.1 1 5 = n) ∧ (64 ∉ cs → s'.2.1 1 5 = s.2.1 1 5))) := by
      intro s1 t1 p1 nr1 h64 P1 f1 lt1 fr1 gr1 n1 n2 nm1 rd
      rw [rd, bd2_some, if_neg n10] at eq
      by_cases z59 : c = 59
      · have ce : cs = [] := by
          unfold ends59 at he
          rw [if_pos z59] at he
          simpa using he
        subst ce
        rw [if_pos z59] at eq
        exact ⟨s1, t1, p1, [], cL 0, ⟨rfl, rfl⟩, rfl, P1, fr1, gr1, Or.inr ⟨f1, lt1, eq, fun _ _ => rfl, fun j h => absurd h (Nat.not_lt_zero _), (fun h => by cases h), fun _ => nm1⟩⟩
      · rw [if_neg z59] at eq
        have he2 : ends59 cs = true := by
          unfold ends59 at he
          rw [if_neg z59] at he
          exact he
        have ho2 : ok64 cs = true := by
          unfold ok64 at ho
          rw [if_neg h64] at ho
          exact ho
        obtain ⟨s', t', p', l, n, a1, a2, a3, a4, a5, a6⟩ := sq1_1011 (x2 := x2) cs (i + 1) nr1 p1 m s1 t1 hS.tl he2 ho2 n2 (by omega) P1 f1 n1
        refine ⟨s', t', p', l, n, a1, a2, a3, fr1.tr a4, gr1.tr a5, ?_⟩
        rcases a6 with ⟨b1, b2⟩ | ⟨b1, b2, b3, b4, b5, b6, b7⟩
        · exact Or.inl ⟨b1, eq.trans b2⟩
        · exact Or.inr ⟨b1, by omega, eq.trans b3, b4, b5, b6, fun h => (b7 h).trans nm1⟩
    by_cases z : c = 35
    · subst z
      rw [if_pos rfl] at hnum
      rcases rdN1 hP hf h4 (by omega) with ⟨s1, t1, v, p1, a1, a2, a3, a4, a5, a6⟩ | ⟨s1, t1, p1, v, a1, a2, a3, a4, a5, a6, a7, a8, a9, a10, a11⟩
      · obtain ⟨l, b1, b2⟩ := RfS.fail a4 cs
        refine ⟨s1, t1, p1, v :: l, cL 0, ?_, by rw [List.length_cons, b2, hnum], a3, a5, a6, Or.inl ⟨a4, ?_⟩⟩
        · unfold RfS
          rw [if_pos rfl]
          exact ⟨t1, v, l, a2, rfl, b1⟩
        · rw [eq, show cI ((35 : Nat) : Int) = cI 35 from rfl, a1, bd2_some, if_pos (show (cI 0 : Int32) = 0 from rfl)]
      · obtain ⟨s', t', p', l, n, b1, b2, b3, b4, b5, b6⟩ := go (by decide) a3 a4 a5 a10 a11 a8 (by omega) a9 a1
        refine ⟨s', t', p', v :: l, n, ?_, by rw [List.length_cons, b2, hnum], b3, b4, b5, ?_⟩
        · unfold RfS
          rw [if_pos rfl]
          exact ⟨t1, v, l, a2, rfl, b1⟩
        · rcases b6 with b6 | ⟨c1, c2, c3, c4, c5, c6, c7⟩
          · exact Or.inl b6
          · refine Or.inr ⟨c1, c2, c3, fun j hj => ?_, fun j hj => ?_, fun h => c6 ?_, fun h => c7 (fun h2 => h (List.mem_cons_of_mem _ h2))⟩
            · rw [c4 j (by omega), a7, up1_ne (by omega)]
            · cases j with
              | zero =>
                refine ⟨?_, a6⟩
                rw [Nat.add_zero, c4 nr (by omega), a7, up1_eq]
                rfl
              | succ j =>
                have := c5 j (by rw [List.length_cons] at hj; omega)
                rw [show nr + (j + 1) = nr + 1 + j by omega]
                exact this
            · rcases List.mem_cons.mp h with h | h
              · exact absurd h (by decide)
              · exact h
    · rw [if_neg z, Nat.add_zero] at hnum
      by_cases y : c = 64
      · subst y
        have h64 : 64 ∉ cs := by
          unfold ok64 at ho
          rw [if_pos rfl] at ho
          simpa using ho
        rcases rdL1 hP hf with ⟨s1, t1, v, p1, a1, a2, a3, a4, a5, a6⟩ | ⟨s1, t1, p1, a1, a2, a3, a4, a5, a7, a8, a10, a11⟩
        · obtain ⟨l, b1, b2⟩ := RfS.fail a4 cs
          refine ⟨s1, t1, p1, l, v, ?_, by rw [b2, hnum], a3, a5, a6, Or.inl ⟨a4, ?_⟩⟩
          · unfold RfS
            rw [if_neg z, if_pos rfl]
            exact ⟨t1, a2, b1.irr h64⟩
          · rw [eq, show cI ((64 : Nat) : Int) = cI 64 from rfl, a1, bd2_some, if_pos (show (cI 0 : Int32) = 0 from rfl)]
        · rw [show cI ((64 : Nat) : Int) = cI 64 from rfl, a1, bd2_some, if_neg n10, if_neg (by decide)] at eq
          have he2 : ends59 cs = true := by
            unfold ends59 at he
            rw [if_neg (by decide)] at he
            exact he
          have ho2 : ok64 cs = true := by
            have : ∀ l : List Nat, 64 ∉ l → ok64 l = true := fun l => by
              induction l with
              | nil => intro _; rfl
              | cons a l ih =>
                intro h
                unfold ok64
                rw [if_neg (fun e => h (by rw [e]; exact List.mem_cons_self))]
                exact ih (fun e => h (List.mem_cons_of_mem _ e))
            exact this cs h64
          obtain ⟨s', t', p', l, n, b1, b2, b3, b4, b5, b6⟩ := sq1_1011 (x2 := x2) cs (i + 1) nr p1 m s1 t1 hS.tl he2 ho2 (by omega) (by omega) a3 a4 (by rw [a8]; exact h4)
          refine ⟨s', t', p', l, s1.2.1 1 5, ?_, by rw [b2, hnum], b3, a10.tr b4, a11.tr b5, ?_⟩
          · unfold RfS
            rw [if_neg z, if_pos rfl]
            exact ⟨t1, a2, b1.irr h64⟩
          · rcases b6 with ⟨c1, c2⟩ | ⟨c1, c2, c3, c4, c5, c6, c7⟩
            · exact Or.inl ⟨c1, eq.trans c2⟩
            · exact Or.inr ⟨c1, by omega, eq.trans c3, fun j hj => by rw [c4 j hj, a7], c5, fun _ => c7 h64, fun h => absurd List.mem_cons_self h⟩
      · rcases rdC1 (c := cI (c : Int)) hP hf (fun u => z (by rw [eq_i, q_ti (by omega), show (cI 35).toInt = 35 from rfl] at u; omega)) (fun u => y (by rw [eq_i, q_ti (by omega), show (cI 64).toInt = 64 from rfl] at u; omega)) (by rw [q_ti (by omega)]; omega) with ⟨s1, t1, p1, a1, a2, a3, a4, a5, a6⟩ | ⟨s1, t1, p1, a1, a2, a3, a4, a5, a7, a8, a9, a10, a11⟩
        · obtain ⟨l, b1, b2⟩ := RfS.fail a4 cs
          refine ⟨s1, t1, p1, l, cL 0, ?_, by rw [b2, hnum], a3, a5, a6, Or.inl ⟨a4, ?_⟩⟩
          · unfold RfS
            rw [if_neg z, if_neg y]
            exact ⟨t1, a2, b1⟩
          · rw [eq, a1, bd2_some, if_pos (show (cI 0 : Int32) = 0 from rfl)]
        · obtain ⟨s', t', p', l, n, b1, b2, b3, b4, b5, b6⟩ := go y a3 a4 a5 a10 a11 (nr1 := nr) (by rw [a8]; exact h4) (by omega) a9 a1
          refine ⟨s', t', p', l, n, ?_, by rw [b2, hnum], b3, b4, b5, ?_⟩
          · unfold RfS
            rw [if_neg z, if_neg y]
            exact ⟨t1, a2, b1⟩
          · rcases b6 with b6 | ⟨c1, c2, c3, c4, c5, c6, c7⟩
            · exact Or.inl b6
            · refine Or.inr ⟨c1, c2, c3, fun j hj => by rw [c4 j hj, a7], c5, fun h => c6 ?_, fun h => c7 (fun h2 => h (List.mem_cons_of_mem _ h2))⟩
              rcases List.mem_cons.mp h with h | h
              · exact absurd h.symm y
              · exact h
theorem en4_1010 {m i c : Nat} {x2 : Int32} {s : ev_M} (hi : i < (txtT 1010).length) (hc : fSat 1010 (cI (i : Int)) = some (cI (c : Int))) (h7 : c < 128) : fTape_readsEntry_4_1010_h56 (m + 1) s x2 (cI (i : Int)) = bd2 (fTape_reads_4 s (cI (c : Int))) fun s3 v4 => if v4 = 0 then some (s3, cI (-1)) else if c = 59 then some (s3, x2) else fTape_readsEntry_4_1010_h56 m s3 x2 (cI ((i + 1 : Nat) : Int)) := by
  have l : (txtT 1010).length < 1000 := by decide
  have e : fSlen 1010 = some (cI ((txtT 1010).length : Int)) := rfl
  rw [fTape_readsEntry_4_1010_h56, e, bd1_some, if_pos ((q_lt (by omega) (by omega)).mpr hi), hc, bd1_some]
  congr 1
  funext s3 v4
  rw [q_s (by omega)]
  by_cases w : v4 = 0
  · rw [if_pos w, if_pos w]
  rw [if_neg w, if_neg w]
  by_cases z : c = 59
  · rw [if_pos z, z, if_pos (show cI ((59 : Nat) : Int) = cI 59 from rfl)]
  · rw [if_neg z, if_neg (fun u => z (by rw [eq_i, q_ti (by omega), show (cI 59).toInt = 59 from rfl] at u; omega))]
theorem sq4_1010 {x2 : Int32} : ∀ (cs : List Nat) (i nr p m : Nat) (s t : ev_M), Shp 1010 i cs → ends59 cs = true → ok64 cs = true → nr + n35 cs ≤ 4 → cs.length ≤ m → Ps4 p s t → t.1 549 140 = 0 → s.1 4 4 = cI (nr : Int) → ∃ (s' t' : ev_M) (p' : Nat) (l : List Int32) (n : Int64), RfS cs t t' l n ∧ l.length = n35 cs ∧ Ps4 p' s' t' ∧ fr FrdC4 s s' ∧ fr FrdM t t' ∧ ((t'.1 549 140 = cI 1 ∧ fTape_readsEntry_4_1010_h56 m s x2 (cI (i : Int)) = some (s', cI (-1))) ∨ (t'.1 549 140 = 0 ∧ p < p' ∧ fTape_readsEntry_4_1010_h56 m s x2 (cI (i : Int)) = some (s', x2) ∧ (∀ j, j < nr → s'.1 6 j = s.1 6 j) ∧ (∀ j (h : j < l.length), s'.1 6 (nr + j) = l[j] ∧ Rg 0 l[j] 999999) ∧ (64 ∈ cs → s'.2.1 4 5 = n) ∧ (64 ∉ cs → s'.2.1 4 5 = s.2.1 4 5)))
  | [], i, nr, p, m, s, t, hS, he, _, _, _, _, _, _ => by cases he
  | c :: cs, i, nr, p, m, s, t, hS, he, ho, hn, hm, hP, hf, h4 => by
    obtain ⟨m, rfl⟩ : ∃ k, m = k + 1 := ⟨m - 1, by rw [List.length_cons] at hm; omega⟩
    rw [List.length_cons] at hm
    obtain ⟨i1, i2, i3⟩ := hS.hd (by decide)
    have eq := en4_1010 (m := m) (x2 := x2) (s := s) i1 i2 i3
    have n10 : ¬ (cI 1 : Int32) = 0 := by decide
    have hnum : n35 (c :: cs) = n35 cs + (if c = 35 then 1 else 0) := rfl
    -- what remains, when one piece is read
    have go : ∀ {s1 t1 : ev_M} {p1 nr1 : Nat}, ¬ c = 64 → Ps4 p1 s1 t1 → t1.1 549 140 = 0 → p < p1 → fr FrdC4 s s1 → fr FrdM t t1 → s1.1 4 4 = cI (nr1 : Int) → nr1 + n35 cs ≤ 4 → s1.2.1 4 5 = s.2.1 4 5 → fTape_reads_4 s (cI (c : Int)) = some (s1, cI 1) → ∃ (s' t' : ev_M) (p' : Nat) (l : List Int32) (n : Int64), RfS cs t1 t' l n ∧ l.length = n35 cs ∧ Ps4 p' s' t' ∧ fr FrdC4 s s' ∧ fr FrdM t t' ∧ ((t'.1 549 140 = cI 1 ∧ fTape_readsEntry_4_1010_h56 (m + 1) s x2 (cI (i : Int)) = some (s', cI (-1))) ∨ (t'.1 549 140 = 0 ∧ p < p' ∧ fTape_readsEntry_4_1010_h56 (m + 1) s x2 (cI (i : Int)) = some (s', x2) ∧ (∀ j, j < nr1 → s'.1 6 j = s1.1 6 j) ∧ (∀ j (h : j < l.length), s'.1 6 (nr1 + j) = l[j] ∧ Rg 0 l[j] 999999) ∧ (64 ∈ cs → s'.2.1 4 5 = n) ∧ (64 ∉ cs → s'.2.1 4 5 = s.2.1 4 5))) := by
      intro s1 t1 p1 nr1 h64 P1 f1 lt1 fr1 gr1 n1 n2 nm1 rd
      rw [rd, bd2_some, if_neg n10] at eq
      by_cases z59 : c = 59
      · have ce : cs = [] := by
          unfold ends59 at he
          rw [if_pos z59] at he
          simpa using he
        subst ce
        rw [if_pos z59] at eq
        exact ⟨s1, t1, p1, [], cL 0, ⟨rfl, rfl⟩, rfl, P1, fr1, gr1, Or.inr ⟨f1, lt1, eq, fun _ _ => rfl, fun j h => absurd h (Nat.not_lt_zero _), (fun h => by cases h), fun _ => nm1⟩⟩
      · rw [if_neg z59] at eq
        have he2 : ends59 cs = true := by
          unfold ends59 at he
          rw [if_neg z59] at he
          exact he
        have ho2 : ok64 cs = true := by
          unfold ok64 at ho
          rw [if_neg h64] at ho
          exact ho
        obtain ⟨s', t', p', l, n, a1, a2, a3, a4, a5, a6⟩ := sq4_1010 (x2 := x2) cs (i + 1) nr1 p1 m s1 t1 hS.tl he2 ho2 n2 (by omega) P1 f1 n1
        refine ⟨s', t', p', l, n, a1, a2, a3, fr1.tr a4, gr1.tr a5, ?_⟩
        rcases a6 with ⟨b1, b2⟩ | ⟨b1, b2, b3, b4, b5, b6, b7⟩
        · exact Or.inl ⟨b1, eq.trans b2⟩
        · exact Or.inr ⟨b1, by omega, eq.trans b3, b4, b5, b6, fun h => (b7 h).trans nm1⟩
    by_cases z : c = 35
    · subst z
      rw [if_pos rfl] at hnum
      rcases rdN4 hP hf h4 (by omega) with ⟨s1, t1, v, p1, a1, a2, a3, a4, a5, a6⟩ | ⟨s1, t1, p1, v, a1, a2, a3, a4, a5, a6, a7, a8, a9, a10, a11⟩
      · obtain ⟨l, b1, b2⟩ := RfS.fail a4 cs
        refine ⟨s1, t1, p1, v :: l, cL 0, ?_, by rw [List.length_cons, b2, hnum], a3, a5, a6, Or.inl ⟨a4, ?_⟩⟩
        · unfold RfS
          rw [if_pos rfl]
          exact ⟨t1, v, l, a2, rfl, b1⟩
        · rw [eq, show cI ((35 : Nat) : Int) = cI 35 from rfl, a1, bd2_some, if_pos (show (cI 0 : Int32) = 0 from rfl)]
      · obtain ⟨s', t', p', l, n, b1, b2, b3, b4, b5, b6⟩ := go (by decide) a3 a4 a5 a10 a11 a8 (by omega) a9 a1
        refine ⟨s', t', p', v :: l, n, ?_, by rw [List.length_cons, b2, hnum], b3, b4, b5, ?_⟩
        · unfold RfS
          rw [if_pos rfl]
          exact ⟨t1, v, l, a2, rfl, b1⟩
        · rcases b6 with b6 | ⟨c1, c2, c3, c4, c5, c6, c7⟩
          · exact Or.inl b6
          · refine Or.inr ⟨c1, c2, c3, fun j hj => ?_, fun j hj => ?_, fun h => c6 ?_, fun h => c7 (fun h2 => h (List.mem_cons_of_mem _ h2))⟩
            · rw [c4 j (by omega), a7, up1_ne (by omega)]
            · cases j with
              | zero =>
                refine ⟨?_, a6⟩
                rw [Nat.add_zero, c4 nr (by omega), a7, up1_eq]
                rfl
              | succ j =>
                have := c5 j (by rw [List.length_cons] at hj; omega)
                rw [show nr + (j + 1) = nr + 1 + j by omega]
                exact this
            · rcases List.mem_cons.mp h with h | h
              · exact absurd h (by decide)
              · exact h
    · rw [if_neg z, Nat.add_zero] at hnum
      by_cases y : c = 64
      · subst y
        have h64 : 64 ∉ cs := by
          unfold ok64 at ho
          rw [if_pos rfl] at ho
          simpa using ho
        rcases rdL4 hP hf with ⟨s1, t1, v, p1, a1, a2, a3, a4, a5, a6⟩ | ⟨s1, t1, p1, a1, a2, a3, a4, a5, a7, a8, a10, a11⟩
        · obtain ⟨l, b1, b2⟩ := RfS.fail a4 cs
          refine ⟨s1, t1, p1, l, v, ?_, by rw [b2, hnum], a3, a5, a6, Or.inl ⟨a4, ?_⟩⟩
          · unfold RfS
            rw [if_neg z, if_pos rfl]
            exact ⟨t1, a2, b1.irr h64⟩
          · rw [eq, show cI ((64 : Nat) : Int) = cI 64 from rfl, a1, bd2_some, if_pos (show (cI 0 : Int32) = 0 from rfl)]
        · rw [show cI ((64 : Nat) : Int) = cI 64 from rfl, a1, bd2_some, if_neg n10, if_neg (by decide)] at eq
          have he2 : ends59 cs = true := by
            unfold ends59 at he
            rw [if_neg (by decide)] at he
            exact he
          have ho2 : ok64 cs = true := by
            have : ∀ l : List Nat, 64 ∉ l → ok64 l = true := fun l => by
              induction l with
              | nil => intro _; rfl
              | cons a l ih =>
                intro h
                unfold ok64
                rw [if_neg (fun e => h (by rw [e]; exact List.mem_cons_self))]
                exact ih (fun e => h (List.mem_cons_of_mem _ e))
            exact this cs h64
          obtain ⟨s', t', p', l, n, b1, b2, b3, b4, b5, b6⟩ := sq4_1010 (x2 := x2) cs (i + 1) nr p1 m s1 t1 hS.tl he2 ho2 (by omega) (by omega) a3 a4 (by rw [a8]; exact h4)
          refine ⟨s', t', p', l, s1.2.1 4 5, ?_, by rw [b2, hnum], b3, a10.tr b4, a11.tr b5, ?_⟩
          · unfold RfS
            rw [if_neg z, if_pos rfl]
            exact ⟨t1, a2, b1.irr h64⟩
          · rcases b6 with ⟨c1, c2⟩ | ⟨c1, c2, c3, c4, c5, c6, c7⟩
            · exact Or.inl ⟨c1, eq.trans c2⟩
            · exact Or.inr ⟨c1, by omega, eq.trans c3, fun j hj => by rw [c4 j hj, a7], c5, fun _ => c7 h64, fun h => absurd List.mem_cons_self h⟩
      · rcases rdC4 (c := cI (c : Int)) hP hf (fun u => z (by rw [eq_i, q_ti (by omega), show (cI 35).toInt = 35 from rfl] at u; omega)) (fun u => y (by rw [eq_i, q_ti (by omega), show (cI 64).toInt = 64 from rfl] at u; omega)) (by rw [q_ti (by omega)]; omega) with ⟨s1, t1, p1, a1, a2, a3, a4, a5, a6⟩ | ⟨s1, t1, p1, a1, a2, a3, a4, a5, a7, a8, a9, a10, a11⟩
        · obtain ⟨l, b1, b2⟩ := RfS.fail a4 cs
          refine ⟨s1, t1, p1, l, cL 0, ?_, by rw [b2, hnum], a3, a5, a6, Or.inl ⟨a4, ?_⟩⟩
          · unfold RfS
            rw [if_neg z, if_neg y]
            exact ⟨t1, a2, b1⟩
          · rw [eq, a1, bd2_some, if_pos (show (cI 0 : Int32) = 0 from rfl)]
        · obtain ⟨s', t', p', l, n, b1, b2, b3, b4, b5, b6⟩ := go y a3 a4 a5 a10 a11 (nr1 := nr) (by rw [a8]; exact h4) (by omega) a9 a1
          refine ⟨s', t', p', l, n, ?_, by rw [b2, hnum], b3, b4, b5, ?_⟩
          · unfold RfS
            rw [if_neg z, if_neg y]
            exact ⟨t1, a2, b1⟩
          · rcases b6 with b6 | ⟨c1, c2, c3, c4, c5, c6, c7⟩
            · exact Or.inl b6
            · refine Or.inr ⟨c1, c2, c3, fun j hj => by rw [c4 j hj, a7], c5, fun h => c6 ?_, fun h => c7 (fun h2 => h (List.mem_cons_of_mem _ h2))⟩
              rcases List.mem_cons.mp h with h | h
              · exact absurd h.symm y
              · exact h
theorem en4_1011 {m i c : Nat} {x2 : Int32} {s : ev_M} (hi : i < (txtT 1011).length) (hc : fSat 1011 (cI (i : Int)) = some (cI (c : Int))) (h7 : c < 128) : fTape_readsEntry_4_1011_h56 (m + 1) s x2 (cI (i : Int)) = bd2 (fTape_reads_4 s (cI (c : Int))) fun s3 v4 => if v4 = 0 then some (s3, cI (-1)) else if c = 59 then some (s3, x2) else fTape_readsEntry_4_1011_h56 m s3 x2 (cI ((i + 1 : Nat) : Int)) := by
  have l : (txtT 1011).length < 1000 := by decide
  have e : fSlen 1011 = some (cI ((txtT 1011).length : Int)) := rfl
  rw [fTape_readsEntry_4_1011_h56, e, bd1_some, if_pos ((q_lt (by omega) (by omega)).mpr hi), hc, bd1_some]
  congr 1
  funext s3 v4
  rw [q_s (by omega)]
  by_cases w : v4 = 0
  · rw [if_pos w, if_pos w]
  rw [if_neg w, if_neg w]
  by_cases z : c = 59
  · rw [if_pos z, z, if_pos (show cI ((59 : Nat) : Int) = cI 59 from rfl)]
  · rw [if_neg z, if_neg (fun u => z (by rw [eq_i, q_ti (by omega), show (cI 59).toInt = 59 from rfl] at u; omega))]
theorem sq4_1011 {x2 : Int32} : ∀ (cs : List Nat) (i nr p m : Nat) (s t : ev_M), Shp 1011 i cs → ends59 cs = true → ok64 cs = true → nr + n35 cs ≤ 4 → cs.length ≤ m → Ps4 p s t → t.1 549 140 = 0 → s.1 4 4 = cI (nr : Int) → ∃ (s' t' : ev_M) (p' : Nat) (l : List Int32) (n : Int64), RfS cs t t' l n ∧ l.length = n35 cs ∧ Ps4 p' s' t' ∧ fr FrdC4 s s' ∧ fr FrdM t t' ∧ ((t'.1 549 140 = cI 1 ∧ fTape_readsEntry_4_1011_h56 m s x2 (cI (i : Int)) = some (s', cI (-1))) ∨ (t'.1 549 140 = 0 ∧ p < p' ∧ fTape_readsEntry_4_1011_h56 m s x2 (cI (i : Int)) = some (s', x2) ∧ (∀ j, j < nr → s'.1 6 j = s.1 6 j) ∧ (∀ j (h : j < l.length), s'.1 6 (nr + j) = l[j] ∧ Rg 0 l[j] 999999) ∧ (64 ∈ cs → s'.2.1 4 5 = n) ∧ (64 ∉ cs → s'.2.1 4 5 = s.2.1 4 5)))
  | [], i, nr, p, m, s, t, hS, he, _, _, _, _, _, _ => by cases he
  | c :: cs, i, nr, p, m, s, t, hS, he, ho, hn, hm, hP, hf, h4 => by
    obtain ⟨m, rfl⟩ : ∃ k, m = k + 1 := ⟨m - 1, by rw [List.length_cons] at hm; omega⟩
    rw [List.length_cons] at hm
    obtain ⟨i1, i2, i3⟩ := hS.hd (by decide)
    have eq := en4_1011 (m := m) (x2 := x2) (s := s) i1 i2 i3
    have n10 : ¬ (cI 1 : Int32) = 0 := by decide
    have hnum : n35 (c :: cs) = n35 cs + (if c = 35 then 1 else 0) := rfl
    -- what remains, when one piece is read
    have go : ∀ {s1 t1 : ev_M} {p1 nr1 : Nat}, ¬ c = 64 → Ps4 p1 s1 t1 → t1.1 549 140 = 0 → p < p1 → fr FrdC4 s s1 → fr FrdM t t1 → s1.1 4 4 = cI (nr1 : Int) → nr1 + n35 cs ≤ 4 → s1.2.1 4 5 = s.2.1 4 5 → fTape_reads_4 s (cI (c : Int)) = some (s1, cI 1) → ∃ (s' t' : ev_M) (p' : Nat) (l : List Int32) (n : Int64), RfS cs t1 t' l n ∧ l.length = n35 cs ∧ Ps4 p' s' t' ∧ fr FrdC4 s s' ∧ fr FrdM t t' ∧ ((t'.1 549 140 = cI 1 ∧ fTape_readsEntry_4_1011_h56 (m + 1) s x2 (cI (i : Int)) = some (s', cI (-1))) ∨ (t'.1 549 140 = 0 ∧ p < p' ∧ fTape_readsEntry_4_1011_h56 (m + 1) s x2 (cI (i : Int)) = some (s', x2) ∧ (∀ j, j < nr1 → s'.1 6 j = s1.1 6 j) ∧ (∀ j (h : j < l.length), s'.1 6 (nr1 + j) = l[j] ∧ Rg 0 l[j] 999999) ∧ (64 ∈ cs → s'.2.1 4 5 = n) ∧ (64 ∉ cs → s'.2.1 4 5 = s.2.1 4 5))) := by
      intro s1 t1 p1 nr1 h64 P1 f1 lt1 fr1 gr1 n1 n2 nm1 rd
      rw [rd, bd2_some, if_neg n10] at eq
      by_cases z59 : c = 59
      · have ce : cs = [] := by
          unfold ends59 at he
          rw [if_pos z59] at he
          simpa using he
        subst ce
        rw [if_pos z59] at eq
        exact ⟨s1, t1, p1, [], cL 0, ⟨rfl, rfl⟩, rfl, P1, fr1, gr1, Or.inr ⟨f1, lt1, eq, fun _ _ => rfl, fun j h => absurd h (Nat.not_lt_zero _), (fun h => by cases h), fun _ => nm1⟩⟩
      · rw [if_neg z59] at eq
        have he2 : ends59 cs = true := by
          unfold ends59 at he
          rw [if_neg z59] at he
          exact he
        have ho2 : ok64 cs = true := by
          unfold ok64 at ho
          rw [if_neg h64] at ho
          exact ho
        obtain ⟨s', t', p', l, n, a1, a2, a3, a4, a5, a6⟩ := sq4_1011 (x2 := x2) cs (i + 1) nr1 p1 m s1 t1 hS.tl he2 ho2 n2 (by omega) P1 f1 n1
        refine ⟨s', t', p', l, n, a1, a2, a3, fr1.tr a4, gr1.tr a5, ?_⟩
        rcases a6 with ⟨b1, b2⟩ | ⟨b1, b2, b3, b4, b5, b6, b7⟩
        · exact Or.inl ⟨b1, eq.trans b2⟩
        · exact Or.inr ⟨b1, by omega, eq.trans b3, b4, b5, b6, fun h => (b7 h).trans nm1⟩
    by_cases z : c = 35
    · subst z
      rw [if_pos rfl] at hnum
      rcases rdN4 hP hf h4 (by omega) with ⟨s1, t1, v, p1, a1, a2, a3, a4, a5, a6⟩ | ⟨s1, t1, p1, v, a1, a2, a3, a4, a5, a6, a7, a8, a9, a10, a11⟩
      · obtain ⟨l, b1, b2⟩ := RfS.fail a4 cs
        refine ⟨s1, t1, p1, v :: l, cL 0, ?_, by rw [List.length_cons, b2, hnum], a3, a5, a6, Or.inl ⟨a4, ?_⟩⟩
        · unfold RfS
          rw [if_pos rfl]
          exact ⟨t1, v, l, a2, rfl, b1⟩
        · rw [eq, show cI ((35 : Nat) : Int) = cI 35 from rfl, a1, bd2_some, if_pos (show (cI 0 : Int32) = 0 from rfl)]
      · obtain ⟨s', t', p', l, n, b1, b2, b3, b4, b5, b6⟩ := go (by decide) a3 a4 a5 a10 a11 a8 (by omega) a9 a1
        refine ⟨s', t', p', v :: l, n, ?_, by rw [List.length_cons, b2, hnum], b3, b4, b5, ?_⟩
        · unfold RfS
          rw [if_pos rfl]
          exact ⟨t1, v, l, a2, rfl, b1⟩
        · rcases b6 with b6 | ⟨c1, c2, c3, c4, c5, c6, c7⟩
          · exact Or.inl b6
          · refine Or.inr ⟨c1, c2, c3, fun j hj => ?_, fun j hj => ?_, fun h => c6 ?_, fun h => c7 (fun h2 => h (List.mem_cons_of_mem _ h2))⟩
            · rw [c4 j (by omega), a7, up1_ne (by omega)]
            · cases j with
              | zero =>
                refine ⟨?_, a6⟩
                rw [Nat.add_zero, c4 nr (by omega), a7, up1_eq]
                rfl
              | succ j =>
                have := c5 j (by rw [List.length_cons] at hj; omega)
                rw [show nr + (j + 1) = nr + 1 + j by omega]
                exact this
            · rcases List.mem_cons.mp h with h | h
              · exact absurd h (by decide)
              · exact h
    · rw [if_neg z, Nat.add_zero] at hnum
      by_cases y : c = 64
      · subst y
        have h64 : 64 ∉ cs := by
          unfold ok64 at ho
          rw [if_pos rfl] at ho
          simpa using ho
        rcases rdL4 hP hf with ⟨s1, t1, v, p1, a1, a2, a3, a4, a5, a6⟩ | ⟨s1, t1, p1, a1, a2, a3, a4, a5, a7, a8, a10, a11⟩
        · obtain ⟨l, b1, b2⟩ := RfS.fail a4 cs
          refine ⟨s1, t1, p1, l, v, ?_, by rw [b2, hnum], a3, a5, a6, Or.inl ⟨a4, ?_⟩⟩
          · unfold RfS
            rw [if_neg z, if_pos rfl]
            exact ⟨t1, a2, b1.irr h64⟩
          · rw [eq, show cI ((64 : Nat) : Int) = cI 64 from rfl, a1, bd2_some, if_pos (show (cI 0 : Int32) = 0 from rfl)]
        · rw [show cI ((64 : Nat) : Int) = cI 64 from rfl, a1, bd2_some, if_neg n10, if_neg (by decide)] at eq
          have he2 : ends59 cs = true := by
            unfold ends59 at he
            rw [if_neg (by decide)] at he
            exact he
          have ho2 : ok64 cs = true := by
            have : ∀ l : List Nat, 64 ∉ l → ok64 l = true := fun l => by
              induction l with
              | nil => intro _; rfl
              | cons a l ih =>
                intro h
                unfold ok64
                rw [if_neg (fun e => h (by rw [e]; exact List.mem_cons_self))]
                exact ih (fun e => h (List.mem_cons_of_mem _ e))
            exact this cs h64
          obtain ⟨s', t', p', l, n, b1, b2, b3, b4, b5, b6⟩ := sq4_1011 (x2 := x2) cs (i + 1) nr p1 m s1 t1 hS.tl he2 ho2 (by omega) (by omega) a3 a4 (by rw [a8]; exact h4)
          refine ⟨s', t', p', l, s1.2.1 4 5, ?_, by rw [b2, hnum], b3, a10.tr b4, a11.tr b5, ?_⟩
          · unfold RfS
            rw [if_neg z, if_pos rfl]
            exact ⟨t1, a2, b1.irr h64⟩
          · rcases b6 with ⟨c1, c2⟩ | ⟨c1, c2, c3, c4, c5, c6, c7⟩
            · exact Or.inl ⟨c1, eq.trans c2⟩
            · exact Or.inr ⟨c1, by omega, eq.trans c3, fun j hj => by rw [c4 j hj, a7], c5, fun _ => c7 h64, fun h => absurd List.mem_cons_self h⟩
      · rcases rdC4 (c := cI (c : Int)) hP hf (fun u => z (by rw [eq_i, q_ti (by omega), show (cI 35).toInt = 35 from rfl] at u; omega)) (fun u => y (by rw [eq_i, q_ti (by omega), show (cI 64).toInt = 64 from rfl] at u; omega)) (by rw [q_ti (by omega)]; omega) with ⟨s1, t1, p1, a1, a2, a3, a4, a5, a6⟩ | ⟨s1, t1, p1, a1, a2, a3, a4, a5, a7, a8, a9, a10, a11⟩
        · obtain ⟨l, b1, b2⟩ := RfS.fail a4 cs
          refine ⟨s1, t1, p1, l, cL 0, ?_, by rw [b2, hnum], a3, a5, a6, Or.inl ⟨a4, ?_⟩⟩
          · unfold RfS
            rw [if_neg z, if_neg y]
            exact ⟨t1, a2, b1⟩
          · rw [eq, a1, bd2_some, if_pos (show (cI 0 : Int32) = 0 from rfl)]
        · obtain ⟨s', t', p', l, n, b1, b2, b3, b4, b5, b6⟩ := go y a3 a4 a5 a10 a11 (nr1 := nr) (by rw [a8]; exact h4) (by omega) a9 a1
          refine ⟨s', t', p', l, n, ?_, by rw [b2, hnum], b3, b4, b5, ?_⟩
          · unfold RfS
            rw [if_neg z, if_neg y]
            exact ⟨t1, a2, b1⟩
          · rcases b6 with b6 | ⟨c1, c2, c3, c4, c5, c6, c7⟩
            · exact Or.inl b6
            · refine Or.inr ⟨c1, c2, c3, fun j hj => by rw [c4 j hj, a7], c5, fun h => c6 ?_, fun h => c7 (fun h2 => h (List.mem_cons_of_mem _ h2))⟩
              rcases List.mem_cons.mp h with h | h
              · exact absurd h.symm y
              · exact h
