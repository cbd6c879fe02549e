/-! ===== LEVEL 3: the sheet: lines and boxes, class and reference ===== -/
theorem Lc.k61 {w h n : Nat} {g : Nat → Nat} {s s' t : ev_M} (H : Lc w h n g s t) (h' : fr [(61, 61, 0)] s s') : Lc w h n g s' t := by
  obtain ⟨⟨⟨d1, d2, d3, d4⟩, d5⟩, I, ⟨r1, r2, r3, r4⟩, T, h1, h2, h3⟩ := H
  have e57 : s'.1 57 = s.1 57 := funext fun k => (h'.1 57 k rfl).1
  refine ⟨⟨⟨?_, ?_, d3, d4⟩, d5⟩, fun q hq => ?_, ⟨?_, r2, r3, fun p hp => ?_⟩, ?_, fun p hp => ?_, h2, ?_⟩
  · rw [(h'.1 52 4 rfl).1]; exact d1
  · rw [(h'.1 52 5 rfl).1]; exact d2
  · rw [(h'.1 53 q rfl).1]; exact I q hq
  · rw [(h'.1 52 9 rfl).1]; exact r1
  · rw [(h'.1 56 p rfl).1, (h'.1 57 p rfl).1, (h'.1 58 p rfl).1, (h'.1 59 p rfl).1]; exact r4 p hp
  · unfold Tps; rw [e57]; exact T
  · rw [(h'.1 60 p rfl).1]; exact h1 p hp
  · rw [e57]; exact h3
theorem tp_eq {w h n a b : Nat} {s t : ev_M} (R : Rpt w h n s t) (hh : h ≤ 4096) (ha : a < n) (hb : b < n) (e : (s.1 57 a).toInt = (s.1 57 b).toInt) : nrP s a b := by
  obtain ⟨-, -, -, r4⟩ := R
  obtain ⟨-, ta, -, da, ⟨-, a2, -, a4⟩, -, -, a9, -, a11⟩ := r4 a ha
  obtain ⟨-, tb, -, db, ⟨-, b2, -, b4⟩, -, -, b9, -, b11⟩ := r4 b hb
  rw [a2, b2, q_ti (by omega), q_ti (by omega)] at e
  unfold nrP
  rw [a2, a4, b2, b4, q_ix (show ta < 100000 by omega), q_ix (show da < 100000 by omega), q_ix (show tb < 100000 by omega), q_ix (show db < 100000 by omega)]
  omega
theorem sheet_ok {w h n : Nat} {s t : ev_M} (D : Dim w h s t) (I : Ink (w * h) s t) (R : Rpt w h n s t) (T : Tps n s) (Sy : Sym s t) : ∃ (g : Nat → Nat) (S : List Nat) (K : Nat) (s1 s2 s' t1 t' : ev_M), fM_hangTogether t = some t1 ∧ fM_findLines t1 = some t' ∧ fSheet_joinLines s = some s1 ∧ fSheet_orderParts s1 = some s2 ∧ fSheet_keepLines s2 = some s' ∧ Lc w h n g s2 t1 ∧ Sym s2 t1 ∧ Ks n g S s2 s' (Ff g n K) K ∧ Fl n K g s2 t' ∧ (∀ q, q < n → gF S q < n ∧ pos n s2 (gF S q) = q) ∧ fr FjlC s s1 ∧ fr [(61, 61, 0)] s1 s2 ∧ fr [(656, 656, 0)] t t1 ∧ fr FlyM t1 t' := by
  have hh := D.2.2.2.2.1
  have r3 := R.2.2.1
  obtain ⟨g, t1, a1, a2, a3, a4, a5, a6⟩ := hang_ok R hh
  obtain ⟨s1, b1, b2, b3⟩ := join_ok hh R a4 a3 (fun p hp => (a2 p hp).2) a5
  have H1 : Lc w h n g s1 t1 := by
    obtain ⟨⟨d1, d2, d3, d4⟩, d5⟩ := D
    have e57 : s1.1 57 = s.1 57 := funext fun k => (b3.1 57 k rfl).1
    refine ⟨⟨⟨?_, ?_, ?_, ?_⟩, d5⟩, fun q hq => ?_, (R.kC b3).kM a6, ?_, b2, fun p hp => ⟨(a2 p hp).1, (a2 p hp).2, a5 p hp⟩, ?_⟩
    · rw [(b3.1 52 4 rfl).1]; exact d1
    · rw [(b3.1 52 5 rfl).1]; exact d2
    · rw [(a6.1 549 152 rfl).1]; exact d3
    · rw [(a6.1 549 153 rfl).1]; exact d4
    · rw [(b3.1 53 q rfl).1, (a6.1 649 q rfl).1]; exact I q hq
    · unfold Tps; rw [e57]; exact T
    · rw [e57]
      intro r r' h1 h2 h3 h4
      have le := T r r' h1 h2
      by_cases z : (s.1 57 r).toInt = (s.1 57 r').toInt
      · have := a4 r r' (by omega) h2 (tp_eq R hh (by omega) h2 z)
        omega
      · omega
  obtain ⟨S, s2, c1, c2, c3, c4, c5, c6, c7⟩ := order_ok r3 H1.ky H1.2.2.1.1
  have H2 := H1.k61 c7
  have ke : kyP s2 = kyP s1 := funext fun a => kyP_k c7
  have Sy2 : Sym s2 t1 := fun k hk => by
    rw [(c7.1 1004 k rfl).1, (b3.1 1004 k rfl).1, (a6.1 657 k rfl).1]; exact Sy k hk
  have at_ : ∀ q (hq : q < n), gF S q = S[q]'(by omega) := fun q hq => gF_at (by omega)
  have hin : ∀ q, q < n → gF S q < n := fun q hq => by
    rw [at_ q hq]; exact (c4 _).mp (List.getElem_mem _)
  have hps : ∀ q, q < n → pos n s2 (gF S q) = q := fun q hq => by
    rw [at_ q hq]
    show cntE (rcn (kyP s2) _) 1 n = q
    rw [ke]
    exact c6 q (by omega)
  have sur : ∀ a, a < n → ∃ q, q < n ∧ gF S q = a := fun a ha => by
    obtain ⟨q, hq, e⟩ := List.mem_iff_getElem.mp ((c4 a).mpr ha)
    exact ⟨q, by omega, by rw [at_ q (by omega)]; exact e⟩
  have J : Pj n s2 := ⟨fun a ha => by
    obtain ⟨q, hq, e⟩ := sur a ha
    rw [← e, hps q hq]; exact hq, fun a b ha hb e => by
    obtain ⟨q, hq, e1⟩ := sur a ha
    obtain ⟨r, hr, e2⟩ := sur b hb
    rw [← e1, ← e2, hps q hq, hps r hr] at e
    rw [← e1, ← e2, e]⟩
  obtain ⟨K', t', d1, d2, d3, d4, d5⟩ := lines_ok J H2
  obtain ⟨K, s', e1, e2, e3⟩ := keep_ok H2 Sy2 (fun q hq => by rw [c5 q (by omega), at_ q hq]) hin hps J.1
  obtain ⟨f1, f2⟩ := same_K (fun p hp => (H2.2.2.2.2.2.1 p hp).2) e2.2.2.1 d3.2.1 e3 d4
  exact ⟨g, S, K, s1, s2, s', t1, t', a1, d1, b1, c1, e1, H2, Sy2, e2, d3.to e2.2.2.2.1 d2 f1 f2, fun q hq => ⟨hin q hq, hps q hq⟩, b3, c7, a6, d5⟩
