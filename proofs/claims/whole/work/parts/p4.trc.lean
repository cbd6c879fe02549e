/-! ===== LEVEL 3: questions: an item's trace ===== -/
/-- the i-th of a list, -1 beyond -/
def dgI (l : List Nat) (i : Nat) : Int32 := if h : i < l.length then cI ((l[i] : Nat) : Int) else cI (-1)
theorem dgI_s {e i : Nat} {l : List Nat} : dgI (e :: l) (i + 1) = dgI l i := by
  unfold dgI
  by_cases h : i < l.length
  · rw [dif_pos h, dif_pos (show i + 1 < (e :: l).length by simp only [List.length_cons]; omega)]
    rfl
  · rw [dif_neg h, dif_neg (show ¬ i + 1 < (e :: l).length by simp only [List.length_cons]; omega)]
theorem chn_lp {s : ev_M} {b c : Int32} (hb : 0 ≤ b.toInt) : ∀ (l : List Nat) (m k : Nat) (x : Int32), Chn (s.1 22) x l → (∀ e, e ∈ l → e < 5000) → l.length < m → k + l.length ≤ 5000 → (k : Int) ≤ b.toInt → fChron_tellEvent_h29 s m b c x (cI (k : Int)) = fChron_tellEvent_b56 s c (dgI l (ix b - k)) := by
  intro l
  have bx := ix_toNat b
  induction l with
  | nil =>
    intro m k x h hl hm hk hkb
    obtain ⟨m, rfl⟩ : ∃ k, m = k + 1 := ⟨m - 1, by omega⟩
    have e : x = cI (-1) := h
    rw [fChron_tellEvent_h29, e, if_pos rfl, ite_self]
    rfl
  | cons e l ih =>
    intro m k x h hl hm hk hkb
    obtain ⟨m, rfl⟩ : ∃ k, m = k + 1 := ⟨m - 1, by omega⟩
    obtain ⟨h1, h2⟩ := h
    simp only [List.length_cons] at hm hk
    have e5 := hl e (List.mem_cons_self ..)
    rw [fChron_tellEvent_h29]
    by_cases z : (k : Int) = b.toInt
    · rw [if_neg (by rw [lt_i, q_ti (by omega)]; omega), show ix b - k = 0 by omega, h1]
      rfl
    · have ne : ¬ cI (e : Int) = cI (-1) := by
        rw [eq_i, q_ti (by omega), show (cI (-1)).toInt = -1 from rfl]; omega
      rw [if_pos (by rw [lt_i, q_ti (by omega)]; omega), h1, if_neg ne, if_pos (q_in e5 (by decide)), ltI_eq, q_ix (by omega), q_s (by omega), ih m (k + 1) _ h2 (fun q hq => hl q (List.mem_cons_of_mem _ hq)) (by omega) (by omega) (by omega), show ix b - k = (ix b - (k + 1)) + 1 by omega, dgI_s]
/-- what may come next: of the item, and behind the one before -/
def elg (t : ev_M) (a x : Int32) (N e : Nat) : Prop := e < N ∧ t.1 640 e = a ∧ (x = cI (-1) ∨ ∃ p : Nat, p < 5000 ∧ x = cI (p : Int) ∧ evL (t.1 643) p e)
def frs (t : ev_M) (a x : Int32) (N e : Nat) (w : Int32) : Prop := (w = cI (-1) ∧ ∀ q, q < e → ¬ elg t a x N q) ∨ ∃ q : Nat, q < e ∧ w = cI (q : Int) ∧ elg t a x N q ∧ ∀ q', q' < e → elg t a x N q' → q' = q ∨ evL (t.1 643) q q'
theorem nx_lp {t : ev_M} {a b c x k6 : Int32} {N : Nat} {k66 : ev_M → Int32 → Int32 → Int32 → Int32 → Int32 → Int32 → Option (ev_M × Int32)} (hN : N ≤ 5000) (hx : x = cI (-1) ∨ ∃ p : Nat, p < 5000 ∧ x = cI (p : Int)) : ∀ (r m e : Nat) (w : Int32), e + r = N → r < m → frs t a x N e w → ∃ w' : Int32, frs t a x N N w' ∧ fM_trace_h85 k66 m t a b c (cI (N : Int)) x k6 w (cI (e : Int)) = if w' = cI (-1) then some (t, cI (-1)) else k66 t a b c (cI (N : Int)) w' (k6 + cI 1) := by
  intro r
  induction r with
  | zero =>
    intro m e w he hm hF
    obtain ⟨m, rfl⟩ : ∃ k, m = k + 1 := ⟨m - 1, by omega⟩
    have eN : e = N := by omega
    subst eN
    refine ⟨w, hF, ?_⟩
    rw [fM_trace_h85, if_neg (by rw [lt_i]; exact Int.lt_irrefl _)]
  | succ r ih =>
    intro m e w he hm hF
    obtain ⟨m, rfl⟩ : ∃ k, m = k + 1 := ⟨m - 1, by omega⟩
    have lt : cI (e : Int) < cI (N : Int) := (q_lt (by omega) (by omega)).mpr (by omega)
    have eb : inb (cI (e : Int)) 5000 = true := q_in (by omega) (by decide)
    have ex : ix (cI (e : Int)) = e := q_ix (by omega)
    have sk : ¬ elg t a x N e → frs t a x N (e + 1) w := by
      intro ne
      rcases hF with ⟨f1, f2⟩ | ⟨q, f1, f2, f3, f4⟩
      · refine Or.inl ⟨f1, fun q hq => ?_⟩
        by_cases y : q = e
        · rw [y]; exact ne
        · exact f2 q (by omega)
      · refine Or.inr ⟨q, by omega, f2, f3, fun q' h1 h2 => ?_⟩
        by_cases y : q' = e
        · rw [y] at h2; exact absurd h2 ne
        · exact f4 q' (by omega) h2
    -- not eligible
    have kN : ¬ elg t a x N e → ∃ w', frs t a x N N w' ∧ fM_trace_b190 k66 (fM_trace_h85 k66 m) t a b c (cI (N : Int)) x k6 w (cI (e : Int)) = if w' = cI (-1) then some (t, cI (-1)) else k66 t a b c (cI (N : Int)) w' (k6 + cI 1) := by
      intro ne
      obtain ⟨w', w1, w2⟩ := ih m (e + 1) w (by omega) (by omega) (sk ne)
      refine ⟨w', w1, ?_⟩
      unfold fM_trace_b190 fM_trace_b192
      rw [q_s (by omega)]
      exact w2
    have kY : elg t a x N e → ∃ w', frs t a x N N w' ∧ fM_trace_b155 k66 (fM_trace_h85 k66 m) t a b c (cI (N : Int)) x k6 w (cI (e : Int)) (cI 1) = if w' = cI (-1) then some (t, cI (-1)) else k66 t a b c (cI (N : Int)) w' (k6 + cI 1) := by
      intro ye
      unfold fM_trace_b155 fM_trace_b185 fM_trace_b190 fM_trace_b192
      rw [if_neg (show ¬ cI 1 = 0 by decide), q_s (by omega)]
      rcases hF with ⟨f1, f2⟩ | ⟨q, f1, f2, f3, f4⟩
      · rw [if_pos f1]
        obtain ⟨w', w1, w2⟩ := ih m (e + 1) (cI (e : Int)) (by omega) (by omega) (Or.inr ⟨e, by omega, rfl, ye, fun q' h1 h2 => by
          by_cases y : q' = e
          · exact Or.inl y
          · exact absurd h2 (f2 q' (by omega))⟩)
        exact ⟨w', w1, w2⟩
      · have qN := f3.1
        have ne : ¬ w = cI (-1) := by
          rw [f2, eq_i, q_ti (by omega), show (cI (-1)).toInt = -1 from rfl]; omega
        rw [if_neg ne, if_pos eb, f2, if_pos (show inb (cI (q : Int)) 5000 = true from q_in (by omega) (by decide)), ex, q_ix (by omega)]
        by_cases y : t.1 643 e < t.1 643 q
        · rw [if_pos y]
          rw [lt_i] at y
          obtain ⟨w', w1, w2⟩ := ih m (e + 1) (cI (e : Int)) (by omega) (by omega) (Or.inr ⟨e, by omega, rfl, ye, fun q' h1 h2 => by
            by_cases v : q' = e
            · exact Or.inl v
            · refine Or.inr (Or.inl ?_)
              rcases f4 q' (by omega) h2 with u | u | u
              · rw [u]; exact y
              · omega
              · omega⟩)
          exact ⟨w', w1, w2⟩
        · rw [if_neg y]
          rw [lt_i] at y
          obtain ⟨w', w1, w2⟩ := ih m (e + 1) (cI (q : Int)) (by omega) (by omega) (Or.inr ⟨q, by omega, rfl, f3, fun q' h1 h2 => by
            by_cases v : q' = e
            · refine Or.inr ?_
              rw [v]
              unfold evL
              omega
            · exact f4 q' (by omega) h2⟩)
          exact ⟨w', w1, w2⟩
    rw [fM_trace_h85, if_pos lt, if_pos eb, ex]
    unfold fM_trace_b150 fM_trace_b154
    have kN' : ¬ elg t a x N e → ∃ w', frs t a x N N w' ∧ fM_trace_b155 k66 (fM_trace_h85 k66 m) t a b c (cI (N : Int)) x k6 w (cI (e : Int)) (cI 0) = if w' = cI (-1) then some (t, cI (-1)) else k66 t a b c (cI (N : Int)) w' (k6 + cI 1) := by
      intro ne
      unfold fM_trace_b155
      rw [if_pos (show cI 0 = 0 from rfl)]
      exact kN ne
    by_cases y : t.1 640 e = a
    · rw [if_pos y]
      by_cases y2 : x = cI (-1)
      · rw [if_pos y2]
        exact kY ⟨by omega, y, Or.inl y2⟩
      · rw [if_neg y2]
        obtain ⟨p, p1, p2⟩ := hx.resolve_left y2
        have pi : ∀ p' : Nat, p' < 5000 → x = cI (p' : Int) → p' = p := fun p' h1 h2 => by
          rw [p2, eq_i, q_ti (by omega), q_ti (by omega)] at h2; omega
        rw [if_pos eb, p2, if_pos (show inb (cI (p : Int)) 5000 = true from q_in p1 (by decide)), if_pos eb, if_pos (show inb (cI (p : Int)) 5000 = true from q_in p1 (by decide)), q_ix (by omega), ← p2]
        have no : ¬ evL (t.1 643) p e → ¬ elg t a x N e := by
          rintro n1 ⟨-, -, u | ⟨p', u1, u2, u3⟩⟩
          · exact y2 u
          · rw [pi p' u1 u2] at u3; exact n1 u3
        by_cases g1 : t.1 643 e ≤ t.1 643 p
        · rw [if_pos g1]
          rw [le_i] at g1
          by_cases g2 : t.1 643 e = t.1 643 p
          · rw [if_pos g2]
            rw [eq_i] at g2
            by_cases g3 : cI (e : Int) ≤ x
            · rw [if_pos g3]
              rw [p2, le_i, q_ti (by omega), q_ti (by omega)] at g3
              exact kN' (no (fun u => by unfold evL at u; omega))
            · rw [if_neg g3]
              rw [p2, le_i, q_ti (by omega), q_ti (by omega)] at g3
              exact kY ⟨by omega, y, Or.inr ⟨p, p1, p2, by unfold evL; omega⟩⟩
          · rw [if_neg g2]
            rw [eq_i] at g2
            exact kN' (no (fun u => by unfold evL at u; omega))
        · rw [if_neg g1]
          rw [le_i] at g1
          exact kY ⟨by omega, y, Or.inr ⟨p, p1, p2, by unfold evL; omega⟩⟩
    · rw [if_neg y]
      exact kN' (fun u => y u.2.1)
def evV (t : ev_M) (c x : Int32) : Int32 := if x = cI (-1) then cI (-1) else if c = 0 then t.1 641 (ix x) else if c = cI 1 then t.1 642 (ix x) else t.1 643 (ix x)
theorem b218_ok {t : ev_M} {c x : Int32} (hx : x = cI (-1) ∨ ∃ p : Nat, p < 5000 ∧ x = cI (p : Int)) : fM_trace_b218 t c x = some (t, evV t c x) := by
  unfold fM_trace_b218 evV
  by_cases z : x = cI (-1)
  · rw [if_pos z, if_pos z]
  · obtain ⟨p, p1, p2⟩ := hx.resolve_left z
    have pb : inb x 5000 = true := by rw [p2]; exact q_in p1 (by decide)
    rw [if_neg z, if_neg z]
    by_cases u : c = 0
    · rw [if_pos u, if_pos u, if_pos pb]
    · rw [if_neg u, if_neg u]
      by_cases v : c = cI 1
      · rw [if_pos v, if_pos v, if_pos pb]
      · rw [if_neg v, if_neg v, if_pos pb]
theorem evL_as {f : Nat → Int32} {a b : Nat} (h : evL f a b) : ¬ evL f b a := by
  unfold evL at *
  omega
theorem trc_lp {t : ev_M} {a b c : Int32} {N : Nat} {l : List Nat} (hN : N ≤ 5000) (hp : l.Pairwise (evL (t.1 643))) (hl : l.length ≤ N) (hm : ∀ e, e ∈ l ↔ e < N ∧ t.1 640 e = a) : ∀ (r m k : Nat) (x : Int32), k + r = l.length → r < m → x = (if k = 0 then cI (-1) else dgI l (k - 1)) → fM_trace_h66 m t a b c (cI (N : Int)) x (cI (k : Int)) = if (k : Int) ≤ b.toInt then some (t, evV t c (dgI l (ix b))) else fM_trace_b218 t c x := by
  have pg := List.pairwise_iff_getElem.mp hp
  have bx := ix_toNat b
  have lm : ∀ j (h : j < l.length), l[j] < N ∧ t.1 640 l[j] = a := fun j h => (hm _).mp (List.getElem_mem h)
  intro r
  induction r with
  | zero =>
    intro m k x hk hm' hx
    obtain ⟨m, rfl⟩ : ∃ k, m = k + 1 := ⟨m - 1, by omega⟩
    rw [fM_trace_h66]
    by_cases z : (k : Int) ≤ b.toInt
    · rw [if_pos z, if_pos (by rw [le_i, q_ti (by omega)]; exact z), if_pos (by rw [le_i, q_ti (by omega), q_ti (by omega)]; omega)]
      have hx5 : x = cI (-1) ∨ ∃ p : Nat, p < 5000 ∧ x = cI (p : Int) := by
        by_cases k0 : k = 0
        · rw [if_pos k0] at hx; exact Or.inl hx
        · rw [if_neg k0] at hx
          unfold dgI at hx
          rw [dif_pos (by omega)] at hx
          have := lm (k - 1) (by omega)
          exact Or.inr ⟨_, by omega, hx⟩
      obtain ⟨w, w1, w2⟩ := nx_lp (t := t) (a := a) (b := b) (c := c) (x := x) (k6 := cI (k : Int)) (k66 := fM_trace_h66 m) hN hx5 N 1048576 0 (cI (-1)) (by omega) (by omega) (Or.inl ⟨rfl, fun q hq => absurd hq (Nat.not_lt_zero _)⟩)
      have w2' : fM_trace_h85 (fM_trace_h66 m) 1048576 t a b c (cI (N : Int)) x (cI (k : Int)) (cI (-1)) (cI 0) = _ := w2
      rw [w2']
      have none : ∀ q, ¬ elg t a x N q := by
        rintro q ⟨q1, q2, q3⟩
        obtain ⟨j, hj, ej⟩ := List.mem_iff_getElem.mp ((hm q).mpr ⟨q1, q2⟩)
        have k0 : ¬ k = 0 := by omega
        rw [if_neg k0] at hx
        unfold dgI at hx
        rw [dif_pos (by omega)] at hx
        have lk := lm (k - 1) (by omega)
        rcases q3 with u | ⟨p, u1, u2, u3⟩
        · rw [hx, eq_i, q_ti (by omega), show (cI (-1)).toInt = -1 from rfl] at u; omega
        · have ep : p = l[k - 1] := by rw [hx, eq_i, q_ti (by omega), q_ti (by omega)] at u2; omega
          by_cases y : j = k - 1
          · subst y
            rw [ep, ← ej] at u3
            exact evL_as u3 u3
          · have := pg j (k - 1) hj (by omega) (by omega)
            rw [ep, ← ej] at u3
            exact evL_as this u3
      rcases w1 with ⟨v1, -⟩ | ⟨q, -, -, v3, -⟩
      · have d : dgI l (ix b) = cI (-1) := by
          unfold dgI
          rw [dif_neg (by omega)]
        rw [if_pos v1, d]
        unfold evV
        rw [if_pos rfl]
      · exact absurd v3 (none q)
    · rw [if_neg z, if_neg (by rw [le_i, q_ti (by omega)]; exact z)]
  | succ r ih =>
    intro m k x hk hm' hx
    obtain ⟨m, rfl⟩ : ∃ k, m = k + 1 := ⟨m - 1, by omega⟩
    rw [fM_trace_h66]
    by_cases z : (k : Int) ≤ b.toInt
    · rw [if_pos z, if_pos (by rw [le_i, q_ti (by omega)]; exact z), if_pos (by rw [le_i, q_ti (by omega), q_ti (by omega)]; omega)]
      have hx5 : x = cI (-1) ∨ ∃ p : Nat, p < 5000 ∧ x = cI (p : Int) := by
        by_cases k0 : k = 0
        · rw [if_pos k0] at hx; exact Or.inl hx
        · rw [if_neg k0] at hx
          unfold dgI at hx
          rw [dif_pos (by omega)] at hx
          have := lm (k - 1) (by omega)
          exact Or.inr ⟨_, by omega, hx⟩
      obtain ⟨w, w1, w2⟩ := nx_lp (t := t) (a := a) (b := b) (c := c) (x := x) (k6 := cI (k : Int)) (k66 := fM_trace_h66 m) hN hx5 N 1048576 0 (cI (-1)) (by omega) (by omega) (Or.inl ⟨rfl, fun q hq => absurd hq (Nat.not_lt_zero _)⟩)
      have w2' : fM_trace_h85 (fM_trace_h66 m) 1048576 t a b c (cI (N : Int)) x (cI (k : Int)) (cI (-1)) (cI 0) = _ := w2
      have lk := lm k (by omega)
      have ek : elg t a x N l[k] := by
        refine ⟨lk.1, lk.2, ?_⟩
        by_cases k0 : k = 0
        · rw [if_pos k0] at hx; exact Or.inl hx
        · rw [if_neg k0] at hx
          unfold dgI at hx
          rw [dif_pos (by omega)] at hx
          have := lm (k - 1) (by omega)
          exact Or.inr ⟨_, by omega, hx, pg (k - 1) k (by omega) (by omega) (by omega)⟩
      have wk : w = cI ((l[k] : Nat) : Int) := by
        rcases w1 with ⟨-, v2⟩ | ⟨q, v1, v2, v3, v4⟩
        · exact absurd ek (v2 _ lk.1)
        · have eq : q = l[k] := by
            obtain ⟨q1, q2, q3⟩ := v3
            obtain ⟨j, hj, ej⟩ := List.mem_iff_getElem.mp ((hm q).mpr ⟨q1, q2⟩)
            rcases v4 l[k] lk.1 ek with u | u
            · exact u.symm
            · -- q before the k-th, and yet behind the one before
              by_cases jk : j = k
              · subst jk; exact ej.symm
              · by_cases jk2 : k < j
                · have := pg k j (by omega) hj jk2
                  rw [ej] at this
                  exact absurd u (evL_as this)
                · have k0 : ¬ k = 0 := by omega
                  rw [if_neg k0] at hx
                  unfold dgI at hx
                  rw [dif_pos (by omega)] at hx
                  have l1 := lm (k - 1) (by omega)
                  rcases q3 with y | ⟨p, y1, y2, y3⟩
                  · rw [hx, eq_i, q_ti (by omega), show (cI (-1)).toInt = -1 from rfl] at y; omega
                  · have ep : p = l[k - 1] := by rw [hx, eq_i, q_ti (by omega), q_ti (by omega)] at y2; omega
                    rw [ep, ← ej] at y3
                    by_cases y : j = k - 1
                    · subst y; exact absurd y3 (evL_as y3)
                    · exact absurd y3 (evL_as (pg j (k - 1) hj (by omega) (by omega)))
          rw [v2, eq]
      have d : dgI l k = cI ((l[k] : Nat) : Int) := by
        unfold dgI
        rw [dif_pos (by omega)]
      have ne : ¬ w = cI (-1) := by
        rw [wk, eq_i, q_ti (by omega), show (cI (-1)).toInt = -1 from rfl]; omega
      rw [w2', if_neg ne, q_s (by omega), ih m (k + 1) w (by omega) (by omega) (by rw [if_neg (by omega), show k + 1 - 1 = k by omega, d]; exact wk)]
      by_cases y : ((k + 1 : Nat) : Int) ≤ b.toInt
      · rw [if_pos y]
      · rw [if_neg y, b218_ok (Or.inr ⟨l[k], by omega, wk⟩), show ix b = k by omega, d, wk]
    · rw [if_neg z, if_neg (by rw [le_i, q_ti (by omega)]; exact z)]
section
variable {n : Nat}
theorem q_trace {s t : ev_M} {a b c : Int32} (h9 : t.1 549 5 = s.1 9 9) (E : REv n s t) (I : RIt s t) : Ok (fPH_trace s a b c) fun x => Ok (fM_trace t a b c) fun z => x = z.2 := by
  have E := E.keep rf_fr (zfr (t := t)) (by decide +kernel) (by decide +kernel)
  have I := I.keep rf_fr (zfr (t := t)) (by decide +kernel) (by decide +kernel)
  unfold fPH_trace fM_trace
  rw [ltM_eq, q_z5, h9]
  generalize wI t 549 0 (cI 0) = t at *
  by_cases z : s.1 9 9 = 0
  rotate_left
  · rw [if_neg z, if_neg z, ok_some, ok_some]
  rw [if_pos z, if_pos z]
  obtain ⟨⟨m1, m2, m3⟩, -⟩ := I
  rw [e_itemsHas m2, e_isItem (by rw [m1]; exact m2), m1, bd1_some, bd1_some, ite_bI, ite_bI]
  by_cases h1 : Has a (s.1 100 5)
  rotate_left
  · rw [if_neg h1, if_neg h1, ok_some, ok_some]
  rw [if_pos h1, if_pos h1]
  unfold fChron_tellEvent
  rw [outside_eq, in_eq, bd1_some, bd1_some, ite_bI, ite_bI]
  by_cases h2 : InR c (cI 0) (cI 2)
  rotate_left
  · rw [if_pos h2, if_neg h2, bd1_some, ok_some, ok_some]
  rw [if_neg (fun u => u h2), if_pos h2]
  obtain ⟨⟨n1, n2, n3⟩, g1, g2, g3, g4⟩ := E
  have ab : inb a 300 = true := h1.inb m3
  have ax := ix_toNat a
  have h1' := h1
  obtain ⟨l, l1, -, l3, l4, l5⟩ := g4 (ix a) (by have := h1.2; omega)
  rw [cI_ix h1.1] at l5
  have kN : kept (s.1 15 2) 5000 ≤ 5000 := by unfold kept; split <;> omega
  have e5 : (cI 5000).toInt = 5000 := rfl
  have nx := ix_toNat (s.1 15 2)
  have kM : (if t.1 549 129 < cI 5000 then fM_trace_b58 t a b c (t.1 549 129) else fM_trace_b58 t a b c (cI 5000)) = fM_trace_h66 1048576 t a b c (cI ((kept (s.1 15 2) 5000 : Nat) : Int)) (cI (-1)) (cI 0) := by
    unfold kept
    rw [n1]
    by_cases y : s.1 15 2 < cI 5000
    · rw [if_pos y]
      rw [lt_i, e5] at y
      rw [if_pos (by omega), cI_ix n2]
      rfl
    · rw [if_neg y]
      rw [lt_i, e5] at y
      rw [if_neg (by omega)]
      rfl
  have l3' : l.Pairwise (evL (t.1 643)) := List.Pairwise.imp_of_mem (fun ha hb h => by
    unfold evL at h ⊢
    rw [g3 _ ((l5 _).mp ha).1, g3 _ ((l5 _).mp hb).1]
    exact h) l3
  have tr := trc_lp (t := t) (a := a) (b := b) (c := c) kN l3' l4 l5 l.length 1048576 0 (cI (-1)) (by omega) (by omega) (by rw [if_pos rfl])
  have tr' : fM_trace_h66 1048576 t a b c (cI ((kept (s.1 15 2) 5000 : Nat) : Int)) (cI (-1)) (cI 0) = _ := tr
  rw [kM, tr']
  by_cases b0 : b < 0
  · rw [lt_i, show (0 : Int32).toInt = 0 from rfl] at b0
    rw [if_pos (by rw [lt_i]; exact b0), if_neg (by omega), b218_ok (Or.inl rfl), bd1_some, ok_some, ok_some]
    unfold evV
    rw [if_pos rfl]
  · rw [lt_i, show (0 : Int32).toInt = 0 from rfl] at b0
    have ch := chn_lp (s := s) (b := b) (c := c) (by omega) l 1048576 0 (s.1 20 (ix a)) l1 (fun e he => by have := ((l5 e).mp he).1; omega) (by omega) (by omega) (by omega)
    have ch' : fChron_tellEvent_h29 s 1048576 b c (s.1 20 (ix a)) (cI 0) = _ := ch
    rw [if_neg (by rw [lt_i]; exact b0), if_pos ab, ltI_eq, ch', if_pos (by omega), Nat.sub_zero]
    unfold fChron_tellEvent_b56 evV
    unfold dgI
    by_cases y : ix b < l.length
    · have := (l5 _).mp (List.getElem_mem y)
      have ne : ¬ cI ((l[ix b] : Nat) : Int) = cI (-1) := by
        rw [eq_i, q_ti (by omega), show (cI (-1)).toInt = -1 from rfl]; omega
      rw [dif_pos y, if_neg ne, if_neg ne, if_pos (show inb c 3 = true by
        obtain ⟨u1, u2⟩ := h2
        exact inb_iff.mpr ⟨u1, by rw [show (cI 2).toInt = 2 from rfl] at u2; omega⟩), if_pos (q_in (by omega) (by decide)), q_ix (by omega), bd1_some, ok_some, ok_some]
      rcases in_02 h2 with u | u | u
      · rw [u, if_pos (by decide)]; exact (g1 _ this.1).symm
      · rw [u, if_neg (by decide), if_pos rfl]; exact (g2 _ this.1).symm
      · rw [u, if_neg (by decide), if_neg (by decide)]; exact (g3 _ this.1).symm
    · rw [dif_neg y, if_pos rfl, if_pos rfl, bd1_some, ok_some, ok_some]
end
