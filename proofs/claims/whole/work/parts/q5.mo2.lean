/-! ===== LEVEL 3: bars: two wrong signs, class and reference ===== -/
def Res (S : Nat → Nat) (x v : Nat) : Nat → Nat := fun j => S j ^^^ eS x v j
theorem Res_lt {S : Nat → Nat} {x v : Nat} (hS : ∀ j : Nat, j < 4 → S j < 16) (hv : v < 16) : ∀ j : Nat, j < 4 → Res S x v j < 16 := fun j hj => xr_lt (hS j hj) (eS_lt hv j)
section
variable {s t : ev_M} {S : Nat → Nat}
theorem m2_C (h : Cn s t) (hS : ∀ j : Nat, j < 4 → S j < 16) : (∃ x v p w : Nat, x < 15 ∧ 1 ≤ v ∧ v < 16 ∧ Sol (Res S x v) p w ∧ (∀ x' v' : Nat, 1 ≤ v' → v' < 16 → (x' < x ∨ x' = x ∧ v' < v) → ∀ p w : Nat, ¬ Sol (Res S x' v') p w) ∧ fBars_mendsTwo s (cI ((w4 S : Nat) : Int)) = some (wI (wI s 8 p (s.1 8 p ^^^ cI (w : Int))) 8 x ((wI s 8 p (s.1 8 p ^^^ cI (w : Int))).1 8 x ^^^ cI (v : Int)), cI 1)) ∨ ((∀ x v : Nat, x < 15 → 1 ≤ v → v < 16 → ∀ p w : Nat, ¬ Sol (Res S x v) p w) ∧ fBars_mendsTwo s (cI ((w4 S : Nat) : Int)) = some (s, cI 0)) := by
  have lw := w4_lt hS
  have inn : ∀ (k2 : ev_M → Int32 → Int32 → Option (ev_M × Int32)) (x : Nat), x < 15 → ∀ (r m v : Nat), v + r = 16 → r < m → 1 ≤ v → (∀ v' : Nat, 1 ≤ v' → v' < v → ∀ p w : Nat, ¬ Sol (Res S x v') p w) → (∃ v' p w : Nat, 1 ≤ v' ∧ v' < 16 ∧ Sol (Res S x v') p w ∧ (∀ v'' : Nat, 1 ≤ v'' → v'' < v' → ∀ p w : Nat, ¬ Sol (Res S x v'') p w) ∧ fBars_mendsTwo_h10 k2 m s (cI ((w4 S : Nat) : Int)) (cI (x : Int)) (cI (v : Int)) = some (wI (wI s 8 p (s.1 8 p ^^^ cI (w : Int))) 8 x ((wI s 8 p (s.1 8 p ^^^ cI (w : Int))).1 8 x ^^^ cI (v' : Int)), cI 1)) ∨ ((∀ v' : Nat, 1 ≤ v' → v' < 16 → ∀ p w : Nat, ¬ Sol (Res S x v') p w) ∧ fBars_mendsTwo_h10 k2 m s (cI ((w4 S : Nat) : Int)) (cI (x : Int)) (cI (v : Int)) = k2 s (cI ((w4 S : Nat) : Int)) (cI ((x + 1 : Nat) : Int))) := by
    intro k2 x hx r
    induction r with
    | zero =>
      intro m v hv hm h1 hq
      obtain ⟨m, rfl⟩ : ∃ k, m = k + 1 := ⟨m - 1, by omega⟩
      refine Or.inr ⟨fun v' a b => hq v' a (by omega), ?_⟩
      rw [show v = 16 by omega, fBars_mendsTwo_h10, if_neg (by decide), q_s (by omega)]
    | succ r ih =>
      intro m v hv hm h1 hq
      obtain ⟨m, rfl⟩ : ∃ k, m = k + 1 := ⟨m - 1, by omega⟩
      have v16 : v < 16 := by omega
      have lt : cI (v : Int) < cI 16 := by rw [lt_i, q_ti (by omega), show (cI 16).toInt = 16 from rfl]; omega
      have le := w4_lt (n := eS x v) (fun j _ => eS_lt v16 j)
      have ex : cI ((w4 S : Nat) : Int) ^^^ cI ((w4 (eS x v) : Nat) : Int) = cI ((w4 (Res S x v) : Nat) : Int) := by
        rw [x_cI lw le, w4_x hS (fun j _ => eS_lt v16 j)]; rfl
      have st : fBars_mendsTwo_h10 k2 (m + 1) s (cI ((w4 S : Nat) : Int)) (cI (x : Int)) (cI (v : Int)) = bd2 (fBars_mendsOne s (cI ((w4 (Res S x v) : Nat) : Int))) fun s2 v3 => if v3 = 0 then fBars_mendsTwo_h10 k2 m s2 (cI ((w4 S : Nat) : Int)) (cI (x : Int)) (cI ((v + 1 : Nat) : Int)) else some (wI s2 8 x (s2.1 8 x ^^^ cI (v : Int)), cI 1) := by
        rw [fBars_mendsTwo_h10, if_pos lt, sm_C h hx v16, bd1_some, ex]
        simp only [if_pos (show inb (cI (x : Int)) 15 = true from q_in hx (by decide)), ltM_eq, q_ix (show x < 100000 by omega), q_s (show v < 99999 by omega)]
      rw [st]
      rcases mo_C h (Res_lt hS v16 (x := x)) with ⟨p, w, w1, w2⟩ | ⟨w1, w2⟩
      · refine Or.inl ⟨v, p, w, h1, v16, w1, fun v'' a b => hq v'' a b, ?_⟩
        rw [w2, bd2_some, if_neg (show ¬ cI 1 = 0 by decide)]
      · rw [w2, bd2_some, if_pos (show cI 0 = 0 from rfl)]
        exact ih m (v + 1) (by omega) (by omega) (by omega) (fun v' a b => by
          by_cases y : v' = v
          · rw [y]; exact w1
          · exact hq v' a (by omega))
  have out : ∀ (r m x : Nat), x + r = 15 → r < m → (∀ x' v' : Nat, x' < x → 1 ≤ v' → v' < 16 → ∀ p w : Nat, ¬ Sol (Res S x' v') p w) → (∃ x v p w : Nat, x < 15 ∧ 1 ≤ v ∧ v < 16 ∧ Sol (Res S x v) p w ∧ (∀ x' v' : Nat, 1 ≤ v' → v' < 16 → (x' < x ∨ x' = x ∧ v' < v) → ∀ p w : Nat, ¬ Sol (Res S x' v') p w) ∧ fBars_mendsTwo_h2 m s (cI ((w4 S : Nat) : Int)) (cI ((15 - r : Nat) : Int)) = some (wI (wI s 8 p (s.1 8 p ^^^ cI (w : Int))) 8 x ((wI s 8 p (s.1 8 p ^^^ cI (w : Int))).1 8 x ^^^ cI (v : Int)), cI 1)) ∨ ((∀ x v : Nat, x < 15 → 1 ≤ v → v < 16 → ∀ p w : Nat, ¬ Sol (Res S x v) p w) ∧ fBars_mendsTwo_h2 m s (cI ((w4 S : Nat) : Int)) (cI ((15 - r : Nat) : Int)) = some (s, cI 0)) := by
    intro r
    induction r with
    | zero =>
      intro m x hx hm hq
      obtain ⟨m, rfl⟩ : ∃ k, m = k + 1 := ⟨m - 1, by omega⟩
      refine Or.inr ⟨fun x' v' a b c => hq x' v' (by omega) b c, ?_⟩
      rw [fBars_mendsTwo_h2, if_neg (by decide)]
    | succ r ih =>
      intro m x hx hm hq
      obtain ⟨m, rfl⟩ : ∃ k, m = k + 1 := ⟨m - 1, by omega⟩
      have ex : 15 - (r + 1) = x := by omega
      rw [ex]
      have lt : cI (x : Int) < cI 15 := by rw [lt_i, q_ti (by omega), show (cI 15).toInt = 15 from rfl]; omega
      rcases inn (fBars_mendsTwo_h2 m) x (by omega) 15 1048576 1 (by decide) (by decide) (Nat.le_refl _) (fun v' a b => by omega) with ⟨v', p, w, a1, a2, a3, a4, a5⟩ | ⟨a1, a2⟩
      · refine Or.inl ⟨x, v', p, w, by omega, a1, a2, a3, fun x' v'' b1 b2 b3 => ?_, ?_⟩
        · rcases b3 with y | ⟨y1, y2⟩
          · exact hq x' v'' y b1 b2
          · rw [y1]; exact a4 v'' b1 y2
        · rw [fBars_mendsTwo_h2, if_pos lt]
          exact a5
      · have i0 := ih m (x + 1) (by omega) (by omega) (fun x' v' b1 b2 b3 => by
          by_cases y : x' = x
          · rw [y]; exact a1 v' b2 b3
          · exact hq x' v' (by omega) b2 b3)
        have st : fBars_mendsTwo_h2 (m + 1) s (cI ((w4 S : Nat) : Int)) (cI (x : Int)) = fBars_mendsTwo_h2 m s (cI ((w4 S : Nat) : Int)) (cI ((15 - r : Nat) : Int)) := by
          rw [fBars_mendsTwo_h2, if_pos lt, show 15 - r = x + 1 by omega]
          exact a2
        rw [st]
        exact i0
  exact out 15 1048576 0 (by decide) (by decide) (fun x' v' a => absurd a (Nat.not_lt_zero _))
/-- the reference's signs and sums -/
def Dgs (d S : Nat → Nat) (t : ev_M) : Prop := (∀ k : Nat, k < 15 → t.1 660 k = cI (d k : Int)) ∧ ∀ j : Nat, j < 4 → t.1 662 j = cI (S j : Int) ∧ S j < 16
def FmtM : List (Nat × (Nat × Nat)) := [(660, 660, 0), (662, 662, 0), (549, 549, 162)]
/-- two signs changed -/
def dd2 (d : Nat → Nat) (x v p w : Nat) : Nat → Nat := fun k => if k = p then d p ^^^ w else if k = x then d x ^^^ v else d k
theorem m2_M {d : Nat → Nat} (hc : Cn s t) (hd : ∀ k : Nat, k < 15 → d k < 16) (hD : Dgs d S t) : (∃ (x v p w : Nat) (t' : ev_M), x < 15 ∧ 1 ≤ v ∧ v < 16 ∧ x < p ∧ Sol (Res S x v) p w ∧ (∀ x' v' : Nat, 1 ≤ v' → v' < 16 → (x' < x ∨ x' = x ∧ v' < v) → ∀ p w : Nat, x' < p → ¬ Sol (Res S x' v') p w) ∧ fM_mendTwo t = some (t', cI 1) ∧ (∀ k : Nat, k < 15 → t'.1 660 k = cI ((dd2 d x v p w k : Nat) : Int)) ∧ t'.1 549 161 = cI 2 ∧ fr FmtM t t') ∨ ∃ t' : ev_M, (∀ x v : Nat, x < 15 → 1 ≤ v → v < 16 → ∀ p w : Nat, x < p → ¬ Sol (Res S x v) p w) ∧ fM_mendTwo t = some (t', cI 0) ∧ fr FmdM t t' := by
  have inn : ∀ (k2 : ev_M → Int32 → Option (ev_M × Int32)) (x : Nat), x < 15 → ∀ (r m v : Nat) (u : ev_M), v + r = 16 → r < m → 1 ≤ v → Cn s u → Dgs d S u → (∀ v' : Nat, 1 ≤ v' → v' < v → ∀ p w : Nat, x < p → ¬ Sol (Res S x v') p w) → (∃ (v' p w : Nat) (t' : ev_M), 1 ≤ v' ∧ v' < 16 ∧ x < p ∧ Sol (Res S x v') p w ∧ (∀ v'' : Nat, 1 ≤ v'' → v'' < v' → ∀ p w : Nat, x < p → ¬ Sol (Res S x v'') p w) ∧ fM_mendTwo_h10 k2 m u (cI (x : Int)) (cI (v : Int)) = some (t', cI 1) ∧ (∀ k : Nat, k < 15 → t'.1 660 k = cI ((dd2 d x v' p w k : Nat) : Int)) ∧ t'.1 549 161 = cI 2 ∧ fr FmtM u t') ∨ ∃ t' : ev_M, (∀ v' : Nat, 1 ≤ v' → v' < 16 → ∀ p w : Nat, x < p → ¬ Sol (Res S x v') p w) ∧ fM_mendTwo_h10 k2 m u (cI (x : Int)) (cI (v : Int)) = k2 t' (cI ((x + 1 : Nat) : Int)) ∧ Dgs d S t' ∧ fr FmdM u t' := by
    intro k2 x hx r
    induction r with
    | zero =>
      intro m v u hv hm h1 hu hD hq
      obtain ⟨m, rfl⟩ : ∃ k, m = k + 1 := ⟨m - 1, by omega⟩
      refine Or.inr ⟨u, fun v' a b => hq v' a (by omega), ?_, hD, fr.rf⟩
      rw [show v = 16 by omega, fM_mendTwo_h10, if_neg (by decide), q_s (by omega)]
    | succ r ih =>
      intro m v u hv hm h1 hu hD hq
      obtain ⟨m, rfl⟩ : ∃ k, m = k + 1 := ⟨m - 1, by omega⟩
      have v16 : v < 16 := by omega
      have lt : cI (v : Int) < cI 16 := by rw [lt_i, q_ti (by omega), show (cI 16).toInt = 16 from rfl]; omega
      obtain ⟨u1, c1, c2, c3, c4⟩ := chg_M hu hD.2 hx v16
      have hu1 := hu.keep rf_fr c4 (by decide +kernel) (by decide +kernel)
      have ux : u1.1 660 x = cI ((d x ^^^ v : Nat) : Int) := by
        have := hd x hx
        rw [c2, up1_eq, hD.1 x hx, x_cI (by omega) (by omega)]
      have st : fM_mendTwo_h10 k2 (m + 1) u (cI (x : Int)) (cI (v : Int)) = bd2 (fM_mendOne u1 (cI ((x + 1 : Nat) : Int)) (cI 1)) fun s2 v3 => if v3 = 0 then bd1 (fM_change s2 (cI (x : Int)) (cI (v : Int))) fun s4 => fM_mendTwo_h10 k2 m s4 (cI (x : Int)) (cI ((v + 1 : Nat) : Int)) else some (s2, cI 1) := by
        rw [fM_mendTwo_h10, if_pos lt, c1, bd1_some, q_s (by omega), q_s (show v < 99999 by omega)]
      rw [st]
      rcases mo_M (S := Res S x v) (a := x + 1) (c := cI 1) hu1 c3 (by omega) with ⟨p, w, u2, e1, e2, e3, e4⟩ | ⟨e1, e2⟩
      · obtain ⟨u2', f1, f2, f3, f4⟩ := chg_M (S := Res S x v) hu1 c3 e2.1 e2.2.2.1
        obtain rfl : u2 = u2' := Option.some.inj (e3.symm.trans f1)
        have px : ¬ p = x := by omega
        refine Or.inl ⟨v, p, w, wI u2 549 161 (cI 1 + cI 1), h1, v16, by omega, e2, fun v'' a b => hq v'' a b, ?_, fun k hk => ?_, ?_, ?_⟩
        · rw [e4, bd2_some, if_neg (show ¬ cI 1 = 0 by decide)]
        · rw [wI_ne (by decide), f2]
          unfold dd2
          by_cases y : k = p
          · have p15 := e2.1
            have := hd p p15
            have := e2.2.2.1
            rw [y, up1_eq, if_pos rfl, c2, up1_ne px, hD.1 p p15, x_cI (by omega) (by omega)]
          · rw [up1_ne y, if_neg y]
            by_cases z : k = x
            · rw [z, if_pos rfl]; exact ux
            · rw [if_neg z, c2, up1_ne z]; exact hD.1 k hk
        · rw [wI_c, up1_eq]; rfl
        · exact ((c4.mono (by decide +kernel)).tr (f4.mono (by decide +kernel))).wI rfl
      · obtain ⟨u2, f1, f2, f3, f4⟩ := chg_M (S := Res S x v) hu1 c3 hx v16
        have g4 := c4.tr f4
        rw [e2, bd2_some, if_pos (show cI 0 = 0 from rfl), f1, bd1_some]
        have D2 : Dgs d S u2 := by
          refine ⟨fun k hk => ?_, fun j hj => ⟨?_, (hD.2 j hj).2⟩⟩
          · rw [f2]
            by_cases y : k = x
            · have := hd x hx
              have lx := xr_lt this v16
              rw [y, up1_eq, ux, x_cI (by omega) (by omega), Nat.xor_assoc, Nat.xor_self, Nat.xor_zero]
            · rw [up1_ne y, c2, up1_ne y]; exact hD.1 k hk
          · rw [(f3 j hj).1]
            unfold Res
            rw [Nat.xor_assoc, Nat.xor_self, Nat.xor_zero]
        rcases ih m (v + 1) u2 (by omega) (by omega) (by omega) (hu.keep rf_fr g4 (by decide +kernel) (by decide +kernel)) D2 (fun v' a b p w hp => by
          by_cases y : v' = v
          · rw [y]; exact e1 p w (by omega)
          · exact hq v' a (by omega) p w hp) with ⟨v', p, w, t', b1, b2, b3, b4, b5, b6, b7, b8, b9⟩ | ⟨t', b1, b2, b3, b4⟩
        · exact Or.inl ⟨v', p, w, t', b1, b2, b3, b4, b5, b6, b7, b8, (g4.mono (by decide +kernel)).tr b9⟩
        · exact Or.inr ⟨t', b1, b2, b3, g4.tr b4⟩
  have out : ∀ (r m x : Nat) (u : ev_M), x + r = 15 → r < m → Cn s u → Dgs d S u → (∀ x' v' : Nat, x' < x → 1 ≤ v' → v' < 16 → ∀ p w : Nat, x' < p → ¬ Sol (Res S x' v') p w) → (∃ (x v p w : Nat) (t' : ev_M), x < 15 ∧ 1 ≤ v ∧ v < 16 ∧ x < p ∧ Sol (Res S x v) p w ∧ (∀ x' v' : Nat, 1 ≤ v' → v' < 16 → (x' < x ∨ x' = x ∧ v' < v) → ∀ p w : Nat, x' < p → ¬ Sol (Res S x' v') p w) ∧ fM_mendTwo_h2 m u (cI ((15 - r : Nat) : Int)) = some (t', cI 1) ∧ (∀ k : Nat, k < 15 → t'.1 660 k = cI ((dd2 d x v p w k : Nat) : Int)) ∧ t'.1 549 161 = cI 2 ∧ fr FmtM u t') ∨ ∃ t' : ev_M, (∀ x v : Nat, x < 15 → 1 ≤ v → v < 16 → ∀ p w : Nat, x < p → ¬ Sol (Res S x v) p w) ∧ fM_mendTwo_h2 m u (cI ((15 - r : Nat) : Int)) = some (t', cI 0) ∧ fr FmdM u t' := by
    intro r
    induction r with
    | zero =>
      intro m x u hx hm hu hD hq
      obtain ⟨m, rfl⟩ : ∃ k, m = k + 1 := ⟨m - 1, by omega⟩
      refine Or.inr ⟨u, fun x' v' a b c => hq x' v' (by omega) b c, ?_, fr.rf⟩
      rw [fM_mendTwo_h2, if_neg (by decide)]
    | succ r ih =>
      intro m x u hx hm hu hD hq
      obtain ⟨m, rfl⟩ : ∃ k, m = k + 1 := ⟨m - 1, by omega⟩
      have ex : 15 - (r + 1) = x := by omega
      rw [ex]
      have lt : cI (x : Int) < cI 15 := by rw [lt_i, q_ti (by omega), show (cI 15).toInt = 15 from rfl]; omega
      rcases inn (fM_mendTwo_h2 m) x (by omega) 15 1048576 1 u (by decide) (by decide) (Nat.le_refl _) hu hD (fun v' a b => by omega) with ⟨v', p, w, t', a1, a2, a3, a4, a5, a6, a7, a8, a9⟩ | ⟨t', a1, a2, a3, a4⟩
      · refine Or.inl ⟨x, v', p, w, t', by omega, a1, a2, a3, a4, fun x' v'' b1 b2 b3 => ?_, ?_, a7, a8, a9⟩
        · rcases b3 with y | ⟨y1, y2⟩
          · exact hq x' v'' y b1 b2
          · rw [y1]; exact a5 v'' b1 y2
        · rw [fM_mendTwo_h2, if_pos lt]
          exact a6
      · have st : fM_mendTwo_h2 (m + 1) u (cI (x : Int)) = fM_mendTwo_h2 m t' (cI ((15 - r : Nat) : Int)) := by
          rw [fM_mendTwo_h2, if_pos lt, show 15 - r = x + 1 by omega]
          exact a2
        rw [st]
        rcases ih m (x + 1) t' (by omega) (by omega) (hu.keep rf_fr a4 (by decide +kernel) (by decide +kernel)) a3 (fun x' v' b1 b2 b3 => by
          by_cases y : x' = x
          · rw [y]; exact a1 v' b2 b3
          · exact hq x' v' (by omega) b2 b3) with ⟨x, v, p, w, t'', b⟩ | ⟨t'', b1, b2, b3⟩
        · exact Or.inl ⟨x, v, p, w, t'', b.1, b.2.1, b.2.2.1, b.2.2.2.1, b.2.2.2.2.1, b.2.2.2.2.2.1, b.2.2.2.2.2.2.1, b.2.2.2.2.2.2.2.1, b.2.2.2.2.2.2.2.2.1, (a4.mono (by decide +kernel)).tr b.2.2.2.2.2.2.2.2.2⟩
        · exact Or.inr ⟨t'', b1, b2, a4.tr b3⟩
  exact out 15 1048576 0 t (by decide) (by decide) hc hD (fun x' v' a => absurd a (Nat.not_lt_zero _))
/-- both find the same two, if no one sign explains it -/
theorem two_eq (hS : ∀ j : Nat, j < 4 → S j < 16) (h0 : ¬ ∀ j : Nat, j < 4 → S j = 0) (h1 : ∀ p v : Nat, ¬ Sol S p v) {x v p w : Nat} (hv1 : 1 ≤ v) (hv : v < 16) (hx : x < 15) (hs : Sol (Res S x v) p w) (hf : ∀ x' v' : Nat, 1 ≤ v' → v' < 16 → (x' < x ∨ x' = x ∧ v' < v) → ∀ p w : Nat, ¬ Sol (Res S x' v') p w) : x < p := by
  obtain ⟨a1, a2, a3, a4⟩ := hs
  by_cases z : x < p
  · exact z
  · by_cases y : p = x
    · -- one sign would do
      subst y
      have e : ∀ j : Nat, j < 4 → eS p (v ^^^ w) j = S j := fun j hj => by
        have := a4 j hj
        unfold Res at this
        have g : eS p (v ^^^ w) j = eS p v j ^^^ eS p w j := gm_ds _ hv _ a3 _ (pw_lt _ _)
        rw [g, this, Nat.xor_comm (S j), ← Nat.xor_assoc, Nat.xor_self, Nat.zero_xor]
      by_cases u : v ^^^ w = 0
      · refine absurd (fun j hj => ?_) h0
        rw [← e j hj, u]
        exact gm_0 _ (pw_lt _ _)
      · exact absurd ⟨a1, by omega, xr_lt hv a3, e⟩ (h1 p (v ^^^ w))
    · have e : ∀ j : Nat, j < 4 → eS x v j = Res S p w j := fun j hj => by
        have := a4 j hj
        unfold Res at this ⊢
        rw [this, ← Nat.xor_assoc, Nat.xor_self, Nat.zero_xor]
      exact absurd ⟨hx, hv1, hv, e⟩ (hf p w a2 a3 (Or.inl (by omega)) x v)
end
