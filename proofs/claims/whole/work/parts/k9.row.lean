/-! ===== LEVEL 3: a row of the tariff ===== -/
section
variable {α : Type} {N : Nat} {mt : Nat → Prop}
theorem gl_A {H : Nat → Int32 → Int32 → Option α} {E : Int32 → Option α} (hS : ∀ n x q, q < N → (mt q → H (n + 1) x (cI (q : Int)) = H n (cI 0) (cI ((q + 1 : Nat) : Int))) ∧ (¬ mt q → (x = cI 0 ∨ x = cI 1) → H (n + 1) x (cI (q : Int)) = H n x (cI ((q + 1 : Nat) : Int)))) (hE : ∀ n x, H (n + 1) x (cI (N : Int)) = E x) : ∀ (r m k : Nat), k + r = N → r < m → H m (cI 0) (cI (k : Int)) = E (cI 0)
  | 0, m, k, hk, hm => by
    obtain ⟨m, rfl⟩ : ∃ k, m = k + 1 := ⟨m - 1, by omega⟩
    rw [show k = N by omega, hE]
  | r + 1, m, k, hk, hm => by
    obtain ⟨m, rfl⟩ : ∃ k, m = k + 1 := ⟨m - 1, by omega⟩
    obtain ⟨h1, h2⟩ := hS m (cI 0) k (by omega)
    rcases Classical.em (mt k) with z | z
    · rw [h1 z]; exact gl_A hS hE r m (k + 1) (by omega) (by omega)
    · rw [h2 z (Or.inl rfl)]; exact gl_A hS hE r m (k + 1) (by omega) (by omega)
theorem gl_B {H : Nat → Int32 → Int32 → Option α} {E : Int32 → Option α} (hS : ∀ n x q, q < N → (mt q → H (n + 1) x (cI (q : Int)) = H n (cI 0) (cI ((q + 1 : Nat) : Int))) ∧ (¬ mt q → (x = cI 0 ∨ x = cI 1) → H (n + 1) x (cI (q : Int)) = H n x (cI ((q + 1 : Nat) : Int)))) (hE : ∀ n x, H (n + 1) x (cI (N : Int)) = E x) : ∀ (r m k : Nat), k + r = N → r < m → (∀ q, k ≤ q → q < N → ¬ mt q) → H m (cI 1) (cI (k : Int)) = E (cI 1)
  | 0, m, k, hk, hm, _ => by
    obtain ⟨m, rfl⟩ : ∃ k, m = k + 1 := ⟨m - 1, by omega⟩
    rw [show k = N by omega, hE]
  | r + 1, m, k, hk, hm, hn => by
    obtain ⟨m, rfl⟩ : ∃ k, m = k + 1 := ⟨m - 1, by omega⟩
    rw [(hS m (cI 1) k (by omega)).2 (hn k (Nat.le_refl _) (by omega)) (Or.inr rfl)]
    exact gl_B hS hE r m (k + 1) (by omega) (by omega) (fun q h1 h2 => hn q (by omega) h2)
theorem gl_D {H : Nat → Int32 → Int32 → Option α} {E : Int32 → Option α} (hS : ∀ n x q, q < N → (mt q → H (n + 1) x (cI (q : Int)) = H n (cI 0) (cI ((q + 1 : Nat) : Int))) ∧ (¬ mt q → (x = cI 0 ∨ x = cI 1) → H (n + 1) x (cI (q : Int)) = H n x (cI ((q + 1 : Nat) : Int)))) (hE : ∀ n x, H (n + 1) x (cI (N : Int)) = E x) : ∀ (r m k : Nat), k + r = N → r < m → (∃ q, k ≤ q ∧ q < N ∧ mt q) → H m (cI 1) (cI (k : Int)) = E (cI 0)
  | 0, m, k, hk, hm, ⟨q, h1, h2, _⟩ => by omega
  | r + 1, m, k, hk, hm, ⟨q, h1, h2, h3⟩ => by
    obtain ⟨m, rfl⟩ : ∃ k, m = k + 1 := ⟨m - 1, by omega⟩
    obtain ⟨s1, s2⟩ := hS m (cI 1) k (by omega)
    rcases Classical.em (mt k) with z | z
    · rw [s1 z]; exact gl_A hS hE r m (k + 1) (by omega) (by omega)
    · rw [s2 z (Or.inr rfl)]
      have : q ≠ k := fun e => z (by rw [← e]; exact h3)
      exact gl_D hS hE r m (k + 1) (by omega) (by omega) ⟨q, by omega, h2, h3⟩
theorem gl_E {H : Nat → Int32 → Option α} {Z E : Option α} (hS : ∀ n q, q < N → (mt q → H (n + 1) (cI (q : Int)) = Z) ∧ (¬ mt q → H (n + 1) (cI (q : Int)) = H n (cI ((q + 1 : Nat) : Int)))) (hE : ∀ n, H (n + 1) (cI (N : Int)) = E) : ∀ (r m k : Nat), k + r = N → r < m → (∀ q, k ≤ q → q < N → ¬ mt q) → H m (cI (k : Int)) = E
  | 0, m, k, hk, hm, _ => by
    obtain ⟨m, rfl⟩ : ∃ k, m = k + 1 := ⟨m - 1, by omega⟩
    rw [show k = N by omega, hE]
  | r + 1, m, k, hk, hm, hn => by
    obtain ⟨m, rfl⟩ : ∃ k, m = k + 1 := ⟨m - 1, by omega⟩
    rw [(hS m k (by omega)).2 (hn k (Nat.le_refl _) (by omega))]
    exact gl_E hS hE r m (k + 1) (by omega) (by omega) (fun q h1 h2 => hn q (by omega) h2)
theorem gl_Z {H : Nat → Int32 → Option α} {Z : Option α} (hS : ∀ n q, q < N → (mt q → H (n + 1) (cI (q : Int)) = Z) ∧ (¬ mt q → H (n + 1) (cI (q : Int)) = H n (cI ((q + 1 : Nat) : Int)))) : ∀ (r m k : Nat), k + r = N → r < m → (∃ q, k ≤ q ∧ q < N ∧ mt q) → H m (cI (k : Int)) = Z
  | 0, m, k, hk, hm, ⟨q, h1, h2, _⟩ => by omega
  | r + 1, m, k, hk, hm, ⟨q, h1, h2, h3⟩ => by
    obtain ⟨m, rfl⟩ : ∃ k, m = k + 1 := ⟨m - 1, by omega⟩
    obtain ⟨s1, s2⟩ := hS m k (by omega)
    rcases Classical.em (mt k) with z | z
    · exact s1 z
    · rw [s2 z]
      have : q ≠ k := fun e => z (by rw [← e]; exact h3)
      exact gl_Z hS r m (k + 1) (by omega) (by omega) ⟨q, by omega, h2, h3⟩
end
/-- the tariff that is read: class's new rows, the reference's -/
def NwT (s t : ev_M) : Prop := (t.1 549 125 = s.1 78 13 ∧ Rg 0 (s.1 78 13) 40) ∧ (∀ i, i < ix (s.1 78 13) → (s.1 97 i = cI (-1) ∧ t.1 637 i = cI 4) ∨ (t.1 637 i = s.1 97 i ∧ 0 ≤ (s.1 97 i).toInt ∧ (s.1 97 i).toInt ≤ 3)) ∧ Ag (ix (s.1 78 13)) (s.1 98) (t.1 638) ∧ Ag (ix (s.1 78 13)) (s.1 99) (t.1 639) ∧ Bd (ix (s.1 78 13)) (s.1 98) 0 30000 ∧ Bd (ix (s.1 78 13)) (s.1 99) 0 9999
def FnwC : List (Nat × (Nat × Nat)) := [(78, 78, 14), (97, 97, 0), (98, 98, 0), (99, 99, 0)]
def FnwM : List (Nat × (Nat × Nat)) := [(549, 549, 126), (637, 637, 0), (638, 638, 0), (639, 639, 0)]
def wrC (s : ev_M) (k l p : Int32) : ev_M := wI (wI (wI (wI s 97 (ix (s.1 78 13)) k) 98 (ix (s.1 78 13)) l) 78 13 (s.1 78 13 + cI 1)) 99 (ix (s.1 78 13)) p
def wrM (t : ev_M) (k l p : Int32) : ev_M := wI (wI (wI (wI t 637 (ix (t.1 549 125)) k) 638 (ix (t.1 549 125)) l) 639 (ix (t.1 549 125)) p) 549 125 (t.1 549 125 + cI 1)
theorem e_addsRow {s : ev_M} {k l p : Int32} (h : Rg 0 (s.1 78 13) 40) : fMoney_addsRow s k l p = if InR p (cI 0) (cI 9999) ∧ s.1 78 13 < cI 40 then some (wrC s k l p, cI 1) else some (s, cI 0) := by
  unfold fMoney_addsRow
  rw [outside_eq, bd1_some, ite_bI]
  by_cases z : InR p (cI 0) (cI 9999)
  · rw [if_neg (fun u => u z)]
    by_cases y : s.1 78 13 < cI 40
    · have y2 := lt_i.mp y
      have e40 : (cI 40).toInt = 40 := rfl
      have hb : inb (s.1 78 13) 40 = true := inb_iff.mpr ⟨h.1, by omega⟩
      rw [if_pos y, if_pos (show InR p (cI 0) (cI 9999) ∧ s.1 78 13 < cI 40 from ⟨z, y⟩)]
      simp (disch := decide) only [ix_0, ix_1, ix_2, ix_3, ix_4, ix_5, ix_6, ix_7, ix_8, ix_9, ix_10, ix_11, ix_12, ix_13, ix_14, ix_15, ix_16, ix_17, ix_18, ix_19, ix_20, ix_21, Nat.reduceAdd, wI_c, wI_ne, wL_1, lupd_ne, up1_eq, up1_ne, if_pos hb, ltM_eq]
      rfl
    · rw [if_neg y, if_neg (fun u => y u.2)]
  · rw [if_pos z, if_neg (fun u => z u.1)]
theorem NwT.add {s t : ev_M} {k k' l p : Int32} (h : NwT s t) (hc : s.1 78 13 < cI 40) (hk : (k = cI (-1) ∧ k' = cI 4) ∨ (k' = k ∧ 0 ≤ k.toInt ∧ k.toInt ≤ 3)) (hl : 0 ≤ l.toInt ∧ l.toInt ≤ 30000) (hp : 0 ≤ p.toInt ∧ p.toInt ≤ 9999) : NwT (wrC s k l p) (wrM t k' l p) ∧ ix ((wrC s k l p).1 78 13) = ix (s.1 78 13) + 1 := by
  obtain ⟨⟨n1, n2, n3⟩, g1, g2, g3, b1, b2⟩ := h
  rw [lt_i, show (cI 40).toInt = 40 from rfl] at hc
  have e1 : (s.1 78 13 + cI 1).toInt = (s.1 78 13).toInt + 1 := inc_i (by omega)
  have e2 : ix (s.1 78 13 + cI 1) = ix (s.1 78 13) + 1 := ix_inc n2 (by omega)
  have split : ∀ q, q < ix (s.1 78 13) + 1 → q = ix (s.1 78 13) ∨ (q ≠ ix (s.1 78 13) ∧ q < ix (s.1 78 13)) := fun q hq => by omega
  unfold NwT wrC wrM
  rw [n1]
  simp (disch := decide) only [ix_0, ix_1, ix_2, ix_3, ix_4, ix_5, ix_6, ix_7, ix_8, ix_9, ix_10, ix_11, ix_12, ix_13, ix_14, ix_15, ix_16, ix_17, ix_18, ix_19, ix_20, ix_21, Nat.reduceAdd, wI_c, wI_ne, wL_1, lupd_ne, up1_eq, up1_ne, e2]
  refine ⟨⟨⟨trivial, by omega, by omega⟩, fun q hq => ?_, fun q hq => ?_, fun q hq => ?_, fun q hq => ?_, fun q hq => ?_⟩, trivial⟩ <;> rcases split q hq with w | ⟨w1, w2⟩
  · rw [w, up1_eq, up1_eq]; exact hk
  · rw [up1_ne w1, up1_ne w1]; exact g1 q w2
  · rw [w, up1_eq, up1_eq]
  · rw [up1_ne w1, up1_ne w1]; exact g2 q w2
  · rw [w, up1_eq, up1_eq]
  · rw [up1_ne w1, up1_ne w1]; exact g3 q w2
  · rw [w, up1_eq]; exact hl
  · rw [up1_ne w1]; exact b1 q w2
  · rw [w, up1_eq]; exact hp
  · rw [up1_ne w1]; exact b2 q w2
/-- what the reference does with an entry of the tariff once read -/
def RTL (t : ev_M) (x1 x2 y0 v9 : Int32) : Option (ev_M × Int32) := bd1 (fM_in t v9 (cI 0) (cI 9999)) fun v11 => if v11 = 0 then fM_rowOfTariff_b122 t x1 x2 y0 v9 else if (t.1 549 125) < (cI 40) then fM_rowOfTariff_b123 t x1 x2 y0 v9 (cI 1) else fM_rowOfTariff_b122 t x1 x2 y0 v9
theorem e_b305 {t : ev_M} {x2 x3 x4 : Int32} (h : Rg 0 (t.1 549 125) 40) (h40 : t.1 549 125 < cI 40) : fM_rowOfTariff_b305 t (cI 75) x2 x3 x4 (cI 1) (t.1 549 125) x2 = some (wrM t x2 x3 x4, cI 1) ∧ ∀ x1, ¬ x1 = cI 75 → fM_rowOfTariff_b305 t x1 x2 x3 x4 (cI 1) (t.1 549 125) (cI 4) = some (wrM t (cI 4) x2 x4, cI 1) := by
  have y2 := lt_i.mp h40
  have e40 : (cI 40).toInt = 40 := rfl
  have hb : inb (t.1 549 125) 40 = true := inb_iff.mpr ⟨h.1, by omega⟩
  constructor
  · unfold fM_rowOfTariff_b305 fM_rowOfTariff_b325
    simp (disch := decide) only [ix_0, ix_1, ix_2, ix_3, ix_4, ix_5, ix_6, ix_7, ix_8, ix_9, ix_10, ix_11, ix_12, ix_13, ix_14, ix_15, ix_16, ix_17, ix_18, ix_19, ix_20, ix_21, Nat.reduceAdd, wI_c, wI_ne, wL_1, lupd_ne, up1_eq, up1_ne, if_pos hb, ltM_eq, if_true, if_pos (show bz (cI 1) = true by decide)]
    rfl
  · intro x1 h1
    unfold fM_rowOfTariff_b305 fM_rowOfTariff_b325
    simp (disch := decide) only [ix_0, ix_1, ix_2, ix_3, ix_4, ix_5, ix_6, ix_7, ix_8, ix_9, ix_10, ix_11, ix_12, ix_13, ix_14, ix_15, ix_16, ix_17, ix_18, ix_19, ix_20, ix_21, Nat.reduceAdd, wI_c, wI_ne, wL_1, lupd_ne, up1_eq, up1_ne, if_pos hb, ltM_eq, if_neg h1, if_pos (show bz (cI 1) = true by decide)]
    rfl
theorem RTL_K {t : ev_M} {a b c : Int32} (h : Rg 0 (t.1 549 125) 40) : ((InR c (cI 0) (cI 9999) ∧ t.1 549 125 < cI 40) ∧ InR a (cI 0) (cI 3) ∧ InR b (cI 1) (cI 30000) ∧ (∀ q, q < ix (t.1 549 125) → ¬ (t.1 637 q = a ∧ ¬ t.1 638 q < b)) → RTL t (cI 75) a b c = some (wrM t a b c, cI 1)) ∧ (¬ ((InR c (cI 0) (cI 9999) ∧ t.1 549 125 < cI 40) ∧ InR a (cI 0) (cI 3) ∧ InR b (cI 1) (cI 30000) ∧ (∀ q, q < ix (t.1 549 125) → ¬ (t.1 637 q = a ∧ ¬ t.1 638 q < b))) → RTL t (cI 75) a b c = some (t, cI 0)) := by
  obtain ⟨h0, h1⟩ := h
  have cc := ix_toNat (t.1 549 125)
  have ec : cI ((ix (t.1 549 125) : Nat) : Int) = t.1 549 125 := cI_ix h0
  have hS : ∀ n x q, q < ix (t.1 549 125) → ((t.1 637 q = a ∧ ¬ t.1 638 q < b) → fM_rowOfTariff_h184 (n + 1) t (cI 75) a b c x (cI (q : Int)) = fM_rowOfTariff_h184 n t (cI 75) a b c (cI 0) (cI ((q + 1 : Nat) : Int))) ∧ (¬ (t.1 637 q = a ∧ ¬ t.1 638 q < b) → (x = cI 0 ∨ x = cI 1) → fM_rowOfTariff_h184 (n + 1) t (cI 75) a b c x (cI (q : Int)) = fM_rowOfTariff_h184 n t (cI 75) a b c x (cI ((q + 1 : Nat) : Int))) := by
    intro n x q hq
    have lt : cI (q : Int) < t.1 549 125 := by rw [lt_i, q_ti (by omega)]; omega
    have qb : inb (cI (q : Int)) 40 = true := q_in (by omega) (by decide)
    have qx : ix (cI (q : Int)) = q := q_ix (by omega)
    constructor
    · rintro ⟨z1, z2⟩
      rw [fM_rowOfTariff_h184]
      simp only [if_pos lt, if_true, if_pos qb, qx, z1, if_neg z2, fM_rowOfTariff_b256, fM_rowOfTariff_b272, fM_rowOfTariff_b273, if_neg (show ¬ cI 1 = 0 by decide), ite_self]
      rw [q_s (by omega)]
    · intro z hx
      have k : fM_rowOfTariff_h184 (n + 1) t (cI 75) a b c x (cI (q : Int)) = fM_rowOfTariff_b225 (fM_rowOfTariff_h184 n) t (cI 75) a b c x (cI (q : Int)) := by
        rw [fM_rowOfTariff_h184]
        simp only [if_pos lt, if_true, if_pos qb, qx]
        by_cases z1 : t.1 637 q = a
        · rw [if_pos z1, if_pos (Classical.not_not.mp (fun u => z ⟨z1, u⟩))]
        · rw [if_neg z1]
      rw [k]
      unfold fM_rowOfTariff_b225 fM_rowOfTariff_b256 fM_rowOfTariff_b272 fM_rowOfTariff_b273
      rw [q_s (by omega)]
      rcases hx with hx | hx
      · rw [hx, if_pos (show cI 0 = 0 from rfl)]
      · rw [hx, if_neg (show ¬ cI 1 = 0 by decide), if_pos (show cI 0 = 0 from rfl)]
  obtain ⟨E, eE⟩ : ∃ E : Int32 → Option (ev_M × Int32), E = fun x5 => if x5 = 0 then (if bz x5 = true then some (t, x5) else none) else fM_rowOfTariff_b305 t (cI 75) a b c x5 (t.1 549 125) a := ⟨_, rfl⟩
  have hE : ∀ n x, fM_rowOfTariff_h184 (n + 1) t (cI 75) a b c x (cI ((ix (t.1 549 125) : Nat) : Int)) = E x := by
    intro n x
    rw [fM_rowOfTariff_h184, ec, if_neg (by rw [lt_i]; exact Int.lt_irrefl _), eE]
    simp only [if_true]
  have E0 : E (cI 0) = some (t, cI 0) := by
    rw [eE]
    show (if cI 0 = 0 then (if bz (cI 0) = true then some (t, cI 0) else none) else _) = _
    rw [if_pos (show cI 0 = 0 from rfl), if_pos (by decide)]
  have z178 : fM_rowOfTariff_b178 t (cI 75) a b c = some (t, cI 0) := by
    unfold fM_rowOfTariff_b178 fM_rowOfTariff_b179
    exact (gl_A (H := fun n x k => fM_rowOfTariff_h184 n t (cI 75) a b c x k) (N := ix (t.1 549 125)) (mt := fun q => t.1 637 q = a ∧ ¬ t.1 638 q < b) (E := E) hS hE (ix (t.1 549 125)) 1048576 0 (by omega) (by omega)).trans E0
  have z122 : fM_rowOfTariff_b122 t (cI 75) a b c = some (t, cI 0) := by
    unfold fM_rowOfTariff_b122 fM_rowOfTariff_b123
    rw [if_pos (show cI 0 = 0 from rfl)]
    exact z178
  unfold RTL
  rw [in_bI, bd1_some, ite_bI]
  constructor
  · rintro ⟨⟨p1, p2⟩, p3, p4, p5⟩
    rw [if_pos p1, if_pos p2]
    unfold fM_rowOfTariff_b123
    rw [if_neg (show ¬ cI 1 = 0 by decide), if_pos rfl, in_bI, bd1_some, ite_bI, if_pos p3, in_bI, bd1_some, ite_bI, if_pos p4]
    unfold fM_rowOfTariff_b174 fM_rowOfTariff_b179
    refine (gl_B (H := fun n x k => fM_rowOfTariff_h184 n t (cI 75) a b c x k) (N := ix (t.1 549 125)) (mt := fun q => t.1 637 q = a ∧ ¬ t.1 638 q < b) (E := E) hS hE (ix (t.1 549 125)) 1048576 0 (by omega) (by omega) (fun q _ hq => p5 q hq)).trans ?_
    rw [eE]
    show (if cI 1 = 0 then _ else fM_rowOfTariff_b305 t (cI 75) a b c (cI 1) (t.1 549 125) a) = _
    rw [if_neg (show ¬ cI 1 = 0 by decide)]
    exact (e_b305 ⟨h0, h1⟩ p2).1
  · intro hn
    by_cases p1 : InR c (cI 0) (cI 9999)
    rotate_left
    · rw [if_neg p1]; exact z122
    by_cases p2 : t.1 549 125 < cI 40
    rotate_left
    · rw [if_pos p1, if_neg p2]; exact z122
    rw [if_pos p1, if_pos p2]
    unfold fM_rowOfTariff_b123
    rw [if_neg (show ¬ cI 1 = 0 by decide), if_pos rfl, in_bI, bd1_some, ite_bI]
    by_cases p3 : InR a (cI 0) (cI 3)
    rotate_left
    · rw [if_neg p3]; exact z178
    rw [if_pos p3, in_bI, bd1_some, ite_bI]
    by_cases p4 : InR b (cI 1) (cI 30000)
    rotate_left
    · rw [if_neg p4]; exact z178
    rw [if_pos p4]
    unfold fM_rowOfTariff_b174 fM_rowOfTariff_b179
    refine (gl_D (H := fun n x k => fM_rowOfTariff_h184 n t (cI 75) a b c x k) (N := ix (t.1 549 125)) (mt := fun q => t.1 637 q = a ∧ ¬ t.1 638 q < b) (E := E) hS hE (ix (t.1 549 125)) 1048576 0 (by omega) (by omega) ?_).trans E0
    apply Classical.byContradiction
    intro u
    exact hn ⟨⟨p1, p2⟩, p3, p4, fun q hq w => u ⟨q, Nat.zero_le _, hq, w⟩⟩
theorem RTL_V {t : ev_M} {a b c : Int32} (h : Rg 0 (t.1 549 125) 40) : ((InR c (cI 0) (cI 9999) ∧ t.1 549 125 < cI 40) ∧ (a = cI 1 ∨ a = cI 2 ∨ a = cI 4) ∧ (∀ q, q < ix (t.1 549 125) → ¬ (t.1 637 q = cI 4 ∧ t.1 638 q = a)) → RTL t (cI 86) a b c = some (wrM t (cI 4) a c, cI 1)) ∧ (¬ ((InR c (cI 0) (cI 9999) ∧ t.1 549 125 < cI 40) ∧ (a = cI 1 ∨ a = cI 2 ∨ a = cI 4) ∧ (∀ q, q < ix (t.1 549 125) → ¬ (t.1 637 q = cI 4 ∧ t.1 638 q = a))) → RTL t (cI 86) a b c = some (t, cI 0)) := by
  obtain ⟨h0, h1⟩ := h
  have cc := ix_toNat (t.1 549 125)
  have ec : cI ((ix (t.1 549 125) : Nat) : Int) = t.1 549 125 := cI_ix h0
  have n867 : ¬ cI 86 = cI 75 := by decide
  have hS : ∀ n x q, q < ix (t.1 549 125) → ((t.1 637 q = cI 4 ∧ t.1 638 q = a) → fM_rowOfTariff_h184 (n + 1) t (cI 86) a b c x (cI (q : Int)) = fM_rowOfTariff_h184 n t (cI 86) a b c (cI 0) (cI ((q + 1 : Nat) : Int))) ∧ (¬ (t.1 637 q = cI 4 ∧ t.1 638 q = a) → (x = cI 0 ∨ x = cI 1) → fM_rowOfTariff_h184 (n + 1) t (cI 86) a b c x (cI (q : Int)) = fM_rowOfTariff_h184 n t (cI 86) a b c x (cI ((q + 1 : Nat) : Int))) := by
    intro n x q hq
    have lt : cI (q : Int) < t.1 549 125 := by rw [lt_i, q_ti (by omega)]; omega
    have qb : inb (cI (q : Int)) 40 = true := q_in (by omega) (by decide)
    have qx : ix (cI (q : Int)) = q := q_ix (by omega)
    constructor
    · rintro ⟨z1, z2⟩
      rw [fM_rowOfTariff_h184]
      simp only [if_pos lt, if_neg n867, if_pos qb, qx, z1, z2, if_true, fM_rowOfTariff_b256, fM_rowOfTariff_b272, fM_rowOfTariff_b273, if_neg (show ¬ cI 1 = 0 by decide), ite_self]
      rw [q_s (by omega)]
    · intro z hx
      have k : fM_rowOfTariff_h184 (n + 1) t (cI 86) a b c x (cI (q : Int)) = fM_rowOfTariff_b255 (fM_rowOfTariff_h184 n) t (cI 86) a b c x (cI (q : Int)) := by
        rw [fM_rowOfTariff_h184]
        simp only [if_pos lt, if_neg n867, if_pos qb, qx]
        by_cases z1 : t.1 637 q = cI 4
        · rw [if_pos z1, if_neg (fun u => z ⟨z1, u⟩)]
        · rw [if_neg z1]
      rw [k]
      unfold fM_rowOfTariff_b255 fM_rowOfTariff_b256 fM_rowOfTariff_b272 fM_rowOfTariff_b273
      rw [q_s (by omega)]
      rcases hx with hx | hx
      · rw [hx, if_pos (show cI 0 = 0 from rfl)]
      · rw [hx, if_neg (show ¬ cI 1 = 0 by decide), if_pos (show cI 0 = 0 from rfl)]
  obtain ⟨E, eE⟩ : ∃ E : Int32 → Option (ev_M × Int32), E = fun x5 => if x5 = 0 then (if bz x5 = true then some (t, x5) else none) else fM_rowOfTariff_b305 t (cI 86) a b c x5 (t.1 549 125) (cI 4) := ⟨_, rfl⟩
  have hE : ∀ n x, fM_rowOfTariff_h184 (n + 1) t (cI 86) a b c x (cI ((ix (t.1 549 125) : Nat) : Int)) = E x := by
    intro n x
    rw [fM_rowOfTariff_h184, ec, if_neg (by rw [lt_i]; exact Int.lt_irrefl _), eE]
    simp only [if_neg n867]
  have E0 : E (cI 0) = some (t, cI 0) := by
    rw [eE]
    show (if cI 0 = 0 then (if bz (cI 0) = true then some (t, cI 0) else none) else _) = _
    rw [if_pos (show cI 0 = 0 from rfl), if_pos (by decide)]
  have z178 : fM_rowOfTariff_b178 t (cI 86) a b c = some (t, cI 0) := by
    unfold fM_rowOfTariff_b178 fM_rowOfTariff_b179
    exact (gl_A (H := fun n x k => fM_rowOfTariff_h184 n t (cI 86) a b c x k) (N := ix (t.1 549 125)) (mt := fun q => t.1 637 q = cI 4 ∧ t.1 638 q = a) (E := E) hS hE (ix (t.1 549 125)) 1048576 0 (by omega) (by omega)).trans E0
  have z122 : fM_rowOfTariff_b122 t (cI 86) a b c = some (t, cI 0) := by
    unfold fM_rowOfTariff_b122 fM_rowOfTariff_b123
    rw [if_pos (show cI 0 = 0 from rfl)]
    exact z178
  have k123 : fM_rowOfTariff_b123 t (cI 86) a b c (cI 1) = if a = cI 1 ∨ a = cI 2 ∨ a = cI 4 then fM_rowOfTariff_b174 t (cI 86) a b c else some (t, cI 0) := by
    unfold fM_rowOfTariff_b123
    rw [if_neg (show ¬ cI 1 = 0 by decide), if_neg n867, z178]
    by_cases y1 : a = cI 1
    · rw [if_pos y1, if_pos (Or.inl y1)]
    · rw [if_neg y1]
      by_cases y2 : a = cI 2
      · rw [if_pos y2, if_pos (Or.inr (Or.inl y2))]
      · rw [if_neg y2]
        by_cases y3 : a = cI 4
        · rw [if_pos y3, if_pos (Or.inr (Or.inr y3))]
        · rw [if_neg y3, if_neg (fun u => by rcases u with u | u | u; exact y1 u; exact y2 u; exact y3 u)]
  unfold RTL
  rw [in_bI, bd1_some, ite_bI]
  constructor
  · rintro ⟨⟨p1, p2⟩, p3, p5⟩
    rw [if_pos p1, if_pos p2, k123, if_pos p3]
    unfold fM_rowOfTariff_b174 fM_rowOfTariff_b179
    refine (gl_B (H := fun n x k => fM_rowOfTariff_h184 n t (cI 86) a b c x k) (N := ix (t.1 549 125)) (mt := fun q => t.1 637 q = cI 4 ∧ t.1 638 q = a) (E := E) hS hE (ix (t.1 549 125)) 1048576 0 (by omega) (by omega) (fun q _ hq => p5 q hq)).trans ?_
    rw [eE]
    show (if cI 1 = 0 then _ else fM_rowOfTariff_b305 t (cI 86) a b c (cI 1) (t.1 549 125) (cI 4)) = _
    rw [if_neg (show ¬ cI 1 = 0 by decide)]
    exact (e_b305 ⟨h0, h1⟩ p2).2 _ n867
  · intro hn
    by_cases p1 : InR c (cI 0) (cI 9999)
    rotate_left
    · rw [if_neg p1]; exact z122
    by_cases p2 : t.1 549 125 < cI 40
    rotate_left
    · rw [if_pos p1, if_neg p2]; exact z122
    rw [if_pos p1, if_pos p2, k123]
    by_cases p3 : a = cI 1 ∨ a = cI 2 ∨ a = cI 4
    rotate_left
    · rw [if_neg p3]
    rw [if_pos p3]
    unfold fM_rowOfTariff_b174 fM_rowOfTariff_b179
    refine (gl_D (H := fun n x k => fM_rowOfTariff_h184 n t (cI 86) a b c x k) (N := ix (t.1 549 125)) (mt := fun q => t.1 637 q = cI 4 ∧ t.1 638 q = a) (E := E) hS hE (ix (t.1 549 125)) 1048576 0 (by omega) (by omega) ?_).trans E0
    apply Classical.byContradiction
    intro u
    exact hn ⟨⟨p1, p2⟩, p3, fun q hq w => u ⟨q, Nat.zero_le _, hq, w⟩⟩
theorem wrC_fr {s : ev_M} {k l p : Int32} : fr FnwC s (wrC s k l p) := (((fr.rf.wI rfl).wI rfl).wI rfl).wI rfl
theorem wrM_fr {t : ev_M} {k l p : Int32} : fr FnwM t (wrM t k l p) := (((fr.rf.wI rfl).wI rfl).wI rfl).wI rfl
theorem adK1 {s t : ev_M} {a b c : Int32} (h : NwT s t) (ha : s.1 3 0 = a) (hb : s.1 3 1 = b) (hc : s.1 3 2 = c) : ∃ s' t' v, fMoney_adds_1 s (cI 75) = some (s', v) ∧ RTL t (cI 75) a b c = some (t', v) ∧ (v = cI 0 ∨ (v = cI 1 ∧ 0 < ix (s'.1 78 13))) ∧ NwT s' t' ∧ fr FnwC s s' ∧ fr FnwM t t' := by
  obtain ⟨⟨n1, n2, n3⟩, g1, g2, g3, b1, b2⟩ := id h
  have cc := ix_toNat (s.1 78 13)
  have ec : cI ((ix (s.1 78 13) : Nat) : Int) = s.1 78 13 := cI_ix n2
  obtain ⟨r1, r2⟩ := RTL_K (t := t) (a := a) (b := b) (c := c) (by rw [n1]; exact ⟨n2, n3⟩)
  have hS : ∀ n q, q < ix (s.1 78 13) → ((s.1 97 q = a ∧ ¬ s.1 98 q < b) → fMoney_adds_1_h64 (n + 1) s a b (cI (q : Int)) = some (s, cI 0)) ∧ (¬ (s.1 97 q = a ∧ ¬ s.1 98 q < b) → fMoney_adds_1_h64 (n + 1) s a b (cI (q : Int)) = fMoney_adds_1_h64 n s a b (cI ((q + 1 : Nat) : Int))) := by
    intro n q hq
    have lt : cI (q : Int) < s.1 78 13 := by rw [lt_i, q_ti (by omega)]; omega
    have qb : inb (cI (q : Int)) 40 = true := q_in (by omega) (by decide)
    have qx : ix (cI (q : Int)) = q := q_ix (by omega)
    constructor
    · rintro ⟨z1, z2⟩
      rw [fMoney_adds_1_h64]
      simp (disch := decide) only [if_pos lt, if_pos qb, qx, ix_0, ix_1, ix_2, ix_3, ix_4, ix_5, ix_6, ix_7, ix_8, ix_9, ix_10, ix_11, ix_12, ix_13, ix_14, ix_15, ix_16, ix_17, ix_18, ix_19, ix_20, ix_21, Nat.reduceAdd, wI_c, wI_ne, wL_1, lupd_ne, up1_eq, up1_ne, Nat.add_zero, z1, if_true, if_neg z2]
    · intro z
      rw [fMoney_adds_1_h64]
      simp (disch := decide) only [if_pos lt, if_pos qb, qx, ix_0, ix_1, ix_2, ix_3, ix_4, ix_5, ix_6, ix_7, ix_8, ix_9, ix_10, ix_11, ix_12, ix_13, ix_14, ix_15, ix_16, ix_17, ix_18, ix_19, ix_20, ix_21, Nat.reduceAdd, wI_c, wI_ne, wL_1, lupd_ne, up1_eq, up1_ne, Nat.add_zero, fMoney_adds_1_b102]
      rw [q_s (by omega)]
      by_cases z1 : s.1 97 q = a
      · rw [if_pos z1, if_pos (Classical.not_not.mp (fun u => z ⟨z1, u⟩))]
      · rw [if_neg z1]
  have hE : ∀ n, fMoney_adds_1_h64 (n + 1) s a b (cI ((ix (s.1 78 13) : Nat) : Int)) = if InR c (cI 0) (cI 9999) ∧ s.1 78 13 < cI 40 then some (wrC s a b c, cI 1) else some (s, cI 0) := by
    intro n
    rw [fMoney_adds_1_h64, ec, if_neg (by rw [lt_i]; exact Int.lt_irrefl _), ix_2, hc, e_addsRow ⟨n2, n3⟩]
    by_cases z : InR c (cI 0) (cI 9999) ∧ s.1 78 13 < cI 40
    · rw [if_pos z, bd2_some, if_pos (show bz (cI 1) = true by decide)]
    · rw [if_neg z, bd2_some, if_pos (show bz (cI 0) = true by decide)]
  have kA : fMoney_adds_1 s (cI 75) = if InR a (cI 0) (cI 3) ∧ InR b (cI 1) (cI 30000) then fMoney_adds_1_h64 1048576 s a b (cI 0) else some (s, cI 0) := by
    unfold fMoney_adds_1
    generalize fMoney_adds_1_h64 1048576 = H
    rw [if_neg (show ¬ cI 75 = cI 86 by decide), ltI_eq, ltI_eq, ix_0, ix_1, ha, hb, outside_eq, bd1_some, ite_bI]
    by_cases z1 : InR a (cI 0) (cI 3)
    · rw [if_neg (fun u => u z1), outside_eq, bd1_some, ite_bI]
      by_cases z2 : InR b (cI 1) (cI 30000)
      · rw [if_neg (fun u => u z2), if_pos ⟨z1, z2⟩]
      · rw [if_pos z2, if_neg (fun u => z2 u.2)]
    · rw [if_pos z1, if_neg (fun u => z1 u.1)]
  have iffM : InR a (cI 0) (cI 3) → ∀ q, q < ix (s.1 78 13) → ((t.1 637 q = a ∧ ¬ t.1 638 q < b) ↔ (s.1 97 q = a ∧ ¬ s.1 98 q < b)) := by
    intro hi q hq
    rw [g2 q hq]
    have e0 : (cI 0).toInt = 0 := rfl
    have e3 : (cI 3).toInt = 3 := rfl
    rcases g1 q hq with ⟨w1, w2⟩ | ⟨w1, -⟩
    · have n4 : ¬ cI 4 = a := fun u => by rw [← u] at hi; exact absurd hi.2 (by decide)
      have n1 : ¬ cI (-1) = a := fun u => by rw [← u] at hi; exact absurd hi.1 (by decide)
      rw [w1, w2]
      exact ⟨fun u => absurd u.1 n4, fun u => absurd u.1 n1⟩
    · rw [w1]
  by_cases P : (InR c (cI 0) (cI 9999) ∧ s.1 78 13 < cI 40) ∧ InR a (cI 0) (cI 3) ∧ InR b (cI 1) (cI 30000) ∧ (∀ q, q < ix (s.1 78 13) → ¬ (s.1 97 q = a ∧ ¬ s.1 98 q < b))
  · obtain ⟨p1, p2, p3, p4⟩ := P
    have l := gl_E (H := fun n k => fMoney_adds_1_h64 n s a b k) (N := ix (s.1 78 13)) (mt := fun q => s.1 97 q = a ∧ ¬ s.1 98 q < b) hS hE (ix (s.1 78 13)) 1048576 0 (by omega) (by omega) (fun q _ hq => p4 q hq)
    have ad := h.add (k := a) (k' := a) (l := b) (p := c) p1.2 (Or.inr ⟨rfl, p2.1, p2.2⟩) ⟨by have := p3.1; rw [show (cI 1).toInt = 1 from rfl] at this; omega, p3.2⟩ p1.1
    refine ⟨wrC s a b c, wrM t a b c, cI 1, ?_, ?_, Or.inr ⟨rfl, by rw [ad.2]; omega⟩, ad.1, wrC_fr, wrM_fr⟩
    · rw [kA, if_pos ⟨p2, p3⟩]
      refine Eq.trans l ?_
      rw [if_pos p1]
    · refine r1 ⟨by rw [n1]; exact p1, p2, p3, fun q hq => ?_⟩
      rw [n1] at hq
      rw [iffM p2 q hq]
      exact p4 q hq
  · refine ⟨s, t, cI 0, ?_, ?_, Or.inl rfl, h, fr.rf, fr.rf⟩
    · rw [kA]
      by_cases p23 : InR a (cI 0) (cI 3) ∧ InR b (cI 1) (cI 30000)
      · rw [if_pos p23]
        by_cases p4 : ∀ q, q < ix (s.1 78 13) → ¬ (s.1 97 q = a ∧ ¬ s.1 98 q < b)
        · refine Eq.trans (gl_E (H := fun n k => fMoney_adds_1_h64 n s a b k) (N := ix (s.1 78 13)) (mt := fun q => s.1 97 q = a ∧ ¬ s.1 98 q < b) hS hE (ix (s.1 78 13)) 1048576 0 (by omega) (by omega) (fun q _ hq => p4 q hq)) ?_
          rw [if_neg (fun u => P ⟨u, p23.1, p23.2, p4⟩)]
        · refine gl_Z (H := fun n k => fMoney_adds_1_h64 n s a b k) (N := ix (s.1 78 13)) (mt := fun q => s.1 97 q = a ∧ ¬ s.1 98 q < b) hS (ix (s.1 78 13)) 1048576 0 (by omega) (by omega) ?_
          apply Classical.byContradiction
          intro u
          exact p4 (fun q hq w => u ⟨q, Nat.zero_le _, hq, w⟩)
      · rw [if_neg p23]
    · refine r2 (fun u => P ⟨by rw [← n1]; exact u.1, u.2.1, u.2.2.1, fun q hq => ?_⟩)
      rw [← iffM u.2.1 q hq]
      exact u.2.2.2 q (by rw [n1]; exact hq)
theorem adV1 {s t : ev_M} {a b c : Int32} (h : NwT s t) (ha : s.1 3 0 = a) (hc : s.1 3 1 = c) : ∃ s' t' v, fMoney_adds_1 s (cI 86) = some (s', v) ∧ RTL t (cI 86) a b c = some (t', v) ∧ (v = cI 0 ∨ (v = cI 1 ∧ 0 < ix (s'.1 78 13))) ∧ NwT s' t' ∧ fr FnwC s s' ∧ fr FnwM t t' := by
  obtain ⟨⟨n1, n2, n3⟩, g1, g2, g3, b1, b2⟩ := id h
  have cc := ix_toNat (s.1 78 13)
  have ec : cI ((ix (s.1 78 13) : Nat) : Int) = s.1 78 13 := cI_ix n2
  obtain ⟨r1, r2⟩ := RTL_V (t := t) (a := a) (b := b) (c := c) (by rw [n1]; exact ⟨n2, n3⟩)
  have hS : ∀ n q, q < ix (s.1 78 13) → ((s.1 97 q = cI (-1) ∧ s.1 98 q = a) → fMoney_addsService_h19 (n + 1) s a c (cI (q : Int)) = some (s, cI 0)) ∧ (¬ (s.1 97 q = cI (-1) ∧ s.1 98 q = a) → fMoney_addsService_h19 (n + 1) s a c (cI (q : Int)) = fMoney_addsService_h19 n s a c (cI ((q + 1 : Nat) : Int))) := by
    intro n q hq
    have lt : cI (q : Int) < s.1 78 13 := by rw [lt_i, q_ti (by omega)]; omega
    have qb : inb (cI (q : Int)) 40 = true := q_in (by omega) (by decide)
    have qx : ix (cI (q : Int)) = q := q_ix (by omega)
    constructor
    · rintro ⟨z1, z2⟩
      rw [fMoney_addsService_h19]
      simp (disch := decide) only [if_pos lt, if_pos qb, qx, ix_0, ix_1, ix_2, ix_3, ix_4, ix_5, ix_6, ix_7, ix_8, ix_9, ix_10, ix_11, ix_12, ix_13, ix_14, ix_15, ix_16, ix_17, ix_18, ix_19, ix_20, ix_21, Nat.reduceAdd, wI_c, wI_ne, wL_1, lupd_ne, up1_eq, up1_ne, Nat.add_zero, z1, z2, if_true]
    · intro z
      rw [fMoney_addsService_h19]
      simp (disch := decide) only [if_pos lt, if_pos qb, qx, ix_0, ix_1, ix_2, ix_3, ix_4, ix_5, ix_6, ix_7, ix_8, ix_9, ix_10, ix_11, ix_12, ix_13, ix_14, ix_15, ix_16, ix_17, ix_18, ix_19, ix_20, ix_21, Nat.reduceAdd, wI_c, wI_ne, wL_1, lupd_ne, up1_eq, up1_ne, Nat.add_zero, fMoney_addsService_b53]
      rw [q_s (by omega)]
      by_cases z1 : s.1 97 q = cI (-1)
      · rw [if_pos z1, if_neg (fun u => z ⟨z1, u⟩)]
      · rw [if_neg z1]
  have hE : ∀ n, fMoney_addsService_h19 (n + 1) s a c (cI ((ix (s.1 78 13) : Nat) : Int)) = if InR c (cI 0) (cI 9999) ∧ s.1 78 13 < cI 40 then some (wrC s (cI (-1)) a c, cI 1) else some (s, cI 0) := by
    intro n
    rw [fMoney_addsService_h19, ec, if_neg (by rw [lt_i]; exact Int.lt_irrefl _), e_addsRow ⟨n2, n3⟩]
    by_cases z : InR c (cI 0) (cI 9999) ∧ s.1 78 13 < cI 40
    · rw [if_pos z, bd2_some, if_pos (show bz (cI 1) = true by decide)]
    · rw [if_neg z, bd2_some, if_pos (show bz (cI 0) = true by decide)]
  have kA0 : fMoney_addsService s a c = if a = cI 1 ∨ a = cI 2 ∨ a = cI 4 then fMoney_addsService_h19 1048576 s a c (cI 0) else some (s, cI 0) := by
    unfold fMoney_addsService fMoney_addsService_b17
    generalize fMoney_addsService_h19 1048576 = H
    by_cases y1 : a = cI 1
    · rw [if_pos y1, if_pos (Or.inl y1)]
    · rw [if_neg y1]
      by_cases y2 : a = cI 2
      · rw [if_pos y2, if_pos (Or.inr (Or.inl y2))]
      · rw [if_neg y2]
        by_cases y3 : a = cI 4
        · rw [if_pos y3, if_pos (Or.inr (Or.inr y3))]
        · rw [if_neg y3, if_neg (fun u => by rcases u with u | u | u; exact y1 u; exact y2 u; exact y3 u)]
  have kA : ∀ s' v, (v = cI 0 ∨ v = cI 1) → fMoney_addsService s a c = some (s', v) → fMoney_adds_1 s (cI 86) = some (s', v) := by
    intro s' v hv e
    unfold fMoney_adds_1
    generalize fMoney_adds_1_h64 1048576 = H
    rw [if_pos rfl, ix_0, ix_1, ha, hc, e, bd2_some]
    rcases hv with hv | hv
    · rw [hv, if_pos (show bz (cI 0) = true by decide)]
    · rw [hv, if_pos (show bz (cI 1) = true by decide)]
  have iffM : ∀ q, q < ix (s.1 78 13) → ((t.1 637 q = cI 4 ∧ t.1 638 q = a) ↔ (s.1 97 q = cI (-1) ∧ s.1 98 q = a)) := by
    intro q hq
    rw [g2 q hq]
    rcases g1 q hq with ⟨w1, w2⟩ | ⟨w1, w2, w3⟩
    · rw [w1, w2]
      exact ⟨fun u => ⟨rfl, u.2⟩, fun u => ⟨rfl, u.2⟩⟩
    · rw [w1]
      constructor
      · intro u; rw [u.1] at w3; exact absurd w3 (by decide)
      · intro u; rw [u.1] at w2; exact absurd w2 (by decide)
  by_cases P : (InR c (cI 0) (cI 9999) ∧ s.1 78 13 < cI 40) ∧ (a = cI 1 ∨ a = cI 2 ∨ a = cI 4) ∧ (∀ q, q < ix (s.1 78 13) → ¬ (s.1 97 q = cI (-1) ∧ s.1 98 q = a))
  · obtain ⟨p1, p2, p4⟩ := P
    have l := gl_E (H := fun n k => fMoney_addsService_h19 n s a c k) (N := ix (s.1 78 13)) (mt := fun q => s.1 97 q = cI (-1) ∧ s.1 98 q = a) hS hE (ix (s.1 78 13)) 1048576 0 (by omega) (by omega) (fun q _ hq => p4 q hq)
    have ab : 0 ≤ a.toInt ∧ a.toInt ≤ 30000 := by rcases p2 with u | u | u <;> rw [u] <;> decide
    have ad := h.add (k := cI (-1)) (k' := cI 4) (l := a) (p := c) p1.2 (Or.inl ⟨rfl, rfl⟩) ab p1.1
    refine ⟨wrC s (cI (-1)) a c, wrM t (cI 4) a c, cI 1, kA _ _ (Or.inr rfl) ?_, ?_, Or.inr ⟨rfl, by rw [ad.2]; omega⟩, ad.1, wrC_fr, wrM_fr⟩
    · rw [kA0, if_pos p2]
      refine Eq.trans l ?_
      rw [if_pos p1]
    · refine r1 ⟨by rw [n1]; exact p1, p2, fun q hq => ?_⟩
      rw [n1] at hq
      rw [iffM q hq]
      exact p4 q hq
  · refine ⟨s, t, cI 0, kA _ _ (Or.inl rfl) ?_, ?_, Or.inl rfl, h, fr.rf, fr.rf⟩
    · rw [kA0]
      by_cases p23 : a = cI 1 ∨ a = cI 2 ∨ a = cI 4
      · rw [if_pos p23]
        by_cases p4 : ∀ q, q < ix (s.1 78 13) → ¬ (s.1 97 q = cI (-1) ∧ s.1 98 q = a)
        · refine Eq.trans (gl_E (H := fun n k => fMoney_addsService_h19 n s a c k) (N := ix (s.1 78 13)) (mt := fun q => s.1 97 q = cI (-1) ∧ s.1 98 q = a) hS hE (ix (s.1 78 13)) 1048576 0 (by omega) (by omega) (fun q _ hq => p4 q hq)) ?_
          rw [if_neg (fun u => P ⟨u, p23, p4⟩)]
        · refine gl_Z (H := fun n k => fMoney_addsService_h19 n s a c k) (N := ix (s.1 78 13)) (mt := fun q => s.1 97 q = cI (-1) ∧ s.1 98 q = a) hS (ix (s.1 78 13)) 1048576 0 (by omega) (by omega) ?_
          apply Classical.byContradiction
          intro u
          exact p4 (fun q hq w => u ⟨q, Nat.zero_le _, hq, w⟩)
      · rw [if_neg p23]
    · refine r2 (fun u => P ⟨by rw [← n1]; exact u.1, u.2.1, fun q hq => ?_⟩)
      rw [← iffM q hq]
      exact u.2.2 q (by rw [n1]; exact hq)
theorem adK4 {s t : ev_M} {a b c : Int32} (h : NwT s t) (ha : s.1 6 0 = a) (hb : s.1 6 1 = b) (hc : s.1 6 2 = c) : ∃ s' t' v, fMoney_adds_4 s (cI 75) = some (s', v) ∧ RTL t (cI 75) a b c = some (t', v) ∧ (v = cI 0 ∨ (v = cI 1 ∧ 0 < ix (s'.1 78 13))) ∧ NwT s' t' ∧ fr FnwC s s' ∧ fr FnwM t t' := by
  obtain ⟨⟨n1, n2, n3⟩, g1, g2, g3, b1, b2⟩ := id h
  have cc := ix_toNat (s.1 78 13)
  have ec : cI ((ix (s.1 78 13) : Nat) : Int) = s.1 78 13 := cI_ix n2
  obtain ⟨r1, r2⟩ := RTL_K (t := t) (a := a) (b := b) (c := c) (by rw [n1]; exact ⟨n2, n3⟩)
  have hS : ∀ n q, q < ix (s.1 78 13) → ((s.1 97 q = a ∧ ¬ s.1 98 q < b) → fMoney_adds_4_h64 (n + 1) s a b (cI (q : Int)) = some (s, cI 0)) ∧ (¬ (s.1 97 q = a ∧ ¬ s.1 98 q < b) → fMoney_adds_4_h64 (n + 1) s a b (cI (q : Int)) = fMoney_adds_4_h64 n s a b (cI ((q + 1 : Nat) : Int))) := by
    intro n q hq
    have lt : cI (q : Int) < s.1 78 13 := by rw [lt_i, q_ti (by omega)]; omega
    have qb : inb (cI (q : Int)) 40 = true := q_in (by omega) (by decide)
    have qx : ix (cI (q : Int)) = q := q_ix (by omega)
    constructor
    · rintro ⟨z1, z2⟩
      rw [fMoney_adds_4_h64]
      simp (disch := decide) only [if_pos lt, if_pos qb, qx, ix_0, ix_1, ix_2, ix_3, ix_4, ix_5, ix_6, ix_7, ix_8, ix_9, ix_10, ix_11, ix_12, ix_13, ix_14, ix_15, ix_16, ix_17, ix_18, ix_19, ix_20, ix_21, Nat.reduceAdd, wI_c, wI_ne, wL_1, lupd_ne, up1_eq, up1_ne, Nat.add_zero, z1, if_true, if_neg z2]
    · intro z
      rw [fMoney_adds_4_h64]
      simp (disch := decide) only [if_pos lt, if_pos qb, qx, ix_0, ix_1, ix_2, ix_3, ix_4, ix_5, ix_6, ix_7, ix_8, ix_9, ix_10, ix_11, ix_12, ix_13, ix_14, ix_15, ix_16, ix_17, ix_18, ix_19, ix_20, ix_21, Nat.reduceAdd, wI_c, wI_ne, wL_1, lupd_ne, up1_eq, up1_ne, Nat.add_zero, fMoney_adds_4_b102]
      rw [q_s (by omega)]
      by_cases z1 : s.1 97 q = a
      · rw [if_pos z1, if_pos (Classical.not_not.mp (fun u => z ⟨z1, u⟩))]
      · rw [if_neg z1]
  have hE : ∀ n, fMoney_adds_4_h64 (n + 1) s a b (cI ((ix (s.1 78 13) : Nat) : Int)) = if InR c (cI 0) (cI 9999) ∧ s.1 78 13 < cI 40 then some (wrC s a b c, cI 1) else some (s, cI 0) := by
    intro n
    rw [fMoney_adds_4_h64, ec, if_neg (by rw [lt_i]; exact Int.lt_irrefl _), ix_2, hc, e_addsRow ⟨n2, n3⟩]
    by_cases z : InR c (cI 0) (cI 9999) ∧ s.1 78 13 < cI 40
    · rw [if_pos z, bd2_some, if_pos (show bz (cI 1) = true by decide)]
    · rw [if_neg z, bd2_some, if_pos (show bz (cI 0) = true by decide)]
  have kA : fMoney_adds_4 s (cI 75) = if InR a (cI 0) (cI 3) ∧ InR b (cI 1) (cI 30000) then fMoney_adds_4_h64 1048576 s a b (cI 0) else some (s, cI 0) := by
    unfold fMoney_adds_4
    generalize fMoney_adds_4_h64 1048576 = H
    rw [if_neg (show ¬ cI 75 = cI 86 by decide), ltI_eq, ltI_eq, ix_0, ix_1, ha, hb, outside_eq, bd1_some, ite_bI]
    by_cases z1 : InR a (cI 0) (cI 3)
    · rw [if_neg (fun u => u z1), outside_eq, bd1_some, ite_bI]
      by_cases z2 : InR b (cI 1) (cI 30000)
      · rw [if_neg (fun u => u z2), if_pos ⟨z1, z2⟩]
      · rw [if_pos z2, if_neg (fun u => z2 u.2)]
    · rw [if_pos z1, if_neg (fun u => z1 u.1)]
  have iffM : InR a (cI 0) (cI 3) → ∀ q, q < ix (s.1 78 13) → ((t.1 637 q = a ∧ ¬ t.1 638 q < b) ↔ (s.1 97 q = a ∧ ¬ s.1 98 q < b)) := by
    intro hi q hq
    rw [g2 q hq]
    have e0 : (cI 0).toInt = 0 := rfl
    have e3 : (cI 3).toInt = 3 := rfl
    rcases g1 q hq with ⟨w1, w2⟩ | ⟨w1, -⟩
    · have n4 : ¬ cI 4 = a := fun u => by rw [← u] at hi; exact absurd hi.2 (by decide)
      have n1 : ¬ cI (-1) = a := fun u => by rw [← u] at hi; exact absurd hi.1 (by decide)
      rw [w1, w2]
      exact ⟨fun u => absurd u.1 n4, fun u => absurd u.1 n1⟩
    · rw [w1]
  by_cases P : (InR c (cI 0) (cI 9999) ∧ s.1 78 13 < cI 40) ∧ InR a (cI 0) (cI 3) ∧ InR b (cI 1) (cI 30000) ∧ (∀ q, q < ix (s.1 78 13) → ¬ (s.1 97 q = a ∧ ¬ s.1 98 q < b))
  · obtain ⟨p1, p2, p3, p4⟩ := P
    have l := gl_E (H := fun n k => fMoney_adds_4_h64 n s a b k) (N := ix (s.1 78 13)) (mt := fun q => s.1 97 q = a ∧ ¬ s.1 98 q < b) hS hE (ix (s.1 78 13)) 1048576 0 (by omega) (by omega) (fun q _ hq => p4 q hq)
    have ad := h.add (k := a) (k' := a) (l := b) (p := c) p1.2 (Or.inr ⟨rfl, p2.1, p2.2⟩) ⟨by have := p3.1; rw [show (cI 1).toInt = 1 from rfl] at this; omega, p3.2⟩ p1.1
    refine ⟨wrC s a b c, wrM t a b c, cI 1, ?_, ?_, Or.inr ⟨rfl, by rw [ad.2]; omega⟩, ad.1, wrC_fr, wrM_fr⟩
    · rw [kA, if_pos ⟨p2, p3⟩]
      refine Eq.trans l ?_
      rw [if_pos p1]
    · refine r1 ⟨by rw [n1]; exact p1, p2, p3, fun q hq => ?_⟩
      rw [n1] at hq
      rw [iffM p2 q hq]
      exact p4 q hq
  · refine ⟨s, t, cI 0, ?_, ?_, Or.inl rfl, h, fr.rf, fr.rf⟩
    · rw [kA]
      by_cases p23 : InR a (cI 0) (cI 3) ∧ InR b (cI 1) (cI 30000)
      · rw [if_pos p23]
        by_cases p4 : ∀ q, q < ix (s.1 78 13) → ¬ (s.1 97 q = a ∧ ¬ s.1 98 q < b)
        · refine Eq.trans (gl_E (H := fun n k => fMoney_adds_4_h64 n s a b k) (N := ix (s.1 78 13)) (mt := fun q => s.1 97 q = a ∧ ¬ s.1 98 q < b) hS hE (ix (s.1 78 13)) 1048576 0 (by omega) (by omega) (fun q _ hq => p4 q hq)) ?_
          rw [if_neg (fun u => P ⟨u, p23.1, p23.2, p4⟩)]
        · refine gl_Z (H := fun n k => fMoney_adds_4_h64 n s a b k) (N := ix (s.1 78 13)) (mt := fun q => s.1 97 q = a ∧ ¬ s.1 98 q < b) hS (ix (s.1 78 13)) 1048576 0 (by omega) (by omega) ?_
          apply Classical.byContradiction
          intro u
          exact p4 (fun q hq w => u ⟨q, Nat.zero_le _, hq, w⟩)
      · rw [if_neg p23]
    · refine r2 (fun u => P ⟨by rw [← n1]; exact u.1, u.2.1, u.2.2.1, fun q hq => ?_⟩)
      rw [← iffM u.2.1 q hq]
      exact u.2.2.2 q (by rw [n1]; exact hq)
theorem adV4 {s t : ev_M} {a b c : Int32} (h : NwT s t) (ha : s.1 6 0 = a) (hc : s.1 6 1 = c) : ∃ s' t' v, fMoney_adds_4 s (cI 86) = some (s', v) ∧ RTL t (cI 86) a b c = some (t', v) ∧ (v = cI 0 ∨ (v = cI 1 ∧ 0 < ix (s'.1 78 13))) ∧ NwT s' t' ∧ fr FnwC s s' ∧ fr FnwM t t' := by
  obtain ⟨⟨n1, n2, n3⟩, g1, g2, g3, b1, b2⟩ := id h
  have cc := ix_toNat (s.1 78 13)
  have ec : cI ((ix (s.1 78 13) : Nat) : Int) = s.1 78 13 := cI_ix n2
  obtain ⟨r1, r2⟩ := RTL_V (t := t) (a := a) (b := b) (c := c) (by rw [n1]; exact ⟨n2, n3⟩)
  have hS : ∀ n q, q < ix (s.1 78 13) → ((s.1 97 q = cI (-1) ∧ s.1 98 q = a) → fMoney_addsService_h19 (n + 1) s a c (cI (q : Int)) = some (s, cI 0)) ∧ (¬ (s.1 97 q = cI (-1) ∧ s.1 98 q = a) → fMoney_addsService_h19 (n + 1) s a c (cI (q : Int)) = fMoney_addsService_h19 n s a c (cI ((q + 1 : Nat) : Int))) := by
    intro n q hq
    have lt : cI (q : Int) < s.1 78 13 := by rw [lt_i, q_ti (by omega)]; omega
    have qb : inb (cI (q : Int)) 40 = true := q_in (by omega) (by decide)
    have qx : ix (cI (q : Int)) = q := q_ix (by omega)
    constructor
    · rintro ⟨z1, z2⟩
      rw [fMoney_addsService_h19]
      simp (disch := decide) only [if_pos lt, if_pos qb, qx, ix_0, ix_1, ix_2, ix_3, ix_4, ix_5, ix_6, ix_7, ix_8, ix_9, ix_10, ix_11, ix_12, ix_13, ix_14, ix_15, ix_16, ix_17, ix_18, ix_19, ix_20, ix_21, Nat.reduceAdd, wI_c, wI_ne, wL_1, lupd_ne, up1_eq, up1_ne, Nat.add_zero, z1, z2, if_true]
    · intro z
      rw [fMoney_addsService_h19]
      simp (disch := decide) only [if_pos lt, if_pos qb, qx, ix_0, ix_1, ix_2, ix_3, ix_4, ix_5, ix_6, ix_7, ix_8, ix_9, ix_10, ix_11, ix_12, ix_13, ix_14, ix_15, ix_16, ix_17, ix_18, ix_19, ix_20, ix_21, Nat.reduceAdd, wI_c, wI_ne, wL_1, lupd_ne, up1_eq, up1_ne, Nat.add_zero, fMoney_addsService_b53]
      rw [q_s (by omega)]
      by_cases z1 : s.1 97 q = cI (-1)
      · rw [if_pos z1, if_neg (fun u => z ⟨z1, u⟩)]
      · rw [if_neg z1]
  have hE : ∀ n, fMoney_addsService_h19 (n + 1) s a c (cI ((ix (s.1 78 13) : Nat) : Int)) = if InR c (cI 0) (cI 9999) ∧ s.1 78 13 < cI 40 then some (wrC s (cI (-1)) a c, cI 1) else some (s, cI 0) := by
    intro n
    rw [fMoney_addsService_h19, ec, if_neg (by rw [lt_i]; exact Int.lt_irrefl _), e_addsRow ⟨n2, n3⟩]
    by_cases z : InR c (cI 0) (cI 9999) ∧ s.1 78 13 < cI 40
    · rw [if_pos z, bd2_some, if_pos (show bz (cI 1) = true by decide)]
    · rw [if_neg z, bd2_some, if_pos (show bz (cI 0) = true by decide)]
  have kA0 : fMoney_addsService s a c = if a = cI 1 ∨ a = cI 2 ∨ a = cI 4 then fMoney_addsService_h19 1048576 s a c (cI 0) else some (s, cI 0) := by
    unfold fMoney_addsService fMoney_addsService_b17
    generalize fMoney_addsService_h19 1048576 = H
    by_cases y1 : a = cI 1
    · rw [if_pos y1, if_pos (Or.inl y1)]
    · rw [if_neg y1]
      by_cases y2 : a = cI 2
      · rw [if_pos y2, if_pos (Or.inr (Or.inl y2))]
      · rw [if_neg y2]
        by_cases y3 : a = cI 4
        · rw [if_pos y3, if_pos (Or.inr (Or.inr y3))]
        · rw [if_neg y3, if_neg (fun u => by rcases u with u | u | u; exact y1 u; exact y2 u; exact y3 u)]
  have kA : ∀ s' v, (v = cI 0 ∨ v = cI 1) → fMoney_addsService s a c = some (s', v) → fMoney_adds_4 s (cI 86) = some (s', v) := by
    intro s' v hv e
    unfold fMoney_adds_4
    generalize fMoney_adds_4_h64 1048576 = H
    rw [if_pos rfl, ix_0, ix_1, ha, hc, e, bd2_some]
    rcases hv with hv | hv
    · rw [hv, if_pos (show bz (cI 0) = true by decide)]
    · rw [hv, if_pos (show bz (cI 1) = true by decide)]
  have iffM : ∀ q, q < ix (s.1 78 13) → ((t.1 637 q = cI 4 ∧ t.1 638 q = a) ↔ (s.1 97 q = cI (-1) ∧ s.1 98 q = a)) := by
    intro q hq
    rw [g2 q hq]
    rcases g1 q hq with ⟨w1, w2⟩ | ⟨w1, w2, w3⟩
    · rw [w1, w2]
      exact ⟨fun u => ⟨rfl, u.2⟩, fun u => ⟨rfl, u.2⟩⟩
    · rw [w1]
      constructor
      · intro u; rw [u.1] at w3; exact absurd w3 (by decide)
      · intro u; rw [u.1] at w2; exact absurd w2 (by decide)
  by_cases P : (InR c (cI 0) (cI 9999) ∧ s.1 78 13 < cI 40) ∧ (a = cI 1 ∨ a = cI 2 ∨ a = cI 4) ∧ (∀ q, q < ix (s.1 78 13) → ¬ (s.1 97 q = cI (-1) ∧ s.1 98 q = a))
  · obtain ⟨p1, p2, p4⟩ := P
    have l := gl_E (H := fun n k => fMoney_addsService_h19 n s a c k) (N := ix (s.1 78 13)) (mt := fun q => s.1 97 q = cI (-1) ∧ s.1 98 q = a) hS hE (ix (s.1 78 13)) 1048576 0 (by omega) (by omega) (fun q _ hq => p4 q hq)
    have ab : 0 ≤ a.toInt ∧ a.toInt ≤ 30000 := by rcases p2 with u | u | u <;> rw [u] <;> decide
    have ad := h.add (k := cI (-1)) (k' := cI 4) (l := a) (p := c) p1.2 (Or.inl ⟨rfl, rfl⟩) ab p1.1
    refine ⟨wrC s (cI (-1)) a c, wrM t (cI 4) a c, cI 1, kA _ _ (Or.inr rfl) ?_, ?_, Or.inr ⟨rfl, by rw [ad.2]; omega⟩, ad.1, wrC_fr, wrM_fr⟩
    · rw [kA0, if_pos p2]
      refine Eq.trans l ?_
      rw [if_pos p1]
    · refine r1 ⟨by rw [n1]; exact p1, p2, fun q hq => ?_⟩
      rw [n1] at hq
      rw [iffM q hq]
      exact p4 q hq
  · refine ⟨s, t, cI 0, kA _ _ (Or.inl rfl) ?_, ?_, Or.inl rfl, h, fr.rf, fr.rf⟩
    · rw [kA0]
      by_cases p23 : a = cI 1 ∨ a = cI 2 ∨ a = cI 4
      · rw [if_pos p23]
        by_cases p4 : ∀ q, q < ix (s.1 78 13) → ¬ (s.1 97 q = cI (-1) ∧ s.1 98 q = a)
        · refine Eq.trans (gl_E (H := fun n k => fMoney_addsService_h19 n s a c k) (N := ix (s.1 78 13)) (mt := fun q => s.1 97 q = cI (-1) ∧ s.1 98 q = a) hS hE (ix (s.1 78 13)) 1048576 0 (by omega) (by omega) (fun q _ hq => p4 q hq)) ?_
          rw [if_neg (fun u => P ⟨u, p23, p4⟩)]
        · refine gl_Z (H := fun n k => fMoney_addsService_h19 n s a c k) (N := ix (s.1 78 13)) (mt := fun q => s.1 97 q = cI (-1) ∧ s.1 98 q = a) hS (ix (s.1 78 13)) 1048576 0 (by omega) (by omega) ?_
          apply Classical.byContradiction
          intro u
          exact p4 (fun q hq w => u ⟨q, Nat.zero_le _, hq, w⟩)
      · rw [if_neg p23]
    · refine r2 (fun u => P ⟨by rw [← n1]; exact u.1, u.2.1, fun q hq => ?_⟩)
      rw [← iffM q hq]
      exact u.2.2 q (by rw [n1]; exact hq)
