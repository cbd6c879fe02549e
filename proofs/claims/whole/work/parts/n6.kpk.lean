/-! ===== LEVEL 3: the sheet: both keep the same lines ===== -/
theorem keep_ok {w h n : Nat} {g : Nat → Nat} {S : List Nat} {s0 t : ev_M} (H : Lc w h n g s0 t) (Sy : Sym s0 t) (h61 : ∀ q, q < n → s0.1 61 q = cI (gF S q : Int)) (hin : ∀ q, q < n → gF S q < n) (hps : ∀ q, q < n → pos n s0 (gF S q) = q) (hpl : ∀ a, a < n → pos n s0 a < n) : ∃ (K : Nat) (s' : ev_M), fSheet_keepLines s0 = some s' ∧ Ks n g S s0 s' (Ff g n K) K ∧ (rkN g K = 10 ∨ ∀ j, K ≤ j → j < n → ¬ g j = j) := by
  have r3 := H.2.2.1.2.2.1
  have f1 : fr FkbC s0 (wI s0 52 13 (cI 0)) := fr.rf.wI rfl
  obtain ⟨K, s', a1, a2, a3⟩ := kp_lp H Sy h61 hin hps hpl n 1048576 0 (wI s0 52 13 (cI 0)) 0 (by omega) (by omega) ⟨f1, by simp (disch := decide) only [ix_0, ix_1, ix_2, ix_3, ix_4, ix_5, ix_6, ix_7, ix_8, ix_9, ix_10, ix_11, ix_12, ix_13, ix_14, ix_15, ix_16, ix_17, ix_18, ix_19, ix_20, ix_21, Nat.reduceAdd, wI_c, wI_ne, wL_1, lupd_ne, up1_eq, up1_ne]; rfl, by simp only [rkN]; omega, Nat.zero_le _, fun q hq => absurd hq (Nat.not_lt_zero _), fun r hr => absurd hr (Nat.not_lt_zero _)⟩ (Or.inl ⟨rfl, rfl⟩)
  refine ⟨K, s', ?_, a2, a3⟩
  unfold fSheet_keepLines
  rw [ltM_eq]
  exact a1
/-- ten lines, or all: either way the same -/
theorem same_K {g : Nat → Nat} {n K K' : Nat} (hg : ∀ p, p < n → g p ≤ p ∧ g (g p) = g p) (h1 : rkN g K ≤ 10) (h2 : rkN g K' ≤ 10) (k1 : rkN g K = 10 ∨ ∀ j, K ≤ j → j < n → ¬ g j = j) (k2 : rkN g K' = 10 ∨ ∀ j, K' ≤ j → j < n → ¬ g j = j) : (∀ r, r < n → g r = r → (r < K ↔ r < K')) ∧ ∀ a, a < n → (g a < K ↔ g a < K') := by
  have one : ∀ K K', rkN g K ≤ 10 → (rkN g K' = 10 ∨ ∀ j, K' ≤ j → j < n → ¬ g j = j) → ∀ r, r < n → g r = r → r < K → r < K' := by
    intro K K' h1 k2 r hr gr hK
    apply Classical.byContradiction
    intro u
    rcases k2 with v | v
    · have e1 := rkN_lt hK gr
      have e2 := rkN_mo (g := g) (i := K') r (by omega)
      omega
    · exact v r (by omega) hr gr
  have r := fun r hr gr => (⟨one K K' h1 k2 r hr gr, one K' K h2 k1 r hr gr⟩ : r < K ↔ r < K')
  exact ⟨r, fun a ha => r (g a) (by have := (hg a ha).1; omega) (hg a ha).2⟩
theorem same_F {g : Nat → Nat} {K K' : Nat} : ∀ k, (∀ a, a < k → (g a < K ↔ g a < K')) → cntE (blw g K) 1 k = cntE (blw g K') 1 k
  | 0, _ => rfl
  | k + 1, h => by
    have e : blw g K k = blw g K' k := by
      unfold blw
      by_cases z : g k < K
      · rw [if_pos z, if_pos ((h k (by omega)).mp z)]
      · rw [if_neg z, if_neg (fun u => z ((h k (by omega)).mpr u))]
    rw [cntE_s, cntE_s, same_F k (fun a ha => h a (by omega)), e]
theorem same_rk {g : Nat → Nat} {K K' : Nat} (h : K ≤ K') (hr : ∀ j, K ≤ j → j < K' → ¬ g j = j) : rkN g K' = rkN g K := rk_gap K' h hr
/-- the reference's threshold may be taken for the class's -/
theorem Fl.to {n K K' : Nat} {g : Nat → Nat} {s t : ev_M} (F : Fl n K' g s t) (hK : K ≤ n) (hK' : K' ≤ n) (hr : ∀ r, r < n → g r = r → (r < K ↔ r < K')) (ha : ∀ a, a < n → (g a < K ↔ g a < K')) : Fl n K g s t := by
  have er : rkN g K = rkN g K' := by
    rcases Nat.le_total K K' with v | v
    · exact (same_rk v fun j h1 h2 h3 => by have := (hr j (by omega) h3).mpr h2; omega).symm
    · exact same_rk v fun j h1 h2 h3 => by have := (hr j (by omega) h3).mp h2; omega
  have eF := same_F (g := g) (K := K) (K' := K') n ha
  obtain ⟨f1, f2, f3, f4, f5⟩ := F
  refine ⟨by rw [er]; exact f1, by rw [er]; exact f2, by rw [er, eF]; exact f3, fun r h1 h2 h3 => f4 r ((hr r h2 h3).mp h1) h2 h3, fun a h1 h2 => f5 a h1 ((ha a h1).mp h2)⟩
