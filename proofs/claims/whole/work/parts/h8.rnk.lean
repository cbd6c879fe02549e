/-! ===== LEVEL 3: the ranks of a sorting, class and reference ===== -/
/-- whether one place of the row comes before another -/
def rcn (P : Nat → Int32) (m q : Nat) : Int32 := if (P q).toInt < (P m).toInt ∨ ((P q).toInt = (P m).toInt ∧ q < m) then 1 else 0
theorem rk_idx {P : Nat → Int32} {S : List Nat} {N : Nat} (hp : S.Pairwise (rkL P)) (hm : ∀ q, q ∈ S ↔ q < N) {k : Nat} (hk : k < S.length) : cntE (rcn P S[k]) 1 N = k := by
  have pg := List.pairwise_iff_getElem.mp hp
  have nd : S.Nodup := hp.imp (fun q z => by rw [z] at q; unfold rkL at q; omega)
  have := cnt_list (f := rcn P S[k]) (x := 1) N (S.take k) (List.Nodup.sublist (List.take_sublist _ _) nd) (fun i => by
    constructor
    · intro h
      obtain ⟨j, hj, e⟩ := List.mem_iff_getElem.mp h
      rw [List.length_take] at hj
      rw [List.getElem_take] at e
      refine ⟨(hm i).mp (by rw [← e]; exact List.getElem_mem _), if_pos ?_⟩
      have := pg j k (by omega) hk (by omega)
      rw [e] at this
      exact this
    · rintro ⟨h1, h2⟩
      unfold rcn at h2
      by_cases z : (P i).toInt < (P S[k]).toInt ∨ ((P i).toInt = (P S[k]).toInt ∧ i < S[k])
      · obtain ⟨j, hj, e⟩ := List.mem_iff_getElem.mp ((hm i).mpr h1)
        have hjk : j < k := by
          apply Classical.byContradiction
          intro w
          by_cases w2 : j = k
          · subst w2; rw [e] at z; omega
          · have r := pg k j hk hj (by omega)
            rw [e] at r
            unfold rkL at r
            omega
        exact List.mem_iff_getElem.mpr ⟨j, by rw [List.length_take]; omega, by rw [List.getElem_take]; exact e⟩
      · rw [if_neg z] at h2
        exact absurd h2 (by decide))
  rw [← this, List.length_take]
  omega
theorem rk_wr {G : List Nat} (hG : G.Nodup) (h3 : ∀ x, x ∈ G → x < 300) : ∀ (r n k : Nat) (s : ev_M) (j : Int32), k + r = G.length → j.toInt = (k : Int) → r < n → (s.1 138 12).toInt = (G.length : Int) → (∀ q (h : q < G.length), s.1 175 q = cI ((G[q] : Nat) : Int)) → ∃ s', fRounds_rank_h84 n s 0 j = some s' ∧ (∀ i (h : i < G.length), k ≤ i → s'.1 177 G[i] = cI (i : Int)) ∧ (∀ x, (∀ i (h : i < G.length), k ≤ i → G[i] ≠ x) → s'.1 177 x = s.1 177 x) ∧ fr [(177, 177, 0)] s s'
  | 0, n, k, s, j, h0, h1, hn, h12, h5 => by
    obtain ⟨n, rfl⟩ : ∃ k, n = k + 1 := ⟨n - 1, by omega⟩
    have hj : ¬ j < s.1 138 12 := by rw [lt_i]; omega
    refine ⟨s, ?_, fun i h hk => absurd h (by omega), fun _ _ => rfl, fr.rf⟩
    rw [fRounds_rank_h84, if_neg hj]
  | r + 1, n, k, s, j, h0, h1, hn, h12, h5 => by
    obtain ⟨n, rfl⟩ : ∃ k, n = k + 1 := ⟨n - 1, by omega⟩
    have l300 := nodup_le hG h3
    have hj : j < s.1 138 12 := by rw [lt_i]; omega
    have hi : inb j 300 = true := inb_iff.mpr ⟨by omega, by omega⟩
    have ej : ix j = k := by rw [ix_toNat]; omega
    have jc : j = cI (k : Int) := by rw [eq_i, cI_toInt (by omega) (by omega)]; exact h1
    have et : (j + cI 1).toInt = ((k + 1 : Nat) : Int) := by rw [inc_i (by omega)]; omega
    have kl : k < G.length := by omega
    have x3 := h3 _ (List.getElem_mem kl)
    have hv := h5 k kl
    have hb : inb (cI ((G[k] : Nat) : Int)) 300 = true := inb_iff.mpr ⟨by rw [cI_toInt (by omega) (by omega)]; omega, by rw [cI_toInt (by omega) (by omega)]; omega⟩
    have xi : ix (cI ((G[k] : Nat) : Int)) = G[k] := ix_n _ (by omega)
    have w1 : fr [(177, 177, 0)] s (wI s 177 G[k] j) := fr.rf.wI rfl
    have pg := List.pairwise_iff_getElem.mp hG
    obtain ⟨s', y1, y2, y3, y4⟩ := rk_wr hG h3 r n (k + 1) (wI s 177 G[k] j) (j + cI 1) (by omega) et (by omega) (by rw [(w1.1 138 12 rfl).1]; exact h12) (fun q h => by rw [wI_ne (by decide)]; exact h5 q h)
    refine ⟨s', ?_, fun i h hk => ?_, fun x hx => ?_, w1.tr y4⟩
    · rw [fRounds_rank_h84, if_pos hj, if_pos hi, ej, hv, if_pos hb, xi, Nat.add_zero, ltM_eq]
      exact y1
    · by_cases z : i = k
      · subst z
        rw [y3 _ (fun i' h' hk' => fun w => pg i i' kl h' (by omega) w.symm), wI_c, up1_eq, jc]
      · exact y2 i h (by omega)
    · rw [y3 x (fun i h hk => hx i h (by omega)), wI_c, up1_ne (fun w => hx k kl (Nat.le_refl _) w.symm)]
section
variable {t : ev_M} {F : List Nat} {P : Nat → Int32}
theorem rf_in {k : Nat} {k162 : ev_M → Int32 → Option ev_M} (hF : ∀ x, x ∈ F → x < 300) (hl : F.length ≤ 300) (hk : k < F.length) (h1 : (t.1 549 166).toInt = (F.length : Int)) (h2 : ∀ q (h : q < F.length), t.1 668 q = cI ((F[q] : Nat) : Int)) (h3 : ∀ x, x ∈ F → inb (t.1 670 x) 120 = true) (h4 : ∀ q (h : q < F.length), t.1 572 (ix (t.1 670 F[q])) = P q) : ∀ (r n : Nat) (y j : Int32), 0 ≤ j.toInt → j.toInt + r = (F.length : Int) → y.toInt = cntE (rcn P k) 1 (ix j) → r < n → fM_findFed_h193 k162 n t (cI (k : Int)) (P k) y j = k162 (wI t 671 F[k] (cI (cntE (rcn P k) 1 F.length : Int))) (cI (k : Int) + cI 1)
  | 0, n, y, j, h0, hj, hy, hn => by
    obtain ⟨n, rfl⟩ : ∃ k, n = k + 1 := ⟨n - 1, by omega⟩
    have jn : ¬ j < t.1 549 166 := by rw [lt_i]; omega
    have ej : ix j = F.length := by rw [ix_toNat]; omega
    have bk : inb (cI (k : Int)) 300 = true := inb_iff.mpr ⟨by rw [cI_toInt (by omega) (by omega)]; omega, by rw [cI_toInt (by omega) (by omega)]; omega⟩
    have ik : ix (cI (k : Int)) = k := ix_n _ (by omega)
    have x3 := hF _ (List.getElem_mem hk)
    have bx : inb (cI ((F[k] : Nat) : Int)) 300 = true := inb_iff.mpr ⟨by rw [cI_toInt (by omega) (by omega)]; omega, by rw [cI_toInt (by omega) (by omega)]; omega⟩
    have ixx : ix (cI ((F[k] : Nat) : Int)) = F[k] := ix_n _ (by omega)
    have le := cntE_le (f := rcn P k) (x := 1) F.length
    have ey : y = cI (cntE (rcn P k) 1 F.length : Int) := by rw [eq_i, cI_toInt (by omega) (by omega), hy, ej]
    rw [fM_findFed_h193, if_neg jn, if_pos bk, ik, h2 k hk, if_pos bx, ixx, ltM_eq, ← ey]
  | r + 1, n, y, j, h0, hj, hy, hn => by
    obtain ⟨n, rfl⟩ : ∃ k, n = k + 1 := ⟨n - 1, by omega⟩
    have jn : j < t.1 549 166 := by rw [lt_i]; omega
    have jl : ix j < F.length := by rw [ix_toNat]; omega
    have hi : inb j 300 = true := inb_iff.mpr ⟨h0, by omega⟩
    have ei : ix (j + cI 1) = ix j + 1 := ix_inc h0 (by omega)
    have et : (j + cI 1).toInt = j.toInt + 1 := inc_i (by omega)
    have xm : F[ix j] ∈ F := List.getElem_mem jl
    have x3 := hF _ xm
    have bx : inb (cI ((F[ix j] : Nat) : Int)) 300 = true := inb_iff.mpr ⟨by rw [cI_toInt (by omega) (by omega)]; omega, by rw [cI_toInt (by omega) (by omega)]; omega⟩
    have ixx : ix (cI ((F[ix j] : Nat) : Int)) = F[ix j] := ix_n _ (by omega)
    have le := cntE_le (f := rcn P k) (x := 1) (ix j)
    have ih := fun y => rf_in (k162 := k162) hF hl hk h1 h2 h3 h4 r n y (j + cI 1) (by omega) (by omega)
    rw [ei] at ih
    simp only [cntE] at ih
    have jk : j < cI (k : Int) ↔ ix j < k := by rw [lt_i, cI_toInt (by omega) (by omega), ix_toNat]; omega
    have hd : fM_findFed_h193 k162 (n + 1) t (cI (k : Int)) (P k) y j = fM_findFed_h193 k162 n t (cI (k : Int)) (P k) (if rcn P k (ix j) = 1 then y + cI 1 else y) (j + cI 1) := by
      rw [fM_findFed_h193, if_pos jn, if_pos hi, h2 _ jl, if_pos bx, ixx, if_pos (h3 _ xm), ltI_eq, h4 _ jl]
      by_cases a1 : P (ix j) < P k
      · have c : rcn P k (ix j) = 1 := if_pos (Or.inl (lt_i.mp a1))
        rw [if_pos a1, if_pos c, fM_findFed_b239, fM_findFed_b248]
      · by_cases a2 : P (ix j) = P k
        · by_cases a3 : j < cI (k : Int)
          · have c : rcn P k (ix j) = 1 := if_pos (Or.inr ⟨by rw [a2], jk.mp a3⟩)
            rw [if_neg a1, if_pos a2, if_pos a3, if_pos c, fM_findFed_b239, fM_findFed_b248]
          · have c : ¬ rcn P k (ix j) = 1 := by
              unfold rcn
              rw [if_neg (fun z => z.elim (fun z => a1 (lt_i.mpr z)) (fun z => a3 (jk.mpr z.2)))]
              decide
            rw [if_neg a1, if_pos a2, if_neg a3, if_neg c, fM_findFed_b246, fM_findFed_b248]
        · have c : ¬ rcn P k (ix j) = 1 := by
            unfold rcn
            rw [if_neg (fun z => z.elim (fun z => a1 (lt_i.mpr z)) (fun z => a2 (by rw [eq_i]; exact z.1)))]
            decide
          rw [if_neg a1, if_neg a2, if_neg c, fM_findFed_b246, fM_findFed_b248]
    rw [hd]
    by_cases c : rcn P k (ix j) = 1
    · rw [if_pos c]
      refine ih _ ?_ (by omega)
      rw [inc_i (by omega), hy, if_pos c]
      omega
    · rw [if_neg c]
      refine ih _ ?_ (by omega)
      rw [hy, if_neg c]
      omega
end
theorem rf_lp {F : List Nat} {P : Nat → Int32} (hn : F.Nodup) (hF : ∀ x, x ∈ F → x < 300) : ∀ (r n k : Nat) (t : ev_M) (j : Int32), k + r = F.length → j.toInt = (k : Int) → r < n → (t.1 549 166).toInt = (F.length : Int) → (∀ q (h : q < F.length), t.1 668 q = cI ((F[q] : Nat) : Int)) → (∀ x, x ∈ F → inb (t.1 670 x) 120 = true) → (∀ q (h : q < F.length), t.1 572 (ix (t.1 670 F[q])) = P q) → ∃ t', fM_findFed_h162 n t j = some t' ∧ (∀ q (h : q < F.length), k ≤ q → t'.1 671 F[q] = cI (cntE (rcn P q) 1 F.length : Int)) ∧ (∀ x, (∀ q (h : q < F.length), k ≤ q → F[q] ≠ x) → t'.1 671 x = t.1 671 x) ∧ fr [(671, 671, 0)] t t'
  | 0, n, k, t, j, h0, hj, hn', h1, h2, h3, h4 => by
    obtain ⟨n, rfl⟩ : ∃ k, n = k + 1 := ⟨n - 1, by omega⟩
    have jn : ¬ j < t.1 549 166 := by rw [lt_i]; omega
    refine ⟨t, ?_, fun q h hk => absurd h (by omega), fun _ _ => rfl, fr.rf⟩
    rw [fM_findFed_h162, if_neg jn]
  | r + 1, n, k, t, j, h0, hj, hn', h1, h2, h3, h4 => by
    obtain ⟨n, rfl⟩ : ∃ k, n = k + 1 := ⟨n - 1, by omega⟩
    have l300 := nodup_le hn hF
    have jn : j < t.1 549 166 := by rw [lt_i]; omega
    have hi : inb j 300 = true := inb_iff.mpr ⟨by omega, by omega⟩
    have ej : ix j = k := by rw [ix_toNat]; omega
    have jc : j = cI (k : Int) := by rw [eq_i, cI_toInt (by omega) (by omega)]; exact hj
    have et : (j + cI 1).toInt = ((k + 1 : Nat) : Int) := by rw [inc_i (by omega)]; omega
    have kl : k < F.length := by omega
    have xm : F[k] ∈ F := List.getElem_mem kl
    have x3 := hF _ xm
    have bx : inb (cI ((F[k] : Nat) : Int)) 300 = true := inb_iff.mpr ⟨by rw [cI_toInt (by omega) (by omega)]; omega, by rw [cI_toInt (by omega) (by omega)]; omega⟩
    have ixx : ix (cI ((F[k] : Nat) : Int)) = F[k] := ix_n _ (by omega)
    have w1 : fr [(671, 671, 0)] t (wI t 671 F[k] (cI (cntE (rcn P k) 1 F.length : Int))) := fr.rf.wI rfl
    have pg := List.pairwise_iff_getElem.mp hn
    have qi := rf_in (t := t) (F := F) (P := P) (k := k) (k162 := fM_findFed_h162 n) hF l300 kl h1 h2 h3 h4 F.length 1048576 (cI 0) (cI 0) (by decide) (by rw [show (cI 0).toInt = 0 from rfl]; omega) rfl (by omega)
    obtain ⟨t', y1, y2, y3, y4⟩ := rf_lp (P := P) hn hF r n (k + 1) (wI t 671 F[k] (cI (cntE (rcn P k) 1 F.length : Int))) (j + cI 1) (by omega) et (by omega) (by rw [(w1.1 549 166 rfl).1]; exact h1) (fun q h => by rw [wI_ne (by decide)]; exact h2 q h) (fun x hx => by rw [wI_ne (by decide)]; exact h3 x hx) (fun q h => by rw [wI_ne (by decide), wI_ne (by decide)]; exact h4 q h)
    refine ⟨t', ?_, fun q h hk => ?_, fun x hx => ?_, w1.tr y4⟩
    · rw [fM_findFed_h162, if_pos jn, if_pos hi, ej, h2 k kl, if_pos bx, ixx, if_pos (h3 _ xm), ltI_eq, h4 k kl, jc, qi, ← jc]
      exact y1
    · by_cases z : q = k
      · subst z
        rw [y3 _ (fun q' h' hk' => fun w => pg _ q' h h' (by omega) w.symm), wI_c, up1_eq]
      · exact y2 q h (by omega)
    · rw [y3 x (fun q h hk => hx q h (by omega)), wI_c, up1_ne (fun w => hx k kl (Nat.le_refl _) w.symm)]
