/-! ===== LEVEL 3: the sorting machine: a pass, its bins laid together ===== -/
/-- the items of the first n bins, bin by bin -/
def clB (F : List Nat) (β : Nat → Int32) : Nat → List Nat
  | 0 => []
  | n + 1 => clB F β n ++ F.filter (fun x => decide (β x = cI (n : Int)))
theorem clB_mem {F : List Nat} {β : Nat → Int32} {x : Nat} : ∀ n, x ∈ clB F β n ↔ x ∈ F ∧ ∃ m, m < n ∧ β x = cI (m : Int)
  | 0 => by
    constructor
    · intro h; cases h
    · rintro ⟨-, m, h, -⟩; exact absurd h (Nat.not_lt_zero _)
  | n + 1 => by
    simp only [clB, List.mem_append, clB_mem n, List.mem_filter, decide_eq_true_iff]
    constructor
    · rintro (⟨h, m, h1, h2⟩ | ⟨h, h2⟩)
      · exact ⟨h, m, by omega, h2⟩
      · exact ⟨h, n, by omega, h2⟩
    · rintro ⟨h, m, h1, h2⟩
      by_cases z : m = n
      · exact Or.inr ⟨h, z ▸ h2⟩
      · exact Or.inl ⟨h, m, by omega, h2⟩
theorem clB_nodup {F : List Nat} {β : Nat → Int32} (hF : F.Nodup) : ∀ n, n < 2147483648 → (clB F β n).Nodup
  | 0, _ => List.nodup_nil
  | n + 1, hn => by
    simp only [clB]
    refine List.nodup_append.mpr ⟨clB_nodup hF n (by omega), hF.filter _, fun a ha b hb e => ?_⟩
    obtain ⟨-, m, h1, h2⟩ := (clB_mem n).mp ha
    have h3 := (List.mem_filter.mp hb).2
    rw [decide_eq_true_iff, ← e, h2] at h3
    have h4 := congrArg Int32.toInt h3
    rw [cI_toInt (by omega) (by omega), cI_toInt (by omega) (by omega)] at h4
    omega
theorem len_same {l l' : List Nat} (h : l.Nodup) (h' : l'.Nodup) (e : ∀ x, x ∈ l' ↔ x ∈ l) : l'.length = l.length :=
  List.Perm.length_eq ((List.perm_ext_iff_of_nodup h' h).mpr e)
/-- the row laid together so far, class and reference -/
def RCl (D : List Nat) (s t : ev_M) : Prop := ∀ q (h : q < D.length), s.1 175 q = cI ((D[q] : Nat) : Int) ∧ t.1 669 q = cI ((D[q] : Nat) : Int)
theorem RCl.snoc {D : List Nat} {s t : ev_M} {x : Nat} (h : RCl D s t) : RCl (D ++ [x]) (wI s 175 D.length (cI (x : Int))) (wI t 669 D.length (cI (x : Int))) := fun q hq => by
  rw [wI_c, wI_c]
  by_cases z : q = D.length
  · subst z
    rw [up1_eq, up1_eq]
    simp
  · have hq2 : q < D.length := by simp at hq; omega
    rw [up1_ne z, up1_ne z, List.getElem_append_left hq2]
    exact h q hq2
theorem col_in {F D : List Nat} {β : Nat → Int32} {b bin : Int32} {kC : ev_M → Int32 → Int32 → Int32 → Option ev_M} {kM : ev_M → Int32 → Int32 → Option ev_M} (hl : (D ++ F.filter (fun x => decide (β x = bin))).length ≤ 300) : ∀ (r n n' k : Nat) (s t : ev_M) (kept j : Int32), k + r = F.length → j.toInt = (k : Int) → r < n → r < n' → RFd F s t → (∀ q (h : q < F.length), s.1 178 F[q] = β F[q] ∧ t.1 672 q = β F[q]) → RCl (D ++ (F.take k).filter (fun x => decide (β x = bin))) s t → kept.toInt = ((D ++ (F.take k).filter (fun x => decide (β x = bin))).length : Int) → ∃ s' t' kept', fRounds_feedPass_h138 kC n s b kept bin j = kC s' b kept' (bin + cI 1) ∧ fM_pass_h132 kM n' t kept bin j = kM t' kept' (bin + cI 1) ∧ RCl (D ++ F.filter (fun x => decide (β x = bin))) s' t' ∧ kept'.toInt = ((D ++ F.filter (fun x => decide (β x = bin))).length : Int) ∧ fr [(175, 175, 0)] s s' ∧ fr [(669, 669, 0)] t t'
  | 0, n, n', k, s, t, kept, j, h0, h1, hn, hn', hF, hb, hc, hk => by
    obtain ⟨n, rfl⟩ : ∃ k, n = k + 1 := ⟨n - 1, by omega⟩
    obtain ⟨n', rfl⟩ : ∃ k, n' = k + 1 := ⟨n' - 1, by omega⟩
    obtain ⟨-, -, f3, f4, -⟩ := id hF
    have hj : ¬ j < s.1 138 12 := by rw [lt_i]; omega
    have ek : F.take k = F := List.take_of_length_le (by omega)
    rw [ek] at hc hk
    refine ⟨s, t, kept, ?_, ?_, hc, hk, fr.rf, fr.rf⟩
    · rw [fRounds_feedPass_h138, if_neg hj]
    · rw [fM_pass_h132, f4, if_neg hj]
  | r + 1, n, n', k, s, t, kept, j, h0, h1, hn, hn', hF, hb, hc, hk => by
    obtain ⟨n, rfl⟩ : ∃ k, n = k + 1 := ⟨n - 1, by omega⟩
    obtain ⟨n', rfl⟩ : ∃ k, n' = k + 1 := ⟨n' - 1, by omega⟩
    have l300 := hF.len
    obtain ⟨f1, f2, f3, f4, f5, f6, f7⟩ := id hF
    have hj : j < s.1 138 12 := by rw [lt_i]; omega
    have hi : inb j 300 = true := inb_iff.mpr ⟨by omega, by omega⟩
    have et : (j + cI 1).toInt = ((k + 1 : Nat) : Int) := by rw [inc_i (by omega)]; omega
    have ej : ix j = k := by rw [ix_toNat]; omega
    have kl : k < F.length := by omega
    obtain ⟨e1, e2⟩ := f5 k kl
    have x3 := f2 _ (List.getElem_mem kl)
    have hx : inb (cI ((F[k] : Nat) : Int)) 300 = true := inb_iff.mpr ⟨by rw [cI_toInt (by omega) (by omega)]; omega, by rw [cI_toInt (by omega) (by omega)]; omega⟩
    have xi : ix (cI ((F[k] : Nat) : Int)) = F[k] := ix_n _ (by omega)
    obtain ⟨b1, b2⟩ := hb k kl
    have tk : F.take (k + 1) = F.take k ++ [F[k]] := (List.take_append_getElem kl).symm
    by_cases z : β F[k] = bin
    · have ft : (F.take (k + 1)).filter (fun x => decide (β x = bin)) = (F.take k).filter (fun x => decide (β x = bin)) ++ [F[k]] := by
        rw [tk, List.filter_append]
        simp [z]
      have le : (D ++ (F.take (k + 1)).filter (fun x => decide (β x = bin))).length ≤ 300 := by
        have : ((F.take (k + 1)).filter (fun x => decide (β x = bin))).length ≤ (F.filter (fun x => decide (β x = bin))).length := ((List.take_sublist (k + 1) F).filter _).length_le
        rw [List.length_append] at hl ⊢
        omega
      rw [ft, ← List.append_assoc, List.length_append, List.length_singleton] at le
      have ekp : ix kept = (D ++ (F.take k).filter (fun x => decide (β x = bin))).length := by rw [ix_toNat]; omega
      have hkp : inb kept 300 = true := inb_iff.mpr ⟨by omega, by omega⟩
      have w1 : fr [(175, 175, 0)] s (wI s 175 (ix kept) (cI ((F[k] : Nat) : Int))) := fr.rf.wI rfl
      have w2 : fr [(669, 669, 0)] t (wI t 669 (ix kept) (cI ((F[k] : Nat) : Int))) := fr.rf.wI rfl
      obtain ⟨s', t', kept', y1, y2, y3, y4, y5, y6⟩ := col_in (b := b) (kC := kC) (kM := kM) hl r n n' (k + 1) (wI s 175 (ix kept) (cI ((F[k] : Nat) : Int))) (wI t 669 (ix kept) (cI ((F[k] : Nat) : Int))) (kept + cI 1) (j + cI 1) (by omega) et (by omega) (by omega) (hF.keep w1 w2 rfl rfl) (fun q h => by rw [wI_ne (by decide), wI_ne (by decide)]; exact hb q h) (by
        rw [ft, ← List.append_assoc, ekp]
        exact hc.snoc) (by
        rw [ft, ← List.append_assoc, List.length_append, List.length_singleton, inc_i (by omega), hk]
        omega)
      refine ⟨s', t', kept', ?_, ?_, y3, y4, w1.tr y5, w2.tr y6⟩
      · rw [fRounds_feedPass_h138]
        simp only [if_pos hj, hi, if_true, ej, e1, hx, ix_1, Nat.reduceAdd, xi, b1, eq_true z, hkp, ltM_eq, fRounds_feedPass_b182]
        exact y1
      · rw [fM_pass_h132]
        simp only [f4, if_pos hj, hi, if_true, ej, b2, eq_true z, hkp, e2, ltM_eq, fM_pass_b168]
        exact y2
    · have ft : (F.take (k + 1)).filter (fun x => decide (β x = bin)) = (F.take k).filter (fun x => decide (β x = bin)) := by
        rw [tk, List.filter_append]
        simp [z]
      obtain ⟨s', t', kept', y1, y2, y3, y4, y5, y6⟩ := col_in (b := b) (kC := kC) (kM := kM) hl r n n' (k + 1) s t kept (j + cI 1) (by omega) et (by omega) (by omega) hF hb (by rw [ft]; exact hc) (by rw [ft]; exact hk)
      refine ⟨s', t', kept', ?_, ?_, y3, y4, y5, y6⟩
      · rw [fRounds_feedPass_h138]
        simp only [if_pos hj, hi, if_true, ej, e1, hx, ix_1, Nat.reduceAdd, xi, b1, eq_false z, if_false, fRounds_feedPass_b182]
        exact y1
      · rw [fM_pass_h132]
        simp only [f4, if_pos hj, hi, if_true, ej, b2, eq_false z, if_false, fM_pass_b168]
        exact y2
/-- the reference's copy of the row -/
theorem cpy_lp : ∀ (r n : Nat) (t : ev_M) (j : Int32), 0 ≤ j.toInt → j.toInt + r = (t.1 549 166).toInt → (t.1 549 166).toInt ≤ 300 → r < n → ∃ t', fM_pass_h182 n t j = some t' ∧ (∀ q, ix j ≤ q → q < ix (t.1 549 166) → t'.1 668 q = t.1 669 q) ∧ (∀ q, q < ix j → t'.1 668 q = t.1 668 q) ∧ fr [(668, 668, 0)] t t'
  | 0, n, t, j, h0, h1, h2, hn => by
    obtain ⟨n, rfl⟩ : ∃ k, n = k + 1 := ⟨n - 1, by omega⟩
    have hj : ¬ j < t.1 549 166 := by rw [lt_i]; omega
    refine ⟨t, ?_, fun q a b => ?_, fun _ _ => rfl, fr.rf⟩
    · rw [fM_pass_h182, if_neg hj]
    · rw [ix_toNat] at a b; omega
  | r + 1, n, t, j, h0, h1, h2, hn => by
    obtain ⟨n, rfl⟩ : ∃ k, n = k + 1 := ⟨n - 1, by omega⟩
    have hj : j < t.1 549 166 := by rw [lt_i]; omega
    have hi : inb j 300 = true := inb_iff.mpr ⟨h0, by omega⟩
    have ei : ix (j + cI 1) = ix j + 1 := ix_inc h0 (by omega)
    have et : (j + cI 1).toInt = j.toInt + 1 := inc_i (by omega)
    have f1 : fr [(668, 668, 0)] t (wI t 668 (ix j) (t.1 669 (ix j))) := fr.rf.wI rfl
    have w166 : (wI t 668 (ix j) (t.1 669 (ix j))).1 549 166 = t.1 549 166 := (f1.1 549 166 rfl).1
    have w669 : (wI t 668 (ix j) (t.1 669 (ix j))).1 669 = t.1 669 := wI_ne (by decide)
    obtain ⟨t', y1, y2, y3, y4⟩ := cpy_lp r n (wI t 668 (ix j) (t.1 669 (ix j))) (j + cI 1) (by omega) (by rw [w166]; omega) (by rw [w166]; exact h2) (by omega)
    rw [ei, w166, w669] at y2
    rw [ei] at y3
    refine ⟨t', ?_, fun q a b => ?_, fun q a => ?_, f1.tr y4⟩
    · rw [fM_pass_h182, if_pos hj, if_pos hi, if_pos hi, ltM_eq]
      exact y1
    · by_cases z : q = ix j
      · rw [y3 q (by omega), wI_c, z, up1_eq]
      · exact y2 q (by omega) b
    · rw [y3 q (by omega), wI_c, up1_ne (by omega)]
