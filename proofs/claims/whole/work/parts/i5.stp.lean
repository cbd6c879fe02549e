/-! ===== LEVEL 3: a row of stops is sorted ===== -/
theorem inF_st {i k : Nat} (h : i < 12) : inF [(146, 157, 0)] (146 + i) k = true := by
  have : ∀ i, i < 12 → ∀ k, inF [(146, 157, 0)] (146 + i) k = true := by
    intro i hi k
    simp only [inF, List.any_cons, List.any_nil, Bool.or_false]
    have a : Nat.ble 146 (146 + i) = true := Nat.ble_eq.mpr (by omega)
    have b : Nat.ble (146 + i) 157 = true := Nat.ble_eq.mpr (by omega)
    simp [a, b]
  exact this i h k
theorem stp_in {x i : Nat} {L : List Nat} {x1 x2 x4 : Int32} {kk : ev_M → Int32 → Int32 → Nat → Int32 → Option (ev_M × Int32)} (hi : i < 12) (hL : L.length < 20) (hx : x < 300) (hb : ∀ y, y ∈ L → y < 300) : ∀ (p n : Nat) (s : ev_M) (j : Int32), j.toInt = (p : Int) → p ≤ L.length → p < n → Shf (s.1 (146 + i)) L p → (∀ q (h : q < L.length), p ≤ q → x < L[q]) → ∃ p' s', p' ≤ L.length ∧ fRounds_arrangeStops_h59 kk n s x1 x2 i x4 (cI (x : Int)) j = kk s' x1 x2 i (x4 + cI 1) ∧ (∀ q (h : q < (insP L p' x).length), s'.1 (146 + i) q = cI (((insP L p' x)[q] : Nat) : Int)) ∧ (∀ q (h : q < L.length), p' ≤ q → x < L[q]) ∧ (∀ (h : 0 < p') (h2 : p' - 1 < L.length), L[p' - 1] ≤ x) ∧ (∀ q, L.length < q → s'.1 (146 + i) q = s.1 (146 + i) q) ∧ (∀ c, c ≠ 146 + i → s'.1 c = s.1 c) ∧ fr [(146, 157, 0)] s s'
  | 0, n, s, j, hj, hp, hn, hs, hg => by
    obtain ⟨n, rfl⟩ : ∃ k, n = k + 1 := ⟨n - 1, by omega⟩
    have j0 : j ≤ 0 := by rw [le_i, i32_0]; omega
    have i0 : inb j 20 = true := inb_iff.mpr ⟨by omega, by omega⟩
    have ej : ix j = 0 := by rw [ix_toNat]; omega
    refine ⟨0, wI s (146 + i) 0 (cI (x : Int)), Nat.zero_le _, ?_, ?_, hg, fun h => absurd h (Nat.lt_irrefl _), fun q hq => by rw [wI_c, up1_ne (by omega)], fun c hc => wI_ne hc, fr.rf.wI (inF_st hi)⟩
    · rw [fRounds_arrangeStops_h59, if_pos j0, fRounds_arrangeStops_b91, if_pos i0, ltM_eq, ej]
    · rw [wI_c]; exact hs.ins hp
  | p + 1, n, s, j, hj, hp, hn, hs, hg => by
    obtain ⟨n, rfl⟩ : ∃ k, n = k + 1 := ⟨n - 1, by omega⟩
    have j0 : ¬ j ≤ 0 := by rw [le_i, i32_0]; omega
    have i0 : inb j 20 = true := inb_iff.mpr ⟨by omega, by omega⟩
    have ej : ix j = p + 1 := by rw [ix_toNat]; omega
    have j1 : (j - cI 1).toInt = (p : Int) := by rw [sub_toInt (by rw [show (cI 1).toInt = 1 from rfl]; omega) (by rw [show (cI 1).toInt = 1 from rfl]; omega), show (cI 1).toInt = 1 from rfl]; omega
    have jm : (j + cI (-1)).toInt = (p : Int) := by rw [add_toInt (by rw [show (cI (-1)).toInt = -1 from rfl]; omega) (by rw [show (cI (-1)).toInt = -1 from rfl]; omega), show (cI (-1)).toInt = -1 from rfl]; omega
    have e1 : ix (j - cI 1) = p := by rw [ix_toNat, j1]; omega
    have i1 : inb (j - cI 1) 20 = true := inb_iff.mpr ⟨by omega, by omega⟩
    have pl : p < L.length := by omega
    have hv := hs.at pl
    have hb1 := hb _ (List.getElem_mem pl)
    by_cases z : L[p] ≤ x
    · have z2 : s.1 (146 + i) p ≤ cI (x : Int) := by rw [hv, le_i, cI_toInt (by omega) (by omega), cI_toInt (by omega) (by omega)]; omega
      refine ⟨p + 1, wI s (146 + i) (p + 1) (cI (x : Int)), hp, ?_, ?_, hg, fun _ _ => z, fun q hq => by rw [wI_c, up1_ne (by omega)], fun c hc => wI_ne hc, fr.rf.wI (inF_st hi)⟩
      · rw [fRounds_arrangeStops_h59, if_neg j0, if_pos i1, e1, if_pos z2, fRounds_arrangeStops_b91, if_pos i0, ltM_eq, ej]
      · rw [wI_c]; exact hs.ins hp
    · have z2 : ¬ s.1 (146 + i) p ≤ cI (x : Int) := by rw [hv, le_i, cI_toInt (by omega) (by omega), cI_toInt (by omega) (by omega)]; omega
      obtain ⟨p', s', q1, q2, q3, q4, q5, q7, q8, q6⟩ := stp_in (x1 := x1) (x2 := x2) (x4 := x4) (kk := kk) hi hL hx hb p n (wI s (146 + i) (p + 1) (s.1 (146 + i) p)) (j + cI (-1)) jm (by omega) (by omega) (by rw [wI_c]; exact hs.step pl) (fun q h hq => by
        by_cases w : q = p
        · subst w; omega
        · exact hg q h (by omega))
      refine ⟨p', s', q1, ?_, q3, q4, q5, fun q hq => by rw [q7 q hq, wI_c, up1_ne (by omega)], fun c hc => by rw [q8 c hc, wI_ne hc], (fr.rf.wI (inF_st hi)).tr q6⟩
      rw [fRounds_arrangeStops_h59, if_neg j0, if_pos i1, e1, if_neg z2, if_pos i1, if_pos i0, ltM_eq, ej]
      exact q2
