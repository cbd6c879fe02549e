/-! ===== LEVEL 3: the sorting machine: a whole pass ===== -/
theorem clB_le {F : List Nat} {β : Nat → Int32} (hF : F.Nodup) {n : Nat} (hn : n < 2147483648) (h3 : ∀ x, x ∈ F → x < 300) : (clB F β n).length ≤ 300 :=
  nodup_le (clB_nodup hF n hn) (fun x hx => h3 x ((clB_mem n).mp hx).1)
theorem col_out {F : List Nat} {β : Nat → Int32} {b : Int32} (hb0 : 0 ≤ b.toInt) (hb16 : b.toInt ≤ 16) : ∀ (r n n' m : Nat) (s t : ev_M) (kept x4 : Int32), m + r = ix b + 1 → x4.toInt = (m : Int) → r < n → r < n' → t.1 549 83 = b → RFd F s t → (∀ q (h : q < F.length), s.1 178 F[q] = β F[q] ∧ t.1 672 q = β F[q]) → RCl (clB F β m) s t → kept.toInt = ((clB F β m).length : Int) → ∃ s' t', fRounds_feedPass_h129 n s b kept x4 = (bd1 (fACP s' 300 300 175 174 (cI 0) (cI 0) (s'.1 138 12)) fun s2 => some s2) ∧ fM_pass_h121 n' t kept x4 = fM_pass_h182 1048576 t' (cI 0) ∧ RCl (clB F β (ix b + 1)) s' t' ∧ fr [(175, 175, 0)] s s' ∧ fr [(669, 669, 0)] t t'
  | 0, n, n', m, s, t, kept, x4, h0, h1, hn, hn', hm, hF, hb, hc, hk => by
    obtain ⟨n, rfl⟩ : ∃ k, n = k + 1 := ⟨n - 1, by omega⟩
    obtain ⟨n', rfl⟩ : ∃ k, n' = k + 1 := ⟨n' - 1, by omega⟩
    have eb : ix b = b.toInt.toNat := ix_toNat b
    have hj : ¬ x4 ≤ b := by rw [le_i]; omega
    have em : m = ix b + 1 := by omega
    rw [em] at hc
    refine ⟨s, t, ?_, ?_, hc, fr.rf, fr.rf⟩
    · rw [fRounds_feedPass_h129, if_neg hj]
    · rw [fM_pass_h121, hm, if_neg hj]
  | r + 1, n, n', m, s, t, kept, x4, h0, h1, hn, hn', hm, hF, hb, hc, hk => by
    obtain ⟨n, rfl⟩ : ∃ k, n = k + 1 := ⟨n - 1, by omega⟩
    obtain ⟨n', rfl⟩ : ∃ k, n' = k + 1 := ⟨n' - 1, by omega⟩
    have eb : ix b = b.toInt.toNat := ix_toNat b
    have l300 := hF.len
    have hj : x4 ≤ b := by rw [le_i]; omega
    have ex : x4 = cI (m : Int) := by rw [eq_i, cI_toInt (by omega) (by omega)]; exact h1
    have et : (x4 + cI 1).toInt = ((m + 1 : Nat) : Int) := by rw [inc_i (by omega)]; omega
    have le := clB_le (β := β) hF.1 (n := m + 1) (by omega) hF.2.1
    obtain ⟨s1, t1, k1, y1, y2, y3, y4, y5, y6⟩ := col_in (F := F) (D := clB F β m) (β := β) (b := b) (bin := x4) (kC := fRounds_feedPass_h129 n) (kM := fM_pass_h121 n') (by rw [ex]; exact le) F.length 1048576 1048576 0 s t kept (cI 0) (by omega) (by decide) (by omega) (by omega) hF hb (by rw [List.take_zero]; simp only [List.filter_nil, List.append_nil]; exact hc) (by rw [List.take_zero]; simp only [List.filter_nil, List.append_nil]; exact hk)
    have e1 : clB F β (m + 1) = clB F β m ++ F.filter (fun x => decide (β x = x4)) := by rw [ex]; rfl
    rw [← e1] at y3 y4
    obtain ⟨s', t', z1, z2, z3, z4, z5⟩ := col_out (F := F) (β := β) hb0 hb16 r n n' (m + 1) s1 t1 k1 (x4 + cI 1) (by omega) et (by omega) (by omega) (by rw [(y6.1 549 83 rfl).1]; exact hm) (hF.keep y5 y6 rfl rfl) (fun q h => by rw [(nof_c y5 (L := [(178, 0)]) rfl (c := 178) rfl).1, (nof_c y6 (L := [(672, 0)]) rfl (c := 672) rfl).1]; exact hb q h) y3 y4
    refine ⟨s', t', ?_, ?_, z3, y5.tr z4, y6.tr z5⟩
    · rw [fRounds_feedPass_h129, if_pos hj, y1]
      exact z1
    · rw [fM_pass_h121, hm, if_pos hj, y2]
      exact z2
def FpsC : List (Nat × (Nat × Nat)) := [(174, 174, 0), (175, 175, 0), (178, 178, 0), (179, 179, 0), (180, 180, 0), (181, 181, 0)]
def FpsM : List (Nat × (Nat × Nat)) := [(668, 668, 0), (669, 669, 0), (672, 672, 0), (610, 610, 0), (673, 673, 0), (674, 674, 0)]
/-- a pass of the machine, class and reference -/
theorem pass_ok {F : List Nat} {s t : ev_M} {d : Int32} (hF : RFd F s t) (hM : RMch s t) (hd : 1 ≤ d.toInt) : ∃ F' s' t', fRounds_feedPass s d = some s' ∧ fM_pass t d = some t' ∧ RFd F' s' t' ∧ (∀ x, x ∈ F' ↔ x ∈ F) ∧ fr FpsC s s' ∧ fr FpsM t t' := by
  obtain ⟨⟨m1, m2, m3⟩, -⟩ := id hM
  have l300 := hF.len
  have d0 : ¬ d = 0 := fun z => by rw [z] at hd; exact absurd hd (by decide)
  have d1 : ¬ d < cI 1 := by rw [lt_i, show (cI 1).toInt = 1 from rfl]; omega
  have b2 : ¬ s.1 172 0 < cI 2 := by rw [lt_i, show (cI 2).toInt = 2 from rfl]; omega
  have eb : ix (s.1 172 0) = (s.1 172 0).toInt.toNat := ix_toNat _
  obtain ⟨s1, t1, a1, a2, a3, a4, a5⟩ := ini_lp (by' := d) (b := s.1 172 0) m3 (ix (s.1 172 0)) 1048576 1048576 s t (cI 0) (by decide) (by rw [show (cI 0).toInt = 0 from rfl]; omega) (by omega) (by omega) m1 (fun g hg => absurd hg (Nat.not_lt_zero _))
  have x172 : s1.1 172 = s.1 172 := (nof_c a4 (L := [(172, 0)]) rfl (c := 172) rfl).1
  obtain ⟨s2, t2, c1, c2, c3, c4, c5, c6⟩ := fed_lp (by' := d) (F := F) d0 F.length 1048576 1048576 0 s1 t1 (cI 0) (by omega) (by decide) (by omega) (by omega) (hF.keep a4 a5 rfl rfl) (hM.keep a4 a5 rfl rfl) (by rw [x172]; exact a3) (fun q h hq => absurd hq (Nat.not_lt_zero _))
  rw [x172] at c1 c4
  have y172 : s2.1 172 = s.1 172 := ((nof_c c5 (L := [(172, 0)]) rfl (c := 172) rfl).1).trans x172
  have hB : ∀ q (h : q < F.length), s2.1 178 F[q] = s2.1 178 F[q] ∧ t2.1 672 q = s2.1 178 F[q] := fun q h => ⟨rfl, (c4 q h).1.symm⟩
  have m83 : t2.1 549 83 = s.1 172 0 := by rw [(c6.1 549 83 rfl).1, (a5.1 549 83 rfl).1]; exact m1
  obtain ⟨s3, t3, e1, e2, e3, e4, e5⟩ := col_out (F := F) (β := s2.1 178) (b := s.1 172 0) (by omega) m3 (ix (s.1 172 0) + 1) 1048576 1048576 0 s2 t2 (cI 0) (cI 0) (by omega) (by decide) (by omega) (by omega) m83 c3 hB (fun q h => absurd h (Nat.not_lt_zero _)) rfl
  have hF3 : RFd F s3 t3 := c3.keep e4 e5 rfl rfl
  obtain ⟨f1, f2, f3, f4, f5, f6, f7⟩ := id hF3
  have F'n : (clB F (s2.1 178) (ix (s.1 172 0) + 1)).Nodup := clB_nodup f1 _ (by omega)
  have F'm : ∀ x, x ∈ clB F (s2.1 178) (ix (s.1 172 0) + 1) ↔ x ∈ F := fun x => by
    rw [clB_mem]
    refine ⟨fun h => h.1, fun h => ⟨h, ?_⟩⟩
    obtain ⟨q, hq, e⟩ := List.mem_iff_getElem.mp h
    obtain ⟨g1, g2, g3⟩ := c4 q hq
    rw [e] at g1
    refine ⟨ix (s2.1 178 x), ?_, ?_⟩
    · rw [ix_toNat, g1]; omega
    · rw [cI_ix (by rw [g1]; exact g2)]
  have F'l : (clB F (s2.1 178) (ix (s.1 172 0) + 1)).length = F.length := len_same f1 F'n F'm
  have e0 : ix (s3.1 138 12) = F.length := by rw [ix_toNat, f3]; omega
  obtain ⟨t4, g1, g2, -, g4⟩ := cpy_lp F.length 1048576 t3 (cI 0) (by decide) (by rw [f4, f3, show (cI 0).toInt = 0 from rfl]; omega) (by rw [f4, f3]; omega) (by omega)
  have cc : fACP s3 300 300 175 174 (cI 0) (cI 0) (s3.1 138 12) = some (cpM s3 175 174 0 0 F.length) := by
    unfold fACP
    rw [if_pos ⟨⟨by decide, by decide, by rw [le_i, i32_0]; omega⟩, by rw [ix_0]; omega, by rw [ix_0]; omega⟩, ix_0, e0]
  have fr4 : fr [(174, 174, 0)] s3 (cpM s3 175 174 0 0 F.length) := fr_acp (F := [(174, 174, 0)]) (fun k => rfl) cc
  have w174 : ∀ q, q < F.length → (cpM s3 175 174 0 0 F.length).1 174 q = s3.1 175 q := fun q hq => by
    show (if 174 = 174 ∧ 0 ≤ q ∧ q < 0 + F.length then s3.1 175 (0 + (q - 0)) else s3.1 174 q) = _
    rw [if_pos ⟨rfl, by omega, by omega⟩, Nat.zero_add, Nat.sub_zero]
  have fC : fr FpsC s (cpM s3 175 174 0 0 F.length) := (a4.mono (by decide +kernel)).tr ((c5.mono (by decide +kernel)).tr ((e4.mono (by decide +kernel)).tr (fr4.mono (by decide +kernel))))
  have fM : fr FpsM t t4 := (a5.mono (by decide +kernel)).tr ((c6.mono (by decide +kernel)).tr ((e5.mono (by decide +kernel)).tr (g4.mono (by decide +kernel))))
  refine ⟨clB F (s2.1 178) (ix (s.1 172 0) + 1), cpM s3 175 174 0 0 F.length, t4, ?_, ?_, ⟨F'n, fun x hx => f2 x ((F'm x).mp hx), ?_, ?_, fun q h => ?_, fun x hx => ?_, fun x hx hnm => ?_⟩, F'm, fC, fM⟩
  · unfold fRounds_feedPass
    generalize fRounds_feedPass_h20 1048576 = H at a1 ⊢
    rw [ltI_eq, ix_0, if_neg d1, if_neg b2, a1, c1, e1, cc]
    rfl
  · show fM_pass_h2 1048576 t d (cI 0) = _
    rw [a2, c2, e2, g1]
  · rw [(fr4.1 138 12 rfl).1, f3, F'l]
  · rw [(fr4.1 138 12 rfl).1, (g4.1 549 166 rfl).1]; exact f4
  · rw [w174 q (by omega), g2 q (Nat.zero_le _) (by rw [f4, e0]; omega)]
    exact e3 q h
  · rw [(nof_c fr4 (L := [(177, 0)]) rfl (c := 177) rfl).1, (nof_c fr4 (L := [(179, 0)]) rfl (c := 179) rfl).1, (nof_c g4 (L := [(671, 0)]) rfl (c := 671) rfl).1, (nof_c g4 (L := [(610, 0)]) rfl (c := 610) rfl).1]
    exact f6 x ((F'm x).mp hx)
  · rw [(nof_c g4 (L := [(610, 0)]) rfl (c := 610) rfl).1]; exact f7 x hx (fun z => hnm ((F'm x).mpr z))
