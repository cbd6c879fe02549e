/-! ===== LEVEL 3: the ranks of a sorting ===== -/
/-- the q-th of a row -/
abbrev gF (F : List Nat) (q : Nat) : Nat := F.getD q 0
theorem gF_at {F : List Nat} {q : Nat} (h : q < F.length) : gF F q = F[q] := by
  unfold gF
  rw [List.getD_eq_getElem?_getD, List.getElem?_eq_getElem h]
  rfl
/-- one place of a row before another: the smaller number, or the same and the smaller place -/
def rkL (P : Nat → Int32) (a b : Nat) : Prop := (P a).toInt < (P b).toInt ∨ ((P a).toInt = (P b).toInt ∧ a < b)
theorem insP_map {L : List Nat} {p x : Nat} {g : Nat → Nat} : (insP L p x).map g = insP (L.map g) p (g x) := by
  unfold insP
  rw [List.map_append, List.map_cons, List.map_take, List.map_drop]
theorem rk_in {F S : List Nat} {f : Nat} {k9 : ev_M → Nat → Int32 → Option ev_M} (hF : ∀ x, x ∈ F → x < 300) (hl : F.length ≤ 300) (hf : f < F.length) (hS : ∀ q, q ∈ S → q < f) (hSl : S.length ≤ f) : ∀ (p n : Nat) (s : ev_M) (j : Int32), j.toInt = (p : Int) → p ≤ S.length → p < n → (∀ q (h : q < F.length), s.1 174 q = cI ((F[q] : Nat) : Int)) → Shf (s.1 175) (S.map (gF F)) p → (∀ q (h : q < S.length), p ≤ q → (s.1 177 (gF F f)).toInt < (s.1 177 (gF F S[q])).toInt) → ∃ p' s', p' ≤ S.length ∧ fRounds_rank_h19 k9 n s 0 (cI (f : Int)) j = k9 s' 0 (cI (f : Int) + cI 1) ∧ (∀ q (h : q < ((insP S p' f).map (gF F)).length), s'.1 175 q = cI ((((insP S p' f).map (gF F))[q] : Nat) : Int)) ∧ (∀ q (h : q < S.length), p' ≤ q → (s.1 177 (gF F f)).toInt < (s.1 177 (gF F S[q])).toInt) ∧ (∀ (h : 0 < p') (h2 : p' - 1 < S.length), (s.1 177 (gF F S[p' - 1])).toInt ≤ (s.1 177 (gF F f)).toInt) ∧ fr [(175, 175, 0)] s s'
  | 0, n, s, j, hj, hp, hn, h4, hs, hg => by
    obtain ⟨n, rfl⟩ : ∃ k, n = k + 1 := ⟨n - 1, by omega⟩
    have j0 : j ≤ 0 := by rw [le_i, i32_0]; omega
    have i0 : inb j 300 = true := inb_iff.mpr ⟨by omega, by omega⟩
    have ej : ix j = 0 := by rw [ix_toNat]; omega
    have bf : inb (cI (f : Int)) 300 = true := inb_iff.mpr ⟨by rw [cI_toInt (by omega) (by omega)]; omega, by rw [cI_toInt (by omega) (by omega)]; omega⟩
    have ef : ix (cI (f : Int)) = f := ix_n _ (by omega)
    refine ⟨0, wI s 175 0 (cI ((gF F f : Nat) : Int)), Nat.zero_le _, ?_, ?_, hg, fun h => absurd h (Nat.lt_irrefl _), fr.rf.wI rfl⟩
    · rw [fRounds_rank_h19, if_pos j0, fRounds_rank_b64, if_pos bf, if_pos i0, ltM_eq, ej, ef, h4 f hf, gF_at hf]
    · rw [insP_map, wI_c]
      exact hs.ins (by rw [List.length_map]; exact hp)
  | p + 1, n, s, j, hj, hp, hn, h4, hs, hg => by
    obtain ⟨n, rfl⟩ : ∃ k, n = k + 1 := ⟨n - 1, by omega⟩
    have j0 : ¬ j ≤ 0 := by rw [le_i, i32_0]; omega
    have i0 : inb j 300 = true := inb_iff.mpr ⟨by omega, by omega⟩
    have ej : ix j = p + 1 := by rw [ix_toNat]; omega
    have j1 : (j - cI 1).toInt = (p : Int) := by rw [sub_toInt (by rw [show (cI 1).toInt = 1 from rfl]; omega) (by rw [show (cI 1).toInt = 1 from rfl]; omega), show (cI 1).toInt = 1 from rfl]; omega
    have jm : (j + cI (-1)).toInt = (p : Int) := by rw [add_toInt (by rw [show (cI (-1)).toInt = -1 from rfl]; omega) (by rw [show (cI (-1)).toInt = -1 from rfl]; omega), show (cI (-1)).toInt = -1 from rfl]; omega
    have e1 : ix (j - cI 1) = p := by rw [ix_toNat, j1]; omega
    have i1 : inb (j - cI 1) 300 = true := inb_iff.mpr ⟨by omega, by omega⟩
    have bf : inb (cI (f : Int)) 300 = true := inb_iff.mpr ⟨by rw [cI_toInt (by omega) (by omega)]; omega, by rw [cI_toInt (by omega) (by omega)]; omega⟩
    have ef : ix (cI (f : Int)) = f := ix_n _ (by omega)
    have pl : p < S.length := by omega
    have pm : p < (S.map (gF F)).length := by rw [List.length_map]; exact pl
    have hv := hs.at pm
    have em : (S.map (gF F))[p] = gF F S[p] := List.getElem_map _
    rw [em] at hv
    have sp := hS _ (List.getElem_mem pl)
    have gs : gF F S[p] < 300 := by rw [gF_at (by omega)]; exact hF _ (List.getElem_mem _)
    have gf : gF F f < 300 := by rw [gF_at hf]; exact hF _ (List.getElem_mem _)
    have b1 : inb (cI ((gF F S[p] : Nat) : Int)) 300 = true := inb_iff.mpr ⟨by rw [cI_toInt (by omega) (by omega)]; omega, by rw [cI_toInt (by omega) (by omega)]; omega⟩
    have b2 : inb (cI ((gF F f : Nat) : Int)) 300 = true := inb_iff.mpr ⟨by rw [cI_toInt (by omega) (by omega)]; omega, by rw [cI_toInt (by omega) (by omega)]; omega⟩
    have x1 : ix (cI ((gF F S[p] : Nat) : Int)) = gF F S[p] := ix_n _ (by omega)
    have x2 : ix (cI ((gF F f : Nat) : Int)) = gF F f := ix_n _ (by omega)
    have h4f : s.1 174 f = cI ((gF F f : Nat) : Int) := by rw [h4 f hf, gF_at hf]
    by_cases z : s.1 177 (gF F S[p]) ≤ s.1 177 (gF F f)
    · refine ⟨p + 1, wI s 175 (p + 1) (cI ((gF F f : Nat) : Int)), hp, ?_, ?_, hg, fun _ _ => le_i.mp z, fr.rf.wI rfl⟩
      · rw [fRounds_rank_h19, if_neg j0, if_pos i1, e1, hv, if_pos b1, if_pos bf, ef, h4f, if_pos b2, x1, x2, Nat.add_zero, if_pos z, fRounds_rank_b64, if_pos bf, if_pos i0, ltM_eq, ej, ef, h4f]
      · rw [insP_map, wI_c]
        exact hs.ins (by rw [List.length_map]; exact hp)
    · have w1 : fr [(175, 175, 0)] s (wI s 175 (p + 1) (cI ((gF F S[p] : Nat) : Int))) := fr.rf.wI rfl
      obtain ⟨p', s', q1, q2, q3, q4, q5, q6⟩ := rk_in (k9 := k9) hF hl hf hS hSl p n (wI s 175 (p + 1) (cI ((gF F S[p] : Nat) : Int))) (j + cI (-1)) jm (by omega) (by omega) (fun q h => by rw [wI_ne (by decide)]; exact h4 q h) (by rw [wI_c, ← hv]; exact hs.step pm) (fun q h hq => by
        rw [wI_ne (by decide)]
        by_cases w : q = p
        · subst w
          rw [le_i] at z
          omega
        · exact hg q h (by omega))
      rw [wI_ne (by decide)] at q4 q5
      refine ⟨p', s', q1, ?_, q3, q4, q5, w1.tr q6⟩
      rw [fRounds_rank_h19, if_neg j0, if_pos i1, e1, hv, if_pos b1, if_pos bf, ef, h4f, if_pos b2, x1, x2, Nat.add_zero, if_neg z, if_pos i1, if_pos i0, ltM_eq, ej]
      exact q2
theorem rkL_ins {P : Nat → Int32} {S : List Nat} {f p' : Nat} (hp : S.Pairwise (rkL P)) (hS : ∀ q, q ∈ S → q < f) (hl : p' ≤ S.length) (h1 : ∀ q (h : q < S.length), p' ≤ q → (P f).toInt < (P S[q]).toInt) (h2 : ∀ (h : 0 < p') (h2 : p' - 1 < S.length), (P S[p' - 1]).toInt ≤ (P f).toInt) : (insP S p' f).Pairwise (rkL P) := by
  have pg := List.pairwise_iff_getElem.mp hp
  unfold insP
  have e := List.take_append_drop p' S
  have hp2 := hp
  rw [← e] at hp2
  obtain ⟨a1, a2, a3⟩ := List.pairwise_append.mp hp2
  refine List.pairwise_append.mpr ⟨a1, List.pairwise_cons.mpr ⟨fun y hy => ?_, a2⟩, fun y hy z hz => ?_⟩
  · obtain ⟨q, hq, e2⟩ := List.mem_iff_getElem.mp hy
    rw [List.getElem_drop] at e2
    rw [List.length_drop] at hq
    have := h1 (p' + q) (by omega) (by omega)
    rw [e2] at this
    exact Or.inl this
  · rcases List.mem_cons.mp hz with w | w
    · rw [w]
      obtain ⟨q, hq, e2⟩ := List.mem_iff_getElem.mp hy
      rw [List.getElem_take] at e2
      rw [List.length_take] at hq
      have q5 := h2 (by omega) (by omega)
      have yf := hS y (by rw [← e2]; exact List.getElem_mem _)
      have le : (P y).toInt ≤ (P f).toInt := by
        by_cases v : q = p' - 1
        · subst v; rw [e2] at q5; exact q5
        · have r := pg q (p' - 1) (by omega) (by omega) (by omega)
          rw [e2] at r
          unfold rkL at r
          omega
      unfold rkL
      omega
    · exact a3 y hy z w
theorem rk_lp {F : List Nat} (hF : ∀ x, x ∈ F → x < 300) (hl : F.length ≤ 300) : ∀ (r n k : Nat) (S : List Nat) (s : ev_M) (j : Int32), k + r = F.length → j.toInt = (k : Int) → r < n → (s.1 138 12).toInt = (F.length : Int) → (∀ q (h : q < F.length), s.1 174 q = cI ((F[q] : Nat) : Int)) → S.length = k → S.Pairwise (rkL (fun q => s.1 177 (gF F q))) → (∀ q, q ∈ S ↔ q < k) → (∀ q (h : q < (S.map (gF F)).length), s.1 175 q = cI (((S.map (gF F))[q] : Nat) : Int)) → ∃ (S' : List Nat) (s' : ev_M), fRounds_rank_h9 n s 0 j = fRounds_rank_h84 1048576 s' 0 (cI 0) ∧ S'.length = F.length ∧ S'.Pairwise (rkL (fun q => s.1 177 (gF F q))) ∧ (∀ q, q ∈ S' ↔ q < F.length) ∧ (∀ q (h : q < (S'.map (gF F)).length), s'.1 175 q = cI (((S'.map (gF F))[q] : Nat) : Int)) ∧ fr [(175, 175, 0)] s s'
  | 0, n, k, S, s, j, h0, h1, hn, h3, h4, hk, hp, hm, h5 => by
    obtain ⟨n, rfl⟩ : ∃ k, n = k + 1 := ⟨n - 1, by omega⟩
    have hj : ¬ j < s.1 138 12 := by rw [lt_i]; omega
    have ek : k = F.length := by omega
    rw [ek] at hm hk
    refine ⟨S, s, ?_, hk, hp, hm, h5, fr.rf⟩
    rw [fRounds_rank_h9, if_neg hj]
  | r + 1, n, k, S, s, j, h0, h1, hn, h3, h4, hk, hp, hm, h5 => by
    obtain ⟨n, rfl⟩ : ∃ k, n = k + 1 := ⟨n - 1, by omega⟩
    have hj : j < s.1 138 12 := by rw [lt_i]; omega
    have jc : j = cI (k : Int) := by rw [eq_i, cI_toInt (by omega) (by omega)]; exact h1
    have et : (j + cI 1).toInt = ((k + 1 : Nat) : Int) := by rw [inc_i (by omega)]; omega
    obtain ⟨p', s1, q1, q2, q3, q4, q5, q6⟩ := rk_in (F := F) (S := S) (f := k) (k9 := fRounds_rank_h9 n) hF hl (by omega) (fun q hq => (hm q).mp hq) (by omega) S.length 1048576 s j (by omega) (Nat.le_refl _) (by omega) h4 (by
      have := Shf.top h5
      rw [List.length_map] at this
      exact this) (fun q h hq => absurd h (by omega))
    have y177 : s1.1 177 = s.1 177 := (nof_c q6 (L := [(177, 0)]) rfl (c := 177) rfl).1
    have y174 : s1.1 174 = s.1 174 := (nof_c q6 (L := [(174, 0)]) rfl (c := 174) rfl).1
    have y12 : s1.1 138 12 = s.1 138 12 := (q6.1 138 12 rfl).1
    have hpI := rkL_ins (P := fun q => s.1 177 (gF F q)) (f := k) (p' := p') hp (fun q hq => (hm q).mp hq) q1 q4 q5
    obtain ⟨S', s', z1, z2, z3, z4, z5, z6⟩ := rk_lp hF hl r n (k + 1) (insP S p' k) s1 (j + cI 1) (by omega) et (by omega) (by rw [y12]; exact h3) (fun q h => by rw [y174]; exact h4 q h) (by rw [insP_len, hk]) (by rw [y177]; exact hpI) (fun q => by
      rw [insP_mem, hm q]
      omega) q3
    rw [y177] at z3
    refine ⟨S', s', ?_, z2, z3, z4, z5, q6.tr z6⟩
    rw [fRounds_rank_h9, if_pos hj, jc]
    rw [jc] at q2 z1
    rw [q2]
    exact z1
