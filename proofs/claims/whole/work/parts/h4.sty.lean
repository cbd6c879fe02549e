/-! ===== LEVEL 3: the strays of a sorting ===== -/
theorem sty_lp {F : List Nat} (hn : F.Nodup) (h3 : ∀ x, x ∈ F → x < 300) : ∀ (r m k : Nat) (L : List Nat) (s : ev_M) (j : Int32), k + r = F.length → j.toInt = (k : Int) → r < m → (s.1 138 12).toInt = (F.length : Int) → (∀ q (h : q < F.length), s.1 174 q = cI ((F[q] : Nat) : Int)) → L.Pairwise (· < ·) → (∀ x, x ∈ L ↔ x ∈ F.take k ∧ s.1 179 x = cI 1) → Hol (s.1 173) (s.1 138 10) L → ∃ L' s', fRounds_keepSorted_h82 m s j = some s' ∧ Hol (s'.1 173) (s'.1 138 10) L' ∧ L'.Pairwise (· < ·) ∧ (∀ x, x ∈ L' ↔ x ∈ F ∧ s.1 179 x = cI 1) ∧ fr [(173, 173, 0), (138, 138, 11)] s s'
  | 0, m, k, L, s, j, h0, h1, hm, f3, f5, hp, hL, hH => by
    obtain ⟨m, rfl⟩ : ∃ k, m = k + 1 := ⟨m - 1, by omega⟩
    have hj : ¬ j < s.1 138 12 := by rw [lt_i]; omega
    have ek : F.take k = F := List.take_of_length_le (by omega)
    rw [ek] at hL
    refine ⟨L, s, ?_, hH, hp, hL, fr.rf⟩
    rw [fRounds_keepSorted_h82, if_neg hj]
  | r + 1, m, k, L, s, j, h0, h1, hm, f3, f5, hp, hL, hH => by
    obtain ⟨m, rfl⟩ : ∃ k, m = k + 1 := ⟨m - 1, by omega⟩
    have l300 : F.length ≤ 300 := nodup_le hn h3
    have hj : j < s.1 138 12 := by rw [lt_i]; omega
    have hi : inb j 300 = true := inb_iff.mpr ⟨by omega, by omega⟩
    have et : (j + cI 1).toInt = ((k + 1 : Nat) : Int) := by rw [inc_i (by omega)]; omega
    have ej : ix j = k := by rw [ix_toNat]; omega
    have kl : k < F.length := by omega
    have e1 := f5 k kl
    have xm : F[k] ∈ F := List.getElem_mem kl
    have x3 := h3 _ xm
    have hb : inb (cI ((F[k] : Nat) : Int)) 300 = true := inb_iff.mpr ⟨by rw [cI_toInt (by omega) (by omega)]; omega, by rw [cI_toInt (by omega) (by omega)]; omega⟩
    have xi : ix (cI ((F[k] : Nat) : Int)) = F[k] := ix_n _ (by omega)
    have tk : F.take (k + 1) = F.take k ++ [F[k]] := (List.take_append_getElem kl).symm
    by_cases z : s.1 179 F[k] = cI 1
    · have nk : F[k] ∉ L := fun q => by
        have q1 := ((hL _).mp q).1
        obtain ⟨i, hi2, e⟩ := List.mem_iff_getElem.mp q1
        rw [List.length_take] at hi2
        rw [List.getElem_take] at e
        have pg := List.pairwise_iff_getElem.mp hn
        exact pg i k (by omega) kl (by omega) e
      have Ln : (F[k] :: L).Nodup := List.nodup_cons.mpr ⟨nk, hp.imp (fun q => Nat.ne_of_lt q)⟩
      have Lb : ∀ y, y ∈ L → y < 300 := fun y hy => h3 y (List.mem_of_mem_take ((hL y).mp hy).1)
      have Ll : L.length < 300 := by
        have := nodup_le (n := 300) Ln (fun y hy => by
          rcases List.mem_cons.mp hy with q | q
          · rw [q]; exact x3
          · exact Lb y q)
        simp at this
        omega
      obtain ⟨L1, s1, a1, a2, a3, a4, a5⟩ := str_add (s := s) Ll x3 Lb hp nk hH
      have y12 : s1.1 138 12 = s.1 138 12 := (a5.1 138 12 rfl).1
      have y174 : s1.1 174 = s.1 174 := (nof_c a5 (L := [(174, 0)]) rfl (c := 174) rfl).1
      have y179 : s1.1 179 = s.1 179 := (nof_c a5 (L := [(179, 0)]) rfl (c := 179) rfl).1
      obtain ⟨L', s', b1, b2, b3, b4, b5⟩ := sty_lp hn h3 r m (k + 1) L1 s1 (j + cI 1) (by omega) et (by omega) (by rw [y12]; exact f3) (fun q h => by rw [y174]; exact f5 q h) a3 (fun x => by
        rw [a4 x, hL x, tk, List.mem_append, List.mem_singleton, y179]
        constructor
        · rintro (q | q)
          · rw [q]; exact ⟨Or.inr rfl, z⟩
          · exact ⟨Or.inl q.1, q.2⟩
        · rintro ⟨q | q, q2⟩
          · exact Or.inr ⟨q, q2⟩
          · exact Or.inl q) a2
      rw [y179] at b4
      refine ⟨L', s', ?_, b2, b3, b4, a5.tr b5⟩
      rw [fRounds_keepSorted_h82, if_pos hj, if_pos hi, ej, e1, if_pos hb, ix_2, xi, if_pos z, if_pos hi, a1, bd1_some, fRounds_keepSorted_b117]
      exact b1
    · obtain ⟨L', s', b1, b2, b3, b4, b5⟩ := sty_lp hn h3 r m (k + 1) L s (j + cI 1) (by omega) et (by omega) f3 f5 hp (fun x => by
        rw [hL x, tk, List.mem_append, List.mem_singleton]
        constructor
        · rintro ⟨q, q2⟩; exact ⟨Or.inl q, q2⟩
        · rintro ⟨q | q, q2⟩
          · exact ⟨q, q2⟩
          · rw [q] at q2; exact absurd q2 z) hH
      refine ⟨L', s', ?_, b2, b3, b4, b5⟩
      rw [fRounds_keepSorted_h82, if_pos hj, if_pos hi, ej, e1, if_pos hb, ix_2, xi, if_neg z, fRounds_keepSorted_b117]
      exact b1
