/-! ===== LEVEL 3: the reading acts upon an empty tape ===== -/
theorem wI_same {s : ev_M} {c k : Nat} {x : Int32} (h : s.1 c k = x) : wI s c k x = s := by
  subst h
  refine Prod.ext (funext fun a => funext fun b => ?_) rfl
  rw [wI_1]
  split
  · rename_i q; split
    · rename_i r; rw [q, r]
    · rfl
  · rfl
section
variable {s : ev_M}
/-- a reading that has failed stays where it is -/
theorem eat_f {c : Int32} (h : s.1 549 140 = cI 1) : fM_eat s c = some s := by
  unfold fM_eat fM_eat_b16 fM_eat_b21 fM_eat_b45
  rw [if_neg (by rw [h]; decide), if_pos (by decide), ltM_eq, wI_same h, if_neg (by rw [h]; decide), ltM_eq, wI_same rfl]
theorem digits_f (h : s.1 549 140 = cI 1) : fM_digits s = some (s, cI 0) := by
  show fM_digits_h4 (1048575 + 1) s (cI 0) (cI 0) = _
  generalize 1048575 = n
  unfold fM_digits_h4 fM_digits_b60 fM_digits_b72 fM_digits_b77
  rw [if_neg (by rw [h]; decide), if_neg (by rw [h]; decide), if_pos (by decide), ltM_eq, wI_same h]
theorem letters_f (h : s.1 549 140 = cI 1) : fM_letters s = some (s, cL 0) := by
  show fM_letters_h4 (1048575 + 1) s (cI 0) (cL 0) = _
  generalize 1048575 = n
  unfold fM_letters_h4 fM_letters_b65 fM_letters_b77 fM_letters_b82
  rw [if_neg (by rw [h]; decide), if_neg (by rw [h]; decide), if_pos (by decide), ltM_eq, wI_same h]
theorem comma_f (h : s.1 549 140 = cI 1) : fM_comma s = some (s, cI 0) := by
  unfold fM_comma
  rw [eat_f h, bd1_some, digits_f h, bd2_some]
theorem look_0 (h : ¬ s.1 549 139 < s.1 549 13) : fM_look s = some (cI (-1)) := by
  unfold fM_look
  rw [if_neg h]
theorem entry_0 (h : ¬ s.1 549 139 < s.1 549 13) : fM_entryOfBook s = some (wI s 549 140 (cI 1), cI 0) := by
  have e : (wI s 549 140 (cI 1)).1 549 140 = cI 1 := by rw [wI_c, up1_eq]
  unfold fM_entryOfBook
  rw [look_0 h, bd1_some, if_neg (by decide), if_neg (by decide), if_neg (by decide), if_neg (by decide)]
  unfold fM_entryOfBook_b35
  rw [if_pos (by decide), ltM_eq, if_neg (by rw [e]; decide)]
  unfold fM_entryOfBook_b59
  rw [ltM_eq, wI_same rfl, digits_f e, bd2_some, eat_f e, bd1_some, letters_f e, bd2_some, if_neg (by decide), comma_f e, bd2_some]
  unfold fM_entryOfBook_b92
  rw [if_neg (by decide), if_neg (by decide)]
  unfold fM_entryOfBook_b114
  rw [if_neg (by decide), if_neg (by decide)]
  unfold fM_entryOfBook_b136
  rw [eat_f e, bd1_some, if_neg (by rw [e]; decide)]
theorem row_0 (h : ¬ s.1 549 139 < s.1 549 13) : fM_rowOfTariff s = some (wI s 549 140 (cI 1), cI 0) := by
  have e : (wI s 549 140 (cI 1)).1 549 140 = cI 1 := by rw [wI_c, up1_eq]
  unfold fM_rowOfTariff
  rw [look_0 h, bd1_some, if_neg (by decide), if_neg (by decide)]
  unfold fM_rowOfTariff_b23
  rw [if_pos (by decide), ltM_eq, if_neg (by rw [e]; decide)]
  unfold fM_rowOfTariff_b47
  rw [ltM_eq, wI_same rfl, digits_f e, bd2_some, if_neg (by decide)]
  unfold fM_rowOfTariff_b69
  rw [eat_f e, bd1_some, digits_f e, bd2_some, eat_f e, bd1_some, if_neg (by rw [e]; decide)]
theorem rE_0 (h : s.1 1 1 = 0) (h2 : s.1 1 2 = 0) : fTape_readsEntry_1_1010 s = some (wI s 1 4 (cI 0), cI (-1)) := by
  have e1 : (wI s 1 4 (cI 0)).1 1 1 = 0 := by rw [wI_c, up1_ne (by decide), h]
  have e2 : (wI s 1 4 (cI 0)).1 1 2 = 0 := by rw [wI_c, up1_ne (by decide), h2]
  unfold fTape_readsEntry_1_1010 fTape_byteAt_1
  rw [ltM_eq, e2, e1, if_neg (by decide), if_neg (by decide), bd1_some, if_pos (by decide)]
  rfl
theorem rR_0 (h : s.1 1 1 = 0) (h2 : s.1 1 2 = 0) : fTape_readsEntry_1_1011 s = some (wI s 1 4 (cI 0), cI (-1)) := by
  have e1 : (wI s 1 4 (cI 0)).1 1 1 = 0 := by rw [wI_c, up1_ne (by decide), h]
  have e2 : (wI s 1 4 (cI 0)).1 1 2 = 0 := by rw [wI_c, up1_ne (by decide), h2]
  unfold fTape_readsEntry_1_1011 fTape_byteAt_1
  rw [ltM_eq, e2, e1, if_neg (by decide), if_neg (by decide), bd1_some, if_pos (by decide)]
  rfl
theorem lgS.fr {F : List (Nat × (Nat × Nat))} {s x : ev_M} (h : fr F s x) (n : nof F [(9, 0), (10, 0), (11, 0), (12, 0), (13, 0), (14, 0), (1, 2), (2, 0)] = true) (n2 : F.all (fun q => Nat.ble q.2.1 999) = true) : lgS s x := by
  refine ⟨fun c h1 h2 => ?_, (nof_s h n (c := 1) (k := 1) rfl).1, (nof_c h n (c := 2) rfl).1, fun c h1 => funext fun k => (h.1 c k ?_).1⟩
  · obtain rfl | rfl | rfl | rfl | rfl | rfl : c = 9 ∨ c = 10 ∨ c = 11 ∨ c = 12 ∨ c = 13 ∨ c = 14 := by omega
    · exact (nof_c h n (c := 9) rfl).1
    · exact (nof_c h n (c := 10) rfl).1
    · exact (nof_c h n (c := 11) rfl).1
    · exact (nof_c h n (c := 12) rfl).1
    · exact (nof_c h n (c := 13) rfl).1
    · exact (nof_c h n (c := 14) rfl).1
  · unfold inF
    refine List.any_eq_false.mpr fun q hq => ?_
    have := Nat.le_of_ble_eq_true (List.all_eq_true.mp n2 q hq)
    have e : Nat.ble c q.2.1 = false := by
      cases hb : Nat.ble c q.2.1 with
      | false => rfl
      | true => have := Nat.le_of_ble_eq_true hb; omega
    simp [e]
def BKC : List (Nat × (Nat × Nat)) := [(1, 1, 3), (1, 1, 5), (30, 30, 0), (78, 78, 14)]
theorem book_0 (h : s.1 1 1 = 0) : ∃ x, fBook_readText_1 s = some (x, cI (-1000) - 0) ∧ fr BKC s x := by
  have b : ∀ n (u : ev_M) x2 x3 x4 x5 y, fr BKC s u → ∃ x, fBook_readText_1_h33 (n + 1) u x2 x3 x4 x5 0 y = some (x, cI (-1000) - 0) ∧ fr BKC s x := fun n u x2 x3 x4 x5 y hu => by
    refine ⟨wI (wI (wI (wI u 30 2 x2) 30 4 x3) 30 7 x4) 30 9 x5, ?_, (((hu.wI rfl).wI rfl).wI rfl).wI rfl⟩
    unfold fBook_readText_1_h33 fBook_readText_1_b108 fBook_readText_1_b127 fBook_keepFirst
    rw [if_neg (by decide), if_neg (by decide)]
    simp only [ltM_eq, bd1_some]
    rw [if_neg (by decide)]
  have e1 : (wI s 1 2 (cI 0)).1 1 1 = 0 := by rw [wI_c, up1_ne (by decide), h]
  have e2 : (wI s 1 2 (cI 0)).1 1 2 = 0 := by rw [wI_c, up1_eq]; rfl
  have e3 : (wI (wI s 1 2 (cI 0)) 1 4 (cI 0)).1 1 2 = 0 := by rw [wI_c, up1_ne (by decide), e2]
  have k : ∀ n, ∃ x, fBook_readText_1_h33 (n + 1 + 1) (wI s 1 2 (cI 0)) (s.1 30 2) (s.1 30 4) (s.1 30 7) (s.1 30 9) (cI (-1)) (cI 0) = some (x, cI (-1000) - 0) ∧ fr BKC s x := fun n => by
    obtain ⟨x, ex, hx⟩ := b n (wI (wI s 1 2 (cI 0)) 1 4 (cI 0)) (s.1 30 2) (s.1 30 4) (s.1 30 7) (s.1 30 9) (cI 0 + cI 1) ((fr.rf.wI rfl).wI rfl)
    refine ⟨x, ?_, hx⟩
    rw [show fBook_readText_1_h33 (n + 1 + 1) (wI s 1 2 (cI 0)) (s.1 30 2) (s.1 30 4) (s.1 30 7) (s.1 30 9) (cI (-1)) (cI 0) = fBook_readText_1_b59 (fBook_readText_1_h33 (n + 1)) (wI s 1 2 (cI 0)) (s.1 30 2) (s.1 30 4) (s.1 30 7) (s.1 30 9) (cI (-1)) (cI 0) from by
      rw [fBook_readText_1_h33, if_pos rfl, if_pos (by decide), if_pos (show cI 0 = 0 from rfl)]]
    unfold fBook_readText_1_b59 fBook_readText_1_b102
    rw [ltI_eq, rE_0 e1 e2, bd2_some, if_pos rfl, ltI_eq, e3]
    exact ex
  unfold fBook_readText_1
  rw [ltI_eq, ltI_eq, ltI_eq, ltI_eq, ltM_eq]
  exact k 1048574
theorem tariff_0 (h : s.1 1 1 = 0) : ∃ x, fMoney_readTariff_1 s = some (x, cI (-1000) - 0) ∧ fr BKC s x := by
  have b : ∀ n (u : ev_M), fMoney_readTariff_1_h14 (n + 1) u 0 (cI 0 + cI 1) = some (u, cI (-1000) - 0) := fun n u => by
    unfold fMoney_readTariff_1_h14 fMoney_readTariff_1_b84
    rw [if_pos (by decide), if_neg (by decide), if_neg (by decide)]
  have e1 : (wI (wI s 78 13 (cI 0)) 1 2 (cI 0)).1 1 1 = 0 := by rw [wI_c, up1_ne (by decide), wI_ne (by decide), h]
  have e2 : (wI (wI s 78 13 (cI 0)) 1 2 (cI 0)).1 1 2 = 0 := by rw [wI_c, up1_eq]; rfl
  have e3 : (wI (wI (wI s 78 13 (cI 0)) 1 2 (cI 0)) 1 4 (cI 0)).1 1 2 = 0 := by rw [wI_c, up1_ne (by decide), e2]
  refine ⟨wI (wI (wI s 78 13 (cI 0)) 1 2 (cI 0)) 1 4 (cI 0), ?_, ((fr.rf.wI rfl).wI rfl).wI rfl⟩
  show fMoney_readTariff_1_h14 (1048574 + 1 + 1) (wI (wI s 78 13 (cI 0)) 1 2 (cI 0)) (cI (-1)) (cI 0) = _
  generalize 1048574 = n at *
  rw [show fMoney_readTariff_1_h14 (n + 1 + 1) (wI (wI s 78 13 (cI 0)) 1 2 (cI 0)) (cI (-1)) (cI 0) = fMoney_readTariff_1_b37 (fMoney_readTariff_1_h14 (n + 1)) (wI (wI s 78 13 (cI 0)) 1 2 (cI 0)) (cI (-1)) (cI 0) from by
    rw [fMoney_readTariff_1_h14, if_pos (by decide), if_pos rfl, if_pos (show cI 0 = 0 from rfl)]]
  unfold fMoney_readTariff_1_b37 fMoney_readTariff_1_b78
  rw [ltI_eq, rR_0 e1 e2, bd2_some, if_pos rfl, ltI_eq, e3]
  exact b n _
theorem bookM_0 (h : s.1 549 13 = 0) : ∃ y, fM_doBook s = some (y, cI (-1000) - 0) ∧ y.1 549 15 = 1 := by
  have b : ∀ n (u : ev_M) x1 x2 x3 x4 x5, ∃ y, fM_doBook_h32 (n + 1) u x1 x2 x3 x4 x5 0 = some (y, cI (-1000) - 0) ∧ y.1 549 15 = 1 := fun n u x1 x2 x3 x4 x5 => by
    refine ⟨wI (wI (wI (wI (wI u 549 24 x1) 549 27 x2) 549 33 x3) 549 38 x4) 549 15 (cI 1), ?_, by rw [wI_c, up1_eq]; rfl⟩
    unfold fM_doBook_h32 fM_doBook_b99 fM_doBook_b116 fM_doBook_b117 fM_doBook_b130 fM_doBook_b168
    rw [if_neg (by decide), if_neg (by decide), if_neg (by decide), ltM_eq, ltM_eq, ltM_eq, ltM_eq, if_pos (show cI 0 = 0 from rfl), no_eq, bd2_some]
  have e1 : (wI s 549 139 (cI 0)).1 549 139 = 0 := by rw [wI_c, up1_eq]; rfl
  have e2 : (wI s 549 139 (cI 0)).1 549 13 = 0 := by rw [wI_c, up1_ne (by decide), h]
  have nl : ¬ (wI s 549 139 (cI 0)).1 549 139 < (wI s 549 139 (cI 0)).1 549 13 := by rw [e1, e2]; decide
  have e3 : (wI (wI s 549 139 (cI 0)) 549 140 (cI 1)).1 549 140 = cI 1 := by rw [wI_c, up1_eq]
  have e4 : (wI (wI s 549 139 (cI 0)) 549 140 (cI 1)).1 549 139 = 0 := by rw [wI_c, up1_ne (by decide), e1]
  obtain ⟨y, ey, hy⟩ := b 1048574 (wI (wI s 549 139 (cI 0)) 549 140 (cI 1)) (s.1 549 24) (s.1 549 27) (s.1 549 33) (s.1 549 38) (cI 0 + cI 1)
  refine ⟨y, ?_, hy⟩
  show fM_doBook_h32 (1048574 + 1 + 1) (wI s 549 139 (cI 0)) (s.1 549 24) (s.1 549 27) (s.1 549 33) (s.1 549 38) (cI 0) (cI (-1)) = _
  generalize 1048574 = n at *
  rw [show fM_doBook_h32 (n + 1 + 1) (wI s 549 139 (cI 0)) (s.1 549 24) (s.1 549 27) (s.1 549 33) (s.1 549 38) (cI 0) (cI (-1)) = fM_doBook_b54 (fM_doBook_h32 (n + 1)) (wI s 549 139 (cI 0)) (s.1 549 24) (s.1 549 27) (s.1 549 33) (s.1 549 38) (cI 0) from by
    rw [fM_doBook_h32, if_pos rfl, if_neg nl, if_pos (show cI 0 = 0 from rfl)]]
  unfold fM_doBook_b54 fM_doBook_b91
  rw [ltI_eq, entry_0 nl, bd2_some, if_pos (show cI 0 = 0 from rfl), if_neg (by rw [e3]; decide), e4]
  exact ey
theorem tariffM_0 (h : s.1 549 13 = 0) (h2 : s.1 549 125 = 0) : ∃ y, fM_doTariff s = some (y, cI (-1000) - 0) ∧ y.1 549 15 = 1 := by
  have b : ∀ n (u : ev_M), ∃ y, fM_doTariff_h66 (n + 1) u 0 0 = some (y, cI (-1000) - 0) ∧ y.1 549 15 = 1 := fun n u => by
    have e : ∀ j, fM_doTariff_h158 (j + 1) u 0 0 (cI 0) (cI 0) = some (wI (wI u 549 125 0) 549 15 (cI 1), cI (-1000) - 0) := fun j => by
      unfold fM_doTariff_h158 fM_doTariff_b232
      rw [if_neg (by decide), ltM_eq, if_pos (show cI 0 = 0 from rfl), no_eq, bd2_some]
    refine ⟨wI (wI u 549 125 0) 549 15 (cI 1), ?_, by rw [wI_c, up1_eq]; rfl⟩
    unfold fM_doTariff_h66 fM_doTariff_b128 fM_doTariff_b144 fM_doTariff_b145 fM_doTariff_b155
    rw [if_neg (by decide), if_neg (by decide), if_neg (by decide)]
    exact e 1048575
  have w : ∀ k, k ≠ 139 → k ≠ 125 → (wI (wI s 549 125 (cI 0)) 549 139 (cI 0)).1 549 k = s.1 549 k := fun k a b => by rw [wI_c, up1_ne a, wI_c, up1_ne b]
  have e1 : (wI (wI s 549 125 (cI 0)) 549 139 (cI 0)).1 549 139 = 0 := by rw [wI_c, up1_eq]; rfl
  have e5 : (wI (wI s 549 125 (cI 0)) 549 139 (cI 0)).1 549 125 = 0 := by rw [wI_c, up1_ne (by decide), wI_c, up1_eq]; rfl
  have nl : ¬ (wI (wI s 549 125 (cI 0)) 549 139 (cI 0)).1 549 139 < (wI (wI s 549 125 (cI 0)) 549 139 (cI 0)).1 549 13 := by rw [e1, w 13 (by decide) (by decide), h]; decide
  have e3 : (wI (wI (wI s 549 125 (cI 0)) 549 139 (cI 0)) 549 140 (cI 1)).1 549 140 = cI 1 := by rw [wI_c, up1_eq]
  have e4 : (wI (wI (wI s 549 125 (cI 0)) 549 139 (cI 0)) 549 140 (cI 1)).1 549 139 = 0 := by rw [wI_c, up1_ne (by decide), e1]
  obtain ⟨y, ey, hy⟩ := b 1048574 (wI (wI (wI s 549 125 (cI 0)) 549 139 (cI 0)) 549 140 (cI 1))
  refine ⟨y, ?_, hy⟩
  have k : fM_doTariff_h66 1048576 (wI (wI s 549 125 (cI 0)) 549 139 (cI 0)) 0 (cI (-1)) = some (y, cI (-1000) - 0) := by
    show fM_doTariff_h66 (1048574 + 1 + 1) (wI (wI s 549 125 (cI 0)) 549 139 (cI 0)) 0 (cI (-1)) = _
    generalize 1048574 = n at *
    rw [fM_doTariff_h66, if_pos rfl, if_neg nl, if_pos e5]
    unfold fM_doTariff_b89 fM_doTariff_b124
    rw [ltI_eq, row_0 nl, bd2_some, if_pos (show cI 0 = 0 from rfl), if_neg (by rw [e3]; decide), e4]
    exact ey
  show ltI (s.1 549 125) (fun v16 => fM_doTariff_h7 (1048575 + 1) s v16 (cI 0)) = _
  rw [ltI_eq, h2]
  generalize 1048575 = n at *
  unfold fM_doTariff_h7
  rw [if_neg (by decide), ltM_eq, ltM_eq]
  exact k
end
