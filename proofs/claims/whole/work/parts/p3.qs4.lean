/-! ===== LEVEL 3: questions: ways, traces ===== -/
theorem in_01 {b : Int32} (h : InR b (cI 0) (cI 1)) : b = cI 0 ∨ b = cI 1 := by
  obtain ⟨h1, h2⟩ := h
  rw [show (cI 0).toInt = 0 from rfl] at h1
  rw [show (cI 1).toInt = 1 from rfl] at h2
  rw [eq_i, eq_i, show (cI 0).toInt = 0 from rfl, show (cI 1).toInt = 1 from rfl]
  omega
section
variable {k n : Nat}
theorem q_way {s t : ev_M} {a b c : Int32} (h9 : t.1 549 5 = s.1 9 9) (hL : RLw k s t) (T : RTim s t) (P : RPl s t) (hk : 600 * k ≤ 500000000) : Ok (fPH_way s a b c) fun x => Ok (fM_way t a b c) fun z => x.2 = z.2 := by
  have hL := hL.keep rf_fr (zfr (t := t)) (by decide +kernel) (by decide +kernel)
  have T := T.keep rf_fr (zfr (t := t)) (by decide +kernel) (by decide +kernel)
  have P := P.keep rf_fr (zfr (t := t)) (by decide +kernel) (by decide +kernel)
  unfold fPH_way fM_way
  rw [ltM_eq, q_z5, h9]
  generalize wI t 549 0 (cI 0) = t at *
  by_cases z : s.1 9 9 = 0
  rotate_left
  · rw [if_neg z, if_neg z, ok_some, ok_some]
  rw [if_pos z, if_pos z]
  obtain ⟨⟨n1, n2, n3⟩, -⟩ := id P
  have eP : ∀ a, fM_isPlace t a = some (bI (Has a (s.1 30 2))) := fun a => by rw [e_isPlace (by rw [n1]; exact n2), n1]
  unfold fLines_tellWay
  rw [e_hasPlace n2, eP, bd1_some, bd1_some, ite_bI, ite_bI]
  by_cases h1 : Has a (s.1 30 2)
  rotate_left
  · rw [if_neg h1, if_neg h1, bd2_some, ok_some, ok_some]
  rw [if_pos h1, if_pos h1, e_hasPlace n2, eP, bd1_some, bd1_some, ite_bI, ite_bI]
  by_cases h2 : Has b (s.1 30 2)
  rotate_left
  · rw [if_neg h2, if_neg h2, bd2_some, ok_some, ok_some]
  rw [if_pos h2, if_pos h2, outside_eq, in_eq, bd1_some, bd1_some, ite_bI, ite_bI]
  by_cases h3 : InR c (cI 0) (cI 1)
  rotate_left
  · rw [if_pos h3, if_neg h3, bd2_some, ok_some, ok_some]
  have bb : inb b 12 = true := h2.inb n3
  have bx := h2.ix
  obtain ⟨s', t', v1, v2, ⟨v3, v4, -⟩, -⟩ := ways_ok hL T P hk h1
  rw [if_neg (fun u => u h3), if_pos h3, v1, v2, bd1_some, bd1_some]
  rcases in_01 h3 with u | u
  · rw [u, if_pos (show cI 0 = 0 from rfl), if_pos (show cI 0 = 0 from rfl), if_pos bb, if_pos bb, bd2_some, ok_some, ok_some]
    exact (v3 _ bx).symm
  · rw [u, if_neg (show ¬ cI 1 = 0 by decide), if_neg (show ¬ cI 1 = 0 by decide), if_pos bb, if_pos bb, bd2_some, ok_some, ok_some]
    exact (v4 _ bx).symm
end
