/-! ===== the law's table against its bytes: the pieces together ===== -/
theorem all_cut {α : Type} {l : List α} {p : α → Bool} (a n : Nat) (h1 : ((l.drop a).take n).all p = true) (h2 : (l.drop (a + n)).all p = true) : (l.drop a).all p = true := by
  have e : (l.drop a).drop n = l.drop (a + n) := by simp [List.drop_drop, Nat.add_comm]
  have h3 := List.take_append_drop n (l.drop a)
  rw [← h3, List.all_append, h1, e, h2]
  rfl
theorem e_539_end : ((k_L_law.drop 196).all fun row => row.all (chkE 539)) = true := by decide +kernel
theorem e_539 : (k_L_law.all fun row => row.all (chkE 539)) = true := (all_cut 0 12 e_539_0 (all_cut 12 12 e_539_1 (all_cut 24 12 e_539_2 (all_cut 36 12 e_539_3 (all_cut 48 12 e_539_4 (all_cut 60 12 e_539_5 (all_cut 72 12 e_539_6 (all_cut 84 12 e_539_7 (all_cut 96 4 e_539_s96 (all_cut 100 4 e_539_s100 (all_cut 104 4 e_539_s104 (all_cut 108 4 e_539_s108 (all_cut 112 4 e_539_s112 (all_cut 116 4 e_539_s116 (all_cut 120 4 e_539_s120 (all_cut 124 4 e_539_s124 (all_cut 128 4 e_539_s128 (all_cut 132 4 e_539_s132 (all_cut 136 4 e_539_s136 (all_cut 140 4 e_539_s140 (all_cut 144 4 e_539_s144 (all_cut 148 4 e_539_s148 (all_cut 152 4 e_539_s152 (all_cut 156 4 e_539_s156 (all_cut 160 4 e_539_s160 (all_cut 164 4 e_539_s164 (all_cut 168 4 e_539_s168 (all_cut 172 4 e_539_s172 (all_cut 176 4 e_539_s176 (all_cut 180 4 e_539_s180 (all_cut 184 4 e_539_s184 (all_cut 188 4 e_539_s188 (all_cut 192 4 e_539_s192 e_539_end)))))))))))))))))))))))))))))))))
