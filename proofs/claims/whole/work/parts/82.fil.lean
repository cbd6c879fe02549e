/-! ===== fills (printed) ===== -/
theorem e_gArr_fillI_20 (s : ev_M) (a : Int32) : gArr_fillI_20 s a = some (wR s 20 0 300 (fun _ => a)) := by
  have h := fill_gen (H := fun n s x => gArr_fillI_20_h5 n s a x (cI 300)) (c := 20) (off := 0) (N := 300) (f := fun _ => a) (K := some) (P := fun _ => True) (by decide)
    (fun n s x _ h1 h2 => by
      have e1 : x < cI 300 := lt_i.mpr h2
      have e2 : inb x 300 = true := inb_iff.mpr ⟨h1, h2⟩
      simp only [gArr_fillI_20_h5, if_pos e1, if_pos e2, ltM_eq, Nat.zero_add])
    (fun n s x _ h1 => by
      have e1 : ¬ x < cI 300 := fun z => by
        have z : x.toInt < 300 := lt_i.mp z
        omega
      simp only [gArr_fillI_20_h5, if_neg e1]) (fun _ _ _ h => h) 1048576 s (cI 0) trivial (by decide) (by decide) (by decide)
  exact h
theorem e_gArr_fillI_21 (s : ev_M) (a : Int32) : gArr_fillI_21 s a = some (wR s 21 0 300 (fun _ => a)) := by
  have h := fill_gen (H := fun n s x => gArr_fillI_21_h5 n s a x (cI 300)) (c := 21) (off := 0) (N := 300) (f := fun _ => a) (K := some) (P := fun _ => True) (by decide)
    (fun n s x _ h1 h2 => by
      have e1 : x < cI 300 := lt_i.mpr h2
      have e2 : inb x 300 = true := inb_iff.mpr ⟨h1, h2⟩
      simp only [gArr_fillI_21_h5, if_pos e1, if_pos e2, ltM_eq, Nat.zero_add])
    (fun n s x _ h1 => by
      have e1 : ¬ x < cI 300 := fun z => by
        have z : x.toInt < 300 := lt_i.mp z
        omega
      simp only [gArr_fillI_21_h5, if_neg e1]) (fun _ _ _ h => h) 1048576 s (cI 0) trivial (by decide) (by decide) (by decide)
  exact h
theorem e_gArr_fillI_28 (s : ev_M) (a : Int32) : gArr_fillI_28 s a = some (wR s 28 0 34 (fun _ => a)) := by
  have h := fill_gen (H := fun n s x => gArr_fillI_28_h5 n s a x (cI 34)) (c := 28) (off := 0) (N := 34) (f := fun _ => a) (K := some) (P := fun _ => True) (by decide)
    (fun n s x _ h1 h2 => by
      have e1 : x < cI 34 := lt_i.mpr h2
      have e2 : inb x 34 = true := inb_iff.mpr ⟨h1, h2⟩
      simp only [gArr_fillI_28_h5, if_pos e1, if_pos e2, ltM_eq, Nat.zero_add])
    (fun n s x _ h1 => by
      have e1 : ¬ x < cI 34 := fun z => by
        have z : x.toInt < 34 := lt_i.mp z
        omega
      simp only [gArr_fillI_28_h5, if_neg e1]) (fun _ _ _ h => h) 1048576 s (cI 0) trivial (by decide) (by decide) (by decide)
  exact h
theorem e_gArr_fillI_29 (s : ev_M) (a : Int32) : gArr_fillI_29 s a = some (wR s 29 0 8 (fun _ => a)) := by
  have h := fill_gen (H := fun n s x => gArr_fillI_29_h5 n s a x (cI 8)) (c := 29) (off := 0) (N := 8) (f := fun _ => a) (K := some) (P := fun _ => True) (by decide)
    (fun n s x _ h1 h2 => by
      have e1 : x < cI 8 := lt_i.mpr h2
      have e2 : inb x 8 = true := inb_iff.mpr ⟨h1, h2⟩
      simp only [gArr_fillI_29_h5, if_pos e1, if_pos e2, ltM_eq, Nat.zero_add])
    (fun n s x _ h1 => by
      have e1 : ¬ x < cI 8 := fun z => by
        have z : x.toInt < 8 := lt_i.mp z
        omega
      simp only [gArr_fillI_29_h5, if_neg e1]) (fun _ _ _ h => h) 1048576 s (cI 0) trivial (by decide) (by decide) (by decide)
  exact h
theorem e_gArr_fillI_158 (s : ev_M) (a : Int32) : gArr_fillI_158 s a = some (wR s 158 0 120 (fun _ => a)) := by
  have h := fill_gen (H := fun n s x => gArr_fillI_158_h5 n s a x (cI 120)) (c := 158) (off := 0) (N := 120) (f := fun _ => a) (K := some) (P := fun _ => True) (by decide)
    (fun n s x _ h1 h2 => by
      have e1 : x < cI 120 := lt_i.mpr h2
      have e2 : inb x 120 = true := inb_iff.mpr ⟨h1, h2⟩
      simp only [gArr_fillI_158_h5, if_pos e1, if_pos e2, ltM_eq, Nat.zero_add])
    (fun n s x _ h1 => by
      have e1 : ¬ x < cI 120 := fun z => by
        have z : x.toInt < 120 := lt_i.mp z
        omega
      simp only [gArr_fillI_158_h5, if_neg e1]) (fun _ _ _ h => h) 1048576 s (cI 0) trivial (by decide) (by decide) (by decide)
  exact h
