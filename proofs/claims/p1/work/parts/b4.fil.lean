/-! ===== fills (printed) ===== -/
theorem e_fArr_fillI_60 (s : ev_M) (a : Int32) : fArr_fillI_60 s a = some (wR s 60 0 200 (fun _ => a)) := by
  have h := fill_gen (H := fun n s x => fArr_fillI_60_h5 n s a x (cI 200)) (c := 60) (off := 0) (N := 200) (f := fun _ => a) (K := some) (P := fun _ => True) (by decide)
    (fun n s x _ h1 h2 => by
      have e1 : x < cI 200 := lt_i.mpr h2
      have e2 : inb x 200 = true := inb_iff.mpr ⟨h1, h2⟩
      simp only [fArr_fillI_60_h5, if_pos e1, if_pos e2, ltM_eq, Nat.zero_add])
    (fun n s x _ h1 => by
      have e1 : ¬ x < cI 200 := fun z => by
        have z : x.toInt < 200 := lt_i.mp z
        omega
      simp only [fArr_fillI_60_h5, if_neg e1]) (fun _ _ _ h => h) 1048576 s (cI 0) trivial (by decide) (by decide) (by decide)
  exact h
theorem e_fArr_fillI_130 (s : ev_M) (i0 : Nat) (a : Int32) : fArr_fillI_130 s i0 a = some (wR s (130 + i0) 0 10 (fun _ => a)) := by
  have h := fill_gen (H := fun n s x => fArr_fillI_130_h5 n s i0 a x (cI 10)) (c := (130 + i0)) (off := 0) (N := 10) (f := fun _ => a) (K := some) (P := fun _ => True) (by decide)
    (fun n s x _ h1 h2 => by
      have e1 : x < cI 10 := lt_i.mpr h2
      have e2 : inb x 10 = true := inb_iff.mpr ⟨h1, h2⟩
      simp only [fArr_fillI_130_h5, if_pos e1, if_pos e2, ltM_eq, Nat.zero_add])
    (fun n s x _ h1 => by
      have e1 : ¬ x < cI 10 := fun z => by
        have z : x.toInt < 10 := lt_i.mp z
        omega
      simp only [fArr_fillI_130_h5, if_neg e1]) (fun _ _ _ h => h) 1048576 s (cI 0) trivial (by decide) (by decide) (by decide)
  exact h
theorem e_fArr_fillL_12 (s : ev_M) (a : Int32) : fArr_fillL_12 s a = some (wR s 12 0 256 (fun _ => i2b a)) := by
  have h := fill_gen (H := fun n s x => fArr_fillL_12_h5 n s a x (cI 256)) (c := 12) (off := 0) (N := 256) (f := fun _ => i2b a) (K := some) (P := fun _ => True) (by decide)
    (fun n s x _ h1 h2 => by
      have e1 : x < cI 256 := lt_i.mpr h2
      have e2 : inb x 256 = true := inb_iff.mpr ⟨h1, h2⟩
      simp only [fArr_fillL_12_h5, if_pos e1, if_pos e2, ltM_eq, Nat.zero_add])
    (fun n s x _ h1 => by
      have e1 : ¬ x < cI 256 := fun z => by
        have z : x.toInt < 256 := lt_i.mp z
        omega
      simp only [fArr_fillL_12_h5, if_neg e1]) (fun _ _ _ h => h) 1048576 s (cI 0) trivial (by decide) (by decide) (by decide)
  exact h
theorem e_fArr_fillI_20 (s : ev_M) (a : Int32) : fArr_fillI_20 s a = some (wR s 20 0 300 (fun _ => a)) := by
  have h := fill_gen (H := fun n s x => fArr_fillI_20_h5 n s a x (cI 300)) (c := 20) (off := 0) (N := 300) (f := fun _ => a) (K := some) (P := fun _ => True) (by decide)
    (fun n s x _ h1 h2 => by
      have e1 : x < cI 300 := lt_i.mpr h2
      have e2 : inb x 300 = true := inb_iff.mpr ⟨h1, h2⟩
      simp only [fArr_fillI_20_h5, if_pos e1, if_pos e2, ltM_eq, Nat.zero_add])
    (fun n s x _ h1 => by
      have e1 : ¬ x < cI 300 := fun z => by
        have z : x.toInt < 300 := lt_i.mp z
        omega
      simp only [fArr_fillI_20_h5, if_neg e1]) (fun _ _ _ h => h) 1048576 s (cI 0) trivial (by decide) (by decide) (by decide)
  exact h
theorem e_fArr_fillI_21 (s : ev_M) (a : Int32) : fArr_fillI_21 s a = some (wR s 21 0 300 (fun _ => a)) := by
  have h := fill_gen (H := fun n s x => fArr_fillI_21_h5 n s a x (cI 300)) (c := 21) (off := 0) (N := 300) (f := fun _ => a) (K := some) (P := fun _ => True) (by decide)
    (fun n s x _ h1 h2 => by
      have e1 : x < cI 300 := lt_i.mpr h2
      have e2 : inb x 300 = true := inb_iff.mpr ⟨h1, h2⟩
      simp only [fArr_fillI_21_h5, if_pos e1, if_pos e2, ltM_eq, Nat.zero_add])
    (fun n s x _ h1 => by
      have e1 : ¬ x < cI 300 := fun z => by
        have z : x.toInt < 300 := lt_i.mp z
        omega
      simp only [fArr_fillI_21_h5, if_neg e1]) (fun _ _ _ h => h) 1048576 s (cI 0) trivial (by decide) (by decide) (by decide)
  exact h
theorem e_fArr_fillI_28 (s : ev_M) (a : Int32) : fArr_fillI_28 s a = some (wR s 28 0 34 (fun _ => a)) := by
  have h := fill_gen (H := fun n s x => fArr_fillI_28_h5 n s a x (cI 34)) (c := 28) (off := 0) (N := 34) (f := fun _ => a) (K := some) (P := fun _ => True) (by decide)
    (fun n s x _ h1 h2 => by
      have e1 : x < cI 34 := lt_i.mpr h2
      have e2 : inb x 34 = true := inb_iff.mpr ⟨h1, h2⟩
      simp only [fArr_fillI_28_h5, if_pos e1, if_pos e2, ltM_eq, Nat.zero_add])
    (fun n s x _ h1 => by
      have e1 : ¬ x < cI 34 := fun z => by
        have z : x.toInt < 34 := lt_i.mp z
        omega
      simp only [fArr_fillI_28_h5, if_neg e1]) (fun _ _ _ h => h) 1048576 s (cI 0) trivial (by decide) (by decide) (by decide)
  exact h
theorem e_fArr_fillI_29 (s : ev_M) (a : Int32) : fArr_fillI_29 s a = some (wR s 29 0 8 (fun _ => a)) := by
  have h := fill_gen (H := fun n s x => fArr_fillI_29_h5 n s a x (cI 8)) (c := 29) (off := 0) (N := 8) (f := fun _ => a) (K := some) (P := fun _ => True) (by decide)
    (fun n s x _ h1 h2 => by
      have e1 : x < cI 8 := lt_i.mpr h2
      have e2 : inb x 8 = true := inb_iff.mpr ⟨h1, h2⟩
      simp only [fArr_fillI_29_h5, if_pos e1, if_pos e2, ltM_eq, Nat.zero_add])
    (fun n s x _ h1 => by
      have e1 : ¬ x < cI 8 := fun z => by
        have z : x.toInt < 8 := lt_i.mp z
        omega
      simp only [fArr_fillI_29_h5, if_neg e1]) (fun _ _ _ h => h) 1048576 s (cI 0) trivial (by decide) (by decide) (by decide)
  exact h
theorem e_fArr_fillI_158 (s : ev_M) (a : Int32) : fArr_fillI_158 s a = some (wR s 158 0 120 (fun _ => a)) := by
  have h := fill_gen (H := fun n s x => fArr_fillI_158_h5 n s a x (cI 120)) (c := 158) (off := 0) (N := 120) (f := fun _ => a) (K := some) (P := fun _ => True) (by decide)
    (fun n s x _ h1 h2 => by
      have e1 : x < cI 120 := lt_i.mpr h2
      have e2 : inb x 120 = true := inb_iff.mpr ⟨h1, h2⟩
      simp only [fArr_fillI_158_h5, if_pos e1, if_pos e2, ltM_eq, Nat.zero_add])
    (fun n s x _ h1 => by
      have e1 : ¬ x < cI 120 := fun z => by
        have z : x.toInt < 120 := lt_i.mp z
        omega
      simp only [fArr_fillI_158_h5, if_neg e1]) (fun _ _ _ h => h) 1048576 s (cI 0) trivial (by decide) (by decide) (by decide)
  exact h
theorem e_fArr_fillI_124 (s : ev_M) (a : Int32) : fArr_fillI_124 s a = some (wR s 124 0 300 (fun _ => a)) := by
  have h := fill_gen (H := fun n s x => fArr_fillI_124_h5 n s a x (cI 300)) (c := 124) (off := 0) (N := 300) (f := fun _ => a) (K := some) (P := fun _ => True) (by decide)
    (fun n s x _ h1 h2 => by
      have e1 : x < cI 300 := lt_i.mpr h2
      have e2 : inb x 300 = true := inb_iff.mpr ⟨h1, h2⟩
      simp only [fArr_fillI_124_h5, if_pos e1, if_pos e2, ltM_eq, Nat.zero_add])
    (fun n s x _ h1 => by
      have e1 : ¬ x < cI 300 := fun z => by
        have z : x.toInt < 300 := lt_i.mp z
        omega
      simp only [fArr_fillI_124_h5, if_neg e1]) (fun _ _ _ h => h) 1048576 s (cI 0) trivial (by decide) (by decide) (by decide)
  exact h
