/-! ===== the interpreter does what the functions say, 1 ===== -/
theorem ti_fTape_append_1_h3 : ∀ (n : Nat) (s : ev_M) (x1 : Int32) (x2 : Int32) (q : ev_M), fTape_append_1_h3 n s x1 x2 = some q → RR 222 3 [oR 1 0, oI x1, oI x2] [] s (cvV q) := by
  intro n
  induction n with
  | zero => intro s x1 x2 q h; cases h
  | succ n ih =>
    have hk3 : ∀ {s : ev_M} {x1 : Int32} {x2 : Int32} {q : ev_M}, fTape_append_1_h3 n s x1 x2 = some q → RR 222 3 [oR 1 0, oI x1, oI x2] [] s (cvV q) := fun h => ih _ _ _ _ h
    intro s x1 x2 q h
    refine rg_step 2 (G' := fun f => if x2 < 0 then evT f 222 43 [oR 1 0, oI x1, oI x2] [] s else evT f 222 7 [oR 1 0, oI x1, oI x2] [] s) (fun _ => rfl) (rg_if h (fun h => ?_) fun h => ?_)
    · exact rg_end 1 (fun _ => rfl) (by cases h; rfl)
    · refine rg_step 4 (G' := fun f => if (s.1 1 1) < (cI 4096) then evT f 222 17 [oR 1 0, oI x1, oI x2] [] s else evT f 222 43 [oR 1 0, oI x1, oI x2] [] s) (fun _ => rfl) (rg_if h (fun h => ?_) fun h => ?_)
      · refine rg_step 9 (G' := fun f => evT f 222 32 [oR 1 0, oI x1, oI x2] [vI (s.1 1 1), vR 2 0] (wI s 1 1 ((s.1 1 1) + (cI 1)))) (fun _ => rfl) (rg_ltM h fun s1 h => ?_)
        refine rg_step 5 (G' := fun f => if inb (s.1 1 1) 4096 = true then evT f 222 37 [oR 1 0, oI x1, oI x2] [] (wI s1 2 (ix (s.1 1 1)) (i2b (i2b (x1 >>> (x2 &&& 31))))) else none) (fun _ => rfl) (rg_gd h fun h => rg_ltM h fun s2 h => ?_)
        exact rg_step 2 (G' := fun f => evT f 222 3 [oR 1 0, oI x1, oI (x2 + cI (-8))] [] s2) (fun f => Eq.trans (b := evT (f + 1 + 1) 222 37 [oR 1 0, oI x1, oI x2] [] s2) rfl ((ev_inc (f := f + 1) (M := 222) (pc := 37) (i := 2) (n := 3) (c := (-8)) (r := 0) (dl := []) (L := [oR 1 0, oI x1, oI x2]) (L' := [oR 1 0, oI x1, oI (x2 + cI (-8))]) (s := s2) (y := x2) rfl rfl rfl).trans rfl)) (hk3 h)
      · exact rg_end 1 (fun _ => rfl) (by cases h; rfl)
theorem t_fTape_append_1_h3 {n : Nat} {s : ev_M} {x1 : Int32} {x2 : Int32} {q : ev_M} (h : fTape_append_1_h3 n s x1 x2 = some q) : RR 222 3 [oR 1 0, oI x1, oI x2] [] s (cvV q) := ti_fTape_append_1_h3 n s x1 x2 q h
theorem T_fTape_append_1 {s : ev_M} {a1 : Int32} {q : ev_M} (h : fTape_append_1 s a1 = some q) : RR 222 0 [oR 1 0, oI a1, nn] [] s (cvV q) := by
  exact rg_step 2 (G' := fun f => evT f 222 3 [oR 1 0, oI a1, oI (cI 24)] [] s) (fun _ => rfl) ((t_fTape_append_1_h3) h)
theorem t_fPH_outside_b10 {s : ev_M} {j0 : Option ev_V} {j1 : Option ev_V} {j2 : Option ev_V} {q : Int32} (h : fPH_outside_b10 s = some q) : RR 308 10 [j0, j1, j2] [] s (cvP s q) := by
  exact rg_end 3 (fun _ => rfl) (by cases h; rfl)
theorem T_fPH_outside {s : ev_M} {a0 : Int32} {a1 : Int32} {a2 : Int32} {q : Int32} (h : fPH_outside s a0 a1 a2 = some q) : RR 308 0 [oI a0, oI a1, oI a2] [] s (cvP s q) := by
  refine rg_step 3 (G' := fun f => if a0 < a1 then evT f 308 10 [oI a0, oI a1, oI a2] [] s else evT f 308 5 [oI a0, oI a1, oI a2] [] s) (fun _ => rfl) (rg_if h (fun h => ?_) fun h => ?_)
  · exact (t_fPH_outside_b10) h
  · refine rg_step 3 (G' := fun f => if a0 ≤ a2 then evT f 308 14 [oI a0, oI a1, oI a2] [] s else evT f 308 10 [oI a0, oI a1, oI a2] [] s) (fun _ => rfl) (rg_if h (fun h => ?_) fun h => ?_)
    · exact rg_end 2 (fun _ => rfl) (by cases h; rfl)
    · exact (t_fPH_outside_b10) h
theorem T_fLog_hasByte {s : ev_M} {a0 : Int32} {a1 : Int32} {q : Int32} (h : fLog_hasByte s a0 a1 = some q) : RR 133 0 [oI a0, oI a1] [] s (cvP s q) := by
  refine rg_step 4 (G' := fun f => ev_after (evT f 308 0 [oI a0, oI (cI 1), oI (cI 150)] [] s) (fun q => evT f 133 8 [oI a0, oI a1] (q.2 ++ []) q.1)) (fun _ => rfl) (rg_bd1 h fun v1 hc h => rg_call (q := cvP s v1) (T_fPH_outside hc) ?_)
  refine rg_step 1 (G' := fun f => if v1 = 0 then evT f 133 11 [oI a0, oI a1] [] s else evT f 133 26 [oI a0, oI a1] [] s) (fun _ => rfl) (rg_if h (fun h => ?_) fun h => ?_)
  · refine rg_step 4 (G' := fun f => ev_after (evT f 308 0 [oI a1, oI (cI 0), oI (cI 255)] [] s) (fun q => evT f 133 19 [oI a0, oI a1] (q.2 ++ []) q.1)) (fun _ => rfl) (rg_bd1 h fun v2 hc h => rg_call (q := cvP s v2) (T_fPH_outside hc) ?_)
    refine rg_step 1 (G' := fun f => if v2 = 0 then evT f 133 22 [oI a0, oI a1] [] s else evT f 133 26 [oI a0, oI a1] [] s) (fun _ => rfl) (rg_if h (fun h => ?_) fun h => ?_)
    · exact rg_end 3 (fun _ => rfl) (by cases h; rfl)
    · exact rg_end 2 (fun _ => rfl) (by cases h; rfl)
  · exact rg_end 2 (fun _ => rfl) (by cases h; rfl)
theorem T_fLog_byteAt {s : ev_M} {a1 : Int32} {a2 : Int32} {q : Int32} (h : fLog_byteAt s a1 a2 = some q) : RR 134 0 [oR 9 0, oI a1, oI a2] [] s (cvP s q) := by
  refine rg_step 3 (G' := fun f => ev_after (evT f 133 0 [oI a1, oI a2] [] s) (fun q => evT f 134 5 [oR 9 0, oI a1, oI a2] (q.2 ++ []) q.1)) (fun _ => rfl) (rg_bd1 h fun v1 hc h => rg_call (q := cvP s v1) (T_fLog_hasByte hc) ?_)
  refine rg_step 1 (G' := fun f => if v1 = 0 then evT f 134 29 [oR 9 0, oI a1, oI a2] [] s else evT f 134 8 [oR 9 0, oI a1, oI a2] [] s) (fun _ => rfl) (rg_if h (fun h => ?_) fun h => ?_)
  · exact rg_end 2 (fun _ => rfl) (by cases h; rfl)
  · refine rg_step 10 (G' := fun f => if inb (((a1 - (cI 1)) * (cI 256)) + a2) 38400 = true then evT f 134 22 [oR 9 0, oI a1, oI a2] [vI (s.1 10 (ix (((a1 - (cI 1)) * (cI 256)) + a2)))] s else none) (fun _ => rfl) (rg_gd h fun h => ?_)
    exact rg_end 4 (fun _ => rfl) (by cases h; rfl)
theorem t_fLog_change_b28 {s : ev_M} {x1 : Int32} {x2 : Int32} {j3 : Option ev_V} {q : ev_M × Int32} (h : fLog_change_b28 s x1 x2 = some q) : RR 135 28 [oR 9 0, oI x1, oI x2, j3] [] s (cvI q) := by
  refine rg_step 4 (G' := fun f => ev_after (evT f 134 0 [oR 9 0, oI x1, oI x2] [] s) (fun q => evT f 135 34 [oR 9 0, oI x1, oI x2, nn] (q.2 ++ []) q.1)) (fun _ => rfl) (rg_bd1 h fun v1 hc h => rg_call (q := cvP s v1) (T_fLog_byteAt hc) ?_)
  exact rg_end 1 (fun _ => rfl) (by cases h; rfl)
theorem T_fLog_change {s : ev_M} {a1 : Int32} {a2 : Int32} {a3 : Int32} {q : ev_M × Int32} (h : fLog_change s a1 a2 a3 = some q) : RR 135 0 [oR 9 0, oI a1, oI a2, oI a3] [] s (cvI q) := by
  refine rg_step 3 (G' := fun f => ev_after (evT f 133 0 [oI a1, oI a2] [] s) (fun q => evT f 135 5 [oR 9 0, oI a1, oI a2, oI a3] (q.2 ++ []) q.1)) (fun _ => rfl) (rg_bd1 h fun v2 hc h => rg_call (q := cvP s v2) (T_fLog_hasByte hc) ?_)
  refine rg_step 1 (G' := fun f => if v2 = 0 then evT f 135 28 [oR 9 0, oI a1, oI a2, oI a3] [] s else evT f 135 8 [oR 9 0, oI a1, oI a2, oI a3] [] s) (fun _ => rfl) (rg_if h (fun h => ?_) fun h => ?_)
  · exact (t_fLog_change_b28) h
  · refine rg_step 11 (G' := fun f => if inb (((a1 - (cI 1)) * (cI 256)) + a2) 38400 = true then evT f 135 23 [oR 9 0, oI a1, oI a2, oI a3] [vI (s.1 10 (ix (((a1 - (cI 1)) * (cI 256)) + a2))), vI (((a1 - (cI 1)) * (cI 256)) + a2), vR 10 0] s else none) (fun _ => rfl) (rg_gd h fun h => ?_)
    refine rg_step 5 (G' := fun f => if inb (((a1 - (cI 1)) * (cI 256)) + a2) 38400 = true then evT f 135 28 [oR 9 0, oI a1, oI a2, oI a3] [] (wI s 10 (ix (((a1 - (cI 1)) * (cI 256)) + a2)) (i2b (i2b ((s.1 10 (ix (((a1 - (cI 1)) * (cI 256)) + a2))) ^^^ (i2b a3))))) else none) (fun _ => rfl) (rg_gd h fun h => rg_ltM h fun s3 h => ?_)
    exact (t_fLog_change_b28) h
theorem T_fM_note {s : ev_M} {a1 : Int32} {q : ev_M} (h : fM_note s a1 = some q) : RR 317 0 [oR 549 0, oI a1] [] s (cvV q) := by
  refine rg_step 7 (G' := fun f => if inb (s.1 549 9) 37200 = true then evT f 317 11 [oR 549 0, oI a1] [] (wI s 552 (ix (s.1 549 9)) (i2b (i2b a1))) else none) (fun _ => rfl) (rg_gd h fun h => rg_ltM h fun s1 h => ?_)
  refine rg_step 6 (G' := fun f => evT f 317 21 [oR 549 0, oI a1] [] (wI s1 549 9 ((s1.1 549 9) + (cI 1)))) (fun _ => rfl) (rg_ltM h fun s2 h => ?_)
  exact rg_end 1 (fun _ => rfl) (by cases h; rfl)
theorem T_fM_argumentsOf {s : ev_M} {a0 : Int32} {q : Int32} (h : fM_argumentsOf s a0 = some q) : RR 313 0 [oI a0] [] s (cvP s q) := by
  refine rg_step 2 (G' := fun f => if a0 = cI 1 then evT f 313 176 [oI a0] [] s else if a0 = cI 2 then evT f 313 184 [oI a0] [] s else if a0 = cI 3 then evT f 313 182 [oI a0] [] s else if a0 = cI 4 then evT f 313 178 [oI a0] [] s else if a0 = cI 5 then evT f 313 188 [oI a0] [] s else if a0 = cI 6 then evT f 313 180 [oI a0] [] s else if a0 = cI 7 then evT f 313 178 [oI a0] [] s else if a0 = cI 8 then evT f 313 182 [oI a0] [] s else if a0 = cI 9 then evT f 313 180 [oI a0] [] s else if a0 = cI 10 then evT f 313 184 [oI a0] [] s else if a0 = cI 11 then evT f 313 182 [oI a0] [] s else if a0 = cI 12 then evT f 313 180 [oI a0] [] s else if a0 = cI 13 then evT f 313 178 [oI a0] [] s else if a0 = cI 14 then evT f 313 178 [oI a0] [] s else if a0 = cI 15 then evT f 313 178 [oI a0] [] s else if a0 = cI 16 then evT f 313 186 [oI a0] [] s else if a0 = cI 17 then evT f 313 180 [oI a0] [] s else if a0 = cI 18 then evT f 313 180 [oI a0] [] s else if a0 = cI 19 then evT f 313 180 [oI a0] [] s else if a0 = cI 20 then evT f 313 178 [oI a0] [] s else if a0 = cI 21 then evT f 313 178 [oI a0] [] s else if a0 = cI 22 then evT f 313 184 [oI a0] [] s else if a0 = cI 23 then evT f 313 178 [oI a0] [] s else if a0 = cI 24 then evT f 313 178 [oI a0] [] s else if a0 = cI 25 then evT f 313 180 [oI a0] [] s else if a0 = cI 26 then evT f 313 184 [oI a0] [] s else if a0 = cI 27 then evT f 313 180 [oI a0] [] s else if a0 = cI 28 then evT f 313 178 [oI a0] [] s else if a0 = cI 29 then evT f 313 178 [oI a0] [] s else if a0 = cI 30 then evT f 313 180 [oI a0] [] s else if a0 = cI 31 then evT f 313 176 [oI a0] [] s else if a0 = cI 32 then evT f 313 178 [oI a0] [] s else if a0 = cI 33 then evT f 313 182 [oI a0] [] s else if a0 = cI 34 then evT f 313 182 [oI a0] [] s else if a0 = cI 35 then evT f 313 180 [oI a0] [] s else if a0 = cI 36 then evT f 313 180 [oI a0] [] s else if a0 = cI 37 then evT f 313 180 [oI a0] [] s else if a0 = cI 38 then evT f 313 184 [oI a0] [] s else if a0 = cI 39 then evT f 313 182 [oI a0] [] s else if a0 = cI 40 then evT f 313 178 [oI a0] [] s else evT f 313 188 [oI a0] [] s) (fun _ => rfl) ?_
  refine rg_if h (fun h => ?_) fun h => ?_
  · exact rg_end 2 (fun _ => rfl) (by cases h; rfl)
  refine rg_if h (fun h => ?_) fun h => ?_
  · exact rg_end 2 (fun _ => rfl) (by cases h; rfl)
  refine rg_if h (fun h => ?_) fun h => ?_
  · exact rg_end 2 (fun _ => rfl) (by cases h; rfl)
  refine rg_if h (fun h => ?_) fun h => ?_
  · exact rg_end 2 (fun _ => rfl) (by cases h; rfl)
  refine rg_if h (fun h => ?_) fun h => ?_
  · exact rg_end 2 (fun _ => rfl) (by cases h; rfl)
  refine rg_if h (fun h => ?_) fun h => ?_
  · exact rg_end 2 (fun _ => rfl) (by cases h; rfl)
  refine rg_if h (fun h => ?_) fun h => ?_
  · exact rg_end 2 (fun _ => rfl) (by cases h; rfl)
  refine rg_if h (fun h => ?_) fun h => ?_
  · exact rg_end 2 (fun _ => rfl) (by cases h; rfl)
  refine rg_if h (fun h => ?_) fun h => ?_
  · exact rg_end 2 (fun _ => rfl) (by cases h; rfl)
  refine rg_if h (fun h => ?_) fun h => ?_
  · exact rg_end 2 (fun _ => rfl) (by cases h; rfl)
  refine rg_if h (fun h => ?_) fun h => ?_
  · exact rg_end 2 (fun _ => rfl) (by cases h; rfl)
  refine rg_if h (fun h => ?_) fun h => ?_
  · exact rg_end 2 (fun _ => rfl) (by cases h; rfl)
  refine rg_if h (fun h => ?_) fun h => ?_
  · exact rg_end 2 (fun _ => rfl) (by cases h; rfl)
  refine rg_if h (fun h => ?_) fun h => ?_
  · exact rg_end 2 (fun _ => rfl) (by cases h; rfl)
  refine rg_if h (fun h => ?_) fun h => ?_
  · exact rg_end 2 (fun _ => rfl) (by cases h; rfl)
  refine rg_if h (fun h => ?_) fun h => ?_
  · exact rg_end 2 (fun _ => rfl) (by cases h; rfl)
  refine rg_if h (fun h => ?_) fun h => ?_
  · exact rg_end 2 (fun _ => rfl) (by cases h; rfl)
  refine rg_if h (fun h => ?_) fun h => ?_
  · exact rg_end 2 (fun _ => rfl) (by cases h; rfl)
  refine rg_if h (fun h => ?_) fun h => ?_
  · exact rg_end 2 (fun _ => rfl) (by cases h; rfl)
  refine rg_if h (fun h => ?_) fun h => ?_
  · exact rg_end 2 (fun _ => rfl) (by cases h; rfl)
  refine rg_if h (fun h => ?_) fun h => ?_
  · exact rg_end 2 (fun _ => rfl) (by cases h; rfl)
  refine rg_if h (fun h => ?_) fun h => ?_
  · exact rg_end 2 (fun _ => rfl) (by cases h; rfl)
  refine rg_if h (fun h => ?_) fun h => ?_
  · exact rg_end 2 (fun _ => rfl) (by cases h; rfl)
  refine rg_if h (fun h => ?_) fun h => ?_
  · exact rg_end 2 (fun _ => rfl) (by cases h; rfl)
  refine rg_if h (fun h => ?_) fun h => ?_
  · exact rg_end 2 (fun _ => rfl) (by cases h; rfl)
  refine rg_if h (fun h => ?_) fun h => ?_
  · exact rg_end 2 (fun _ => rfl) (by cases h; rfl)
  refine rg_if h (fun h => ?_) fun h => ?_
  · exact rg_end 2 (fun _ => rfl) (by cases h; rfl)
  refine rg_if h (fun h => ?_) fun h => ?_
  · exact rg_end 2 (fun _ => rfl) (by cases h; rfl)
  refine rg_if h (fun h => ?_) fun h => ?_
  · exact rg_end 2 (fun _ => rfl) (by cases h; rfl)
  refine rg_if h (fun h => ?_) fun h => ?_
  · exact rg_end 2 (fun _ => rfl) (by cases h; rfl)
  refine rg_if h (fun h => ?_) fun h => ?_
  · exact rg_end 2 (fun _ => rfl) (by cases h; rfl)
  refine rg_if h (fun h => ?_) fun h => ?_
  · exact rg_end 2 (fun _ => rfl) (by cases h; rfl)
  refine rg_if h (fun h => ?_) fun h => ?_
  · exact rg_end 2 (fun _ => rfl) (by cases h; rfl)
  refine rg_if h (fun h => ?_) fun h => ?_
  · exact rg_end 2 (fun _ => rfl) (by cases h; rfl)
  refine rg_if h (fun h => ?_) fun h => ?_
  · exact rg_end 2 (fun _ => rfl) (by cases h; rfl)
  refine rg_if h (fun h => ?_) fun h => ?_
  · exact rg_end 2 (fun _ => rfl) (by cases h; rfl)
  refine rg_if h (fun h => ?_) fun h => ?_
  · exact rg_end 2 (fun _ => rfl) (by cases h; rfl)
  refine rg_if h (fun h => ?_) fun h => ?_
  · exact rg_end 2 (fun _ => rfl) (by cases h; rfl)
  refine rg_if h (fun h => ?_) fun h => ?_
  · exact rg_end 2 (fun _ => rfl) (by cases h; rfl)
  refine rg_if h (fun h => ?_) fun h => ?_
  · exact rg_end 2 (fun _ => rfl) (by cases h; rfl)
  exact rg_end 2 (fun _ => rfl) (by cases h; rfl)
theorem t_fM_reads_b16 {s : ev_M} {j0 : Option ev_V} {q : Int32} (h : fM_reads_b16 s = some q) : RR 314 16 [j0] [] s (cvP s q) := by
  exact rg_end 3 (fun _ => rfl) (by cases h; rfl)
theorem T_fM_reads {s : ev_M} {a0 : Int32} {q : Int32} (h : fM_reads s a0 = some q) : RR 314 0 [oI a0] [] s (cvP s q) := by
  refine rg_step 3 (G' := fun f => if a0 = (cI 1) then evT f 314 16 [oI a0] [] s else evT f 314 5 [oI a0] [] s) (fun _ => rfl) (rg_if h (fun h => ?_) fun h => ?_)
  · exact (t_fM_reads_b16) h
  · refine rg_step 3 (G' := fun f => if a0 = (cI 4) then evT f 314 16 [oI a0] [] s else evT f 314 10 [oI a0] [] s) (fun _ => rfl) (rg_if h (fun h => ?_) fun h => ?_)
    · exact (t_fM_reads_b16) h
    · refine rg_step 3 (G' := fun f => if a0 = (cI 31) then evT f 314 16 [oI a0] [] s else evT f 314 20 [oI a0] [] s) (fun _ => rfl) (rg_if h (fun h => ?_) fun h => ?_)
      · exact (t_fM_reads_b16) h
      · exact rg_end 2 (fun _ => rfl) (by cases h; rfl)
theorem T_fM_in {s : ev_M} {a0 : Int32} {a1 : Int32} {a2 : Int32} {q : Int32} (h : fM_in s a0 a1 a2 = some q) : RR 311 0 [oI a0, oI a1, oI a2] [] s (cvP s q) := by
  refine rg_step 3 (G' := fun f => if a0 < a1 then evT f 311 14 [oI a0, oI a1, oI a2] [] s else evT f 311 5 [oI a0, oI a1, oI a2] [] s) (fun _ => rfl) (rg_if h (fun h => ?_) fun h => ?_)
  · exact rg_end 2 (fun _ => rfl) (by cases h; rfl)
  · refine rg_step 3 (G' := fun f => if a0 ≤ a2 then evT f 311 10 [oI a0, oI a1, oI a2] [] s else evT f 311 14 [oI a0, oI a1, oI a2] [] s) (fun _ => rfl) (rg_if h (fun h => ?_) fun h => ?_)
    · exact rg_end 3 (fun _ => rfl) (by cases h; rfl)
    · exact rg_end 2 (fun _ => rfl) (by cases h; rfl)
theorem T_fM_isCustomer {s : ev_M} {a1 : Int32} {q : Int32} (h : fM_isCustomer s a1 = some q) : RR 347 0 [oR 549 0, oI a1] [] s (cvP s q) := by
  refine rg_step 9 (G' := fun f => ev_after (evT f 311 0 [oI a1, oI (cI 4), oI (((cI 4) + (s.1 549 111)) - (cI 1))] [] s) (fun q => evT f 347 13 [oR 549 0, oI a1] (q.2 ++ []) q.1)) (fun _ => rfl) (rg_bd1 h fun v1 hc h => rg_call (q := cvP s v1) (T_fM_in hc) ?_)
  exact rg_step 1 (G' := fun f => if bz v1 = true then some (s, [vI v1]) else none) (fun _ => rfl) (rg_gd h fun h => rg_end 0 (fun _ => rfl) (by cases h; rfl))
theorem T_fM_no {s : ev_M} {a1 : Int32} {q : ev_M × Int32} (h : fM_no s a1 = some q) : RR 315 0 [oR 549 0, oI a1] [] s (cvI q) := by
  refine rg_step 3 (G' := fun f => evT f 315 5 [oR 549 0, oI a1] [] (wI s 549 15 (cI 1))) (fun _ => rfl) (rg_ltM h fun s1 h => ?_)
  exact rg_end 2 (fun _ => rfl) (by cases h; rfl)
theorem t_fM_full_b31 {s : ev_M} {y0 : Int32} {y1 : Int32} {j1 : Option ev_V} {q : Int32} (h : fM_full_b31 s y0 y1 = some q) : RR 316 31 [oR 549 0, j1] [vI y1, vI y0] s (cvP s q) := by
  refine rg_step 2 (G' := fun f => evT f 316 33 [oR 549 0, oI (y0 + y1)] [] s) (fun _ => rfl) (rg_ltI (P := fun v1 => RG (fun f => evT f 316 33 [oR 549 0, oI v1] [] s) (cvP s q)) h fun v1 h => ?_)
  refine rg_step 3 (G' := fun f => if (s.1 549 14) = 0 then evT f 316 40 [oR 549 0, oI v1] [] s else evT f 316 71 [oR 549 0, oI v1] [] s) (fun _ => rfl) (rg_if h (fun h => ?_) fun h => ?_)
  · refine rg_step 10 (G' := fun f => if (cI 248) = 0 then none else evT f 316 56 [oR 549 0, oI v1] [vI (((((s.1 549 9) + v1) + (cI 248)) - (cI 1)) / (cI 248))] s) (fun _ => rfl) (rg_dv h fun h => ?_)
    refine rg_step 5 (G' := fun f => if (((((s.1 549 9) + v1) + (cI 248)) - (cI 1)) / (cI 248)) ≤ ((cI 150) - (s.1 549 4)) then evT f 316 71 [oR 549 0, oI v1] [] s else evT f 316 67 [oR 549 0, oI v1] [] s) (fun _ => rfl) (rg_if h (fun h => ?_) fun h => ?_)
    · exact rg_end 2 (fun _ => rfl) (by cases h; rfl)
    · exact rg_end 3 (fun _ => rfl) (by cases h; rfl)
  · exact rg_end 2 (fun _ => rfl) (by cases h; rfl)
theorem T_fM_full {s : ev_M} {q : Int32} (h : fM_full s = some q) : RR 316 0 [oR 549 0, nn] [] s (cvP s q) := by
  refine rg_step 5 (G' := fun f => ev_after (evT f 313 0 [oI (s.1 549 16)] [] s) (fun q => evT f 316 9 [oR 549 0, nn] (q.2 ++ [vI (cI 4), vI (cI 1)]) q.1)) (fun _ => rfl) (rg_bd1 h fun v2 hc h => rg_call (q := cvP s v2) (T_fM_argumentsOf hc) ?_)
  refine rg_step 5 (G' := fun f => ev_after (evT f 314 0 [oI (s.1 549 16)] [] s) (fun q => evT f 316 18 [oR 549 0, nn] (q.2 ++ [vI ((cI 1) + ((cI 4) * v2))]) q.1)) (fun _ => rfl) (rg_bd1 h fun v3 hc h => rg_call (q := cvP s v3) (T_fM_reads hc) ?_)
  refine rg_step 1 (G' := fun f => if v3 = 0 then evT f 316 30 [oR 549 0, nn] [vI ((cI 1) + ((cI 4) * v2))] s else evT f 316 21 [oR 549 0, nn] [vI ((cI 1) + ((cI 4) * v2))] s) (fun _ => rfl) (rg_if h (fun h => ?_) fun h => ?_)
  · exact rg_step 1 (G' := fun f => evT f 316 31 [oR 549 0, nn] [vI (cI 0), vI ((cI 1) + ((cI 4) * v2))] s) (fun _ => rfl) ((t_fM_full_b31) h)
  · exact rg_step 5 (G' := fun f => evT f 316 31 [oR 549 0, nn] [vI ((cI 2) + (s.1 549 13)), vI ((cI 1) + ((cI 4) * v2))] s) (fun _ => rfl) ((t_fM_full_b31) h)
theorem t_fM_doWish_b105 {s : ev_M} {x3 : Int32} {x4 : Int32} {y1 : Int32} {y2 : Int32} {j0 : Option ev_V} {j1 : Option ev_V} {j2 : Option ev_V} {q : ev_M × Int32} (h : fM_doWish_b105 s x3 x4 y1 y2 = some q) : RR 520 105 [j0, j1, j2, oI x3, oI x4] [vI y2, vI y1, vR 627 0] s (cvI q) := by
  refine rg_step 1 (G' := fun f => if inb y1 30 = true then evT f 520 106 [nn, nn, nn, oI x3, oI x4] [] (wI s 627 (ix y1) y2) else none) (fun _ => rfl) (rg_gd h fun h => rg_ltM h fun s1 h => ?_)
  refine rg_step 3 (G' := fun f => if x4 = x3 then evT f 520 112 [nn, nn, nn, oI x3, oI x4] [] s1 else evT f 520 116 [nn, nn, nn, oI x3, oI x4] [] s1) (fun _ => rfl) (rg_if h (fun h => ?_) fun h => ?_)
  · exact rg_end 3 (fun _ => rfl) (by cases h; rfl)
  · exact rg_end 2 (fun _ => rfl) (by cases h; rfl)
theorem t_fM_doWish_b67 {s : ev_M} {x1 : Int32} {x2 : Int32} {x3 : Int32} {y0 : Int32} {j4 : Option ev_V} {q : ev_M × Int32} (h : fM_doWish_b67 s x1 x2 x3 y0 = some q) : RR 520 67 [oR 549 0, oI x1, oI x2, oI x3, j4] [vI y0] s (cvI q) := by
  refine rg_step 9 (G' := fun f => if y0 = x3 then evT f 520 82 [oR 549 0, oI x1, oI x2, oI x3, oI y0] [vI (x1 - (cI 4)), vR 627 0] s else evT f 520 93 [oR 549 0, oI x1, oI x2, oI x3, oI y0] [vI (x1 - (cI 4)), vR 627 0] s) (fun _ => rfl) (rg_if h (fun h => ?_) fun h => ?_)
  · refine rg_step 6 (G' := fun f => if inb (x1 - (cI 4)) 30 = true then evT f 520 90 [oR 549 0, oI x1, oI x2, oI x3, oI y0] [vI (s.1 627 (ix (x1 - (cI 4)))), vI (x1 - (cI 4)), vR 627 0] s else none) (fun _ => rfl) (rg_gd h fun h => ?_)
    exact rg_step 1 (G' := fun f => evT f 520 105 [oR 549 0, oI x1, oI x2, oI x3, oI y0] [vI (s.1 627 (ix (x1 - (cI 4)))), vI (x1 - (cI 4)), vR 627 0] s) (fun _ => rfl) ((t_fM_doWish_b105) h)
  · refine rg_step 6 (G' := fun f => if inb (x1 - (cI 4)) 30 = true then evT f 520 101 [oR 549 0, oI x1, oI x2, oI x3, oI y0] [vI (s.1 627 (ix (x1 - (cI 4)))), vI (x1 - (cI 4)), vR 627 0] s else none) (fun _ => rfl) (rg_gd h fun h => ?_)
    exact rg_step 4 (G' := fun f => evT f 520 105 [oR 549 0, oI x1, oI x2, oI x3, oI y0] [vI ((s.1 627 (ix (x1 - (cI 4)))) ^^^ ((cI 1) <<< (x2 &&& 31))), vI (x1 - (cI 4)), vR 627 0] s) (fun _ => rfl) ((t_fM_doWish_b105) h)
theorem T_fM_doWish {s : ev_M} {a1 : Int32} {a2 : Int32} {a3 : Int32} {q : ev_M × Int32} (h : fM_doWish s a1 a2 a3 = some q) : RR 520 0 [oR 549 0, oI a1, oI a2, oI a3, nn] [] s (cvI q) := by
  refine rg_step 3 (G' := fun f => ev_after (evT f 347 0 [oR 549 0, oI a1] [] s) (fun q => evT f 520 5 [oR 549 0, oI a1, oI a2, oI a3, nn] (q.2 ++ []) q.1)) (fun _ => rfl) (rg_bd1 h fun v2 hc h => rg_call (q := cvP s v2) (T_fM_isCustomer hc) ?_)
  refine rg_step 1 (G' := fun f => if v2 = 0 then evT f 520 8 [oR 549 0, oI a1, oI a2, oI a3, nn] [] s else evT f 520 15 [oR 549 0, oI a1, oI a2, oI a3, nn] [] s) (fun _ => rfl) (rg_if h (fun h => ?_) fun h => ?_)
  · refine rg_step 3 (G' := fun f => ev_after (evT f 315 0 [oR 549 0, oI (cI (-101))] [] s) (fun q => evT f 520 14 [oR 549 0, oI a1, oI a2, oI a3, nn] (q.2 ++ []) q.1)) (fun _ => rfl) (rg_bd2 h fun s3 v4 hc h => rg_call (q := cvI (s3, v4)) (T_fM_no hc) ?_)
    exact rg_end 1 (fun _ => rfl) (by cases h; rfl)
  · refine rg_step 4 (G' := fun f => ev_after (evT f 311 0 [oI a2, oI (cI 0), oI (cI 8)] [] s) (fun q => evT f 520 22 [oR 549 0, oI a1, oI a2, oI a3, nn] (q.2 ++ []) q.1)) (fun _ => rfl) (rg_bd1 h fun v5 hc h => rg_call (q := cvP s v5) (T_fM_in hc) ?_)
    refine rg_step 1 (G' := fun f => if v5 = 0 then evT f 520 25 [oR 549 0, oI a1, oI a2, oI a3, nn] [] s else evT f 520 32 [oR 549 0, oI a1, oI a2, oI a3, nn] [] s) (fun _ => rfl) (rg_if h (fun h => ?_) fun h => ?_)
    · refine rg_step 3 (G' := fun f => ev_after (evT f 315 0 [oR 549 0, oI (cI (-102))] [] s) (fun q => evT f 520 31 [oR 549 0, oI a1, oI a2, oI a3, nn] (q.2 ++ []) q.1)) (fun _ => rfl) (rg_bd2 h fun s6 v7 hc h => rg_call (q := cvI (s6, v7)) (T_fM_no hc) ?_)
      exact rg_end 1 (fun _ => rfl) (by cases h; rfl)
    · refine rg_step 2 (G' := fun f => ev_after (evT f 316 0 [oR 549 0, nn] [] s) (fun q => evT f 520 36 [oR 549 0, oI a1, oI a2, oI a3, nn] (q.2 ++ []) q.1)) (fun _ => rfl) (rg_bd1 h fun v8 hc h => rg_call (q := cvP s v8) (T_fM_full hc) ?_)
      refine rg_step 1 (G' := fun f => if v8 = 0 then evT f 520 46 [oR 549 0, oI a1, oI a2, oI a3, nn] [] s else evT f 520 39 [oR 549 0, oI a1, oI a2, oI a3, nn] [] s) (fun _ => rfl) (rg_if h (fun h => ?_) fun h => ?_)
      · refine rg_step 6 (G' := fun f => if inb (a1 - (cI 4)) 30 = true then evT f 520 54 [oR 549 0, oI a1, oI a2, oI a3, nn] [vI (s.1 627 (ix (a1 - (cI 4))))] s else none) (fun _ => rfl) (rg_gd h fun h => ?_)
        refine rg_step 6 (G' := fun f => if (((s.1 627 (ix (a1 - (cI 4)))) >>> (a2 &&& 31)) &&& (cI 1)) = (cI 1) then evT f 520 62 [oR 549 0, oI a1, oI a2, oI a3, nn] [] s else evT f 520 66 [oR 549 0, oI a1, oI a2, oI a3, nn] [] s) (fun _ => rfl) (rg_if h (fun h => ?_) fun h => ?_)
        · exact rg_step 2 (G' := fun f => evT f 520 67 [oR 549 0, oI a1, oI a2, oI a3, nn] [vI (cI 1)] s) (fun _ => rfl) ((t_fM_doWish_b67) h)
        · exact rg_step 1 (G' := fun f => evT f 520 67 [oR 549 0, oI a1, oI a2, oI a3, nn] [vI (cI 0)] s) (fun _ => rfl) ((t_fM_doWish_b67) h)
      · refine rg_step 3 (G' := fun f => ev_after (evT f 315 0 [oR 549 0, oI (cI (-104))] [] s) (fun q => evT f 520 45 [oR 549 0, oI a1, oI a2, oI a3, nn] (q.2 ++ []) q.1)) (fun _ => rfl) (rg_bd2 h fun s9 v10 hc h => rg_call (q := cvI (s9, v10)) (T_fM_no hc) ?_)
        exact rg_end 1 (fun _ => rfl) (by cases h; rfl)
theorem t_fM_has_b22 {s : ev_M} {j0 : Option ev_V} {j1 : Option ev_V} {j2 : Option ev_V} {j3 : Option ev_V} {q : Int32} (h : fM_has_b22 s = some q) : RR 362 22 [j0, j1, j2, j3] [] s (cvP s q) := by
  exact rg_end 3 (fun _ => rfl) (by cases h; rfl)
theorem T_fM_has {s : ev_M} {a0 : Int32} {a1 : Int32} {a2 : Int32} {a3 : Int32} {q : Int32} (h : fM_has s a0 a1 a2 a3 = some q) : RR 362 0 [oI a0, oI a1, oI a2, oI a3] [] s (cvP s q) := by
  refine rg_step 4 (G' := fun f => ev_after (evT f 311 0 [oI a3, oI a1, oI a2] [] s) (fun q => evT f 362 6 [oI a0, oI a1, oI a2, oI a3] (q.2 ++ []) q.1)) (fun _ => rfl) (rg_bd1 h fun v1 hc h => rg_call (q := cvP s v1) (T_fM_in hc) ?_)
  refine rg_step 1 (G' := fun f => if v1 = 0 then evT f 362 26 [oI a0, oI a1, oI a2, oI a3] [] s else evT f 362 9 [oI a0, oI a1, oI a2, oI a3] [] s) (fun _ => rfl) (rg_if h (fun h => ?_) fun h => ?_)
  · exact rg_end 2 (fun _ => rfl) (by cases h; rfl)
  · refine rg_step 2 (G' := fun f => if a0 = 0 then evT f 362 22 [oI a0, oI a1, oI a2, oI a3] [] s else evT f 362 13 [oI a0, oI a1, oI a2, oI a3] [] s) (fun _ => rfl) (rg_if h (fun h => ?_) fun h => ?_)
    · exact (t_fM_has_b22) h
    · refine rg_step 3 (G' := fun f => if (cI 2) = 0 then none else evT f 362 16 [oI a0, oI a1, oI a2, oI a3] [vI (irem a3 (cI 2))] s) (fun _ => rfl) (rg_dv h fun h => ?_)
      refine rg_step 3 (G' := fun f => if (cI 2) = 0 then none else evT f 362 19 [oI a0, oI a1, oI a2, oI a3] [vI (irem a0 (cI 2)), vI (irem a3 (cI 2))] s) (fun _ => rfl) (rg_dv h fun h => ?_)
      refine rg_step 1 (G' := fun f => if (irem a3 (cI 2)) = (irem a0 (cI 2)) then evT f 362 22 [oI a0, oI a1, oI a2, oI a3] [] s else evT f 362 26 [oI a0, oI a1, oI a2, oI a3] [] s) (fun _ => rfl) (rg_if h (fun h => ?_) fun h => ?_)
      · exact (t_fM_has_b22) h
      · exact rg_end 2 (fun _ => rfl) (by cases h; rfl)
theorem t_fM_inRange_b62 {s : ev_M} {k5 : Int32 → Int32 → Int32 → Int32 → Option Int32} (hk5 : ∀ {x1 : Int32} {x2 : Int32} {x3 : Int32} {x4 : Int32} {q : Int32}, k5 x1 x2 x3 x4 = some q → RR 363 5 [oR 549 0, oI x1, oI x2, oI x3, oI x4] [] s (cvP s q)) {x1 : Int32} {x2 : Int32} {x4 : Int32} {y0 : Int32} {j3 : Option ev_V} {q : Int32} (h : fM_inRange_b62 s k5 x1 x2 x4 y0 = some q) : RR 363 62 [oR 549 0, oI x1, oI x2, j3, oI x4] [vI y0] s (cvP s q) := by
  exact rg_step 3 (G' := fun f => evT f 363 5 [oR 549 0, oI x1, oI x2, oI y0, oI (x4 + cI 1)] [] s) (fun _ => rfl) (hk5 h)
theorem t_fM_inRange_b57 {s : ev_M} {k5 : Int32 → Int32 → Int32 → Int32 → Option Int32} (hk5 : ∀ {x1 : Int32} {x2 : Int32} {x3 : Int32} {x4 : Int32} {q : Int32}, k5 x1 x2 x3 x4 = some q → RR 363 5 [oR 549 0, oI x1, oI x2, oI x3, oI x4] [] s (cvP s q)) {x1 : Int32} {x2 : Int32} {x4 : Int32} {j3 : Option ev_V} {q : Int32} (h : fM_inRange_b57 s k5 x1 x2 x4 = some q) : RR 363 57 [oR 549 0, oI x1, oI x2, j3, oI x4] [] s (cvP s q) := by
  exact rg_step 2 (G' := fun f => evT f 363 62 [oR 549 0, oI x1, oI x2, nn, oI x4] [vI (cI 1)] s) (fun _ => rfl) ((t_fM_inRange_b62 hk5) h)
theorem t_fM_inRange_b61 {s : ev_M} {k5 : Int32 → Int32 → Int32 → Int32 → Option Int32} (hk5 : ∀ {x1 : Int32} {x2 : Int32} {x3 : Int32} {x4 : Int32} {q : Int32}, k5 x1 x2 x3 x4 = some q → RR 363 5 [oR 549 0, oI x1, oI x2, oI x3, oI x4] [] s (cvP s q)) {x1 : Int32} {x2 : Int32} {x4 : Int32} {j3 : Option ev_V} {q : Int32} (h : fM_inRange_b61 s k5 x1 x2 x4 = some q) : RR 363 61 [oR 549 0, oI x1, oI x2, j3, oI x4] [] s (cvP s q) := by
  exact rg_step 1 (G' := fun f => evT f 363 62 [oR 549 0, oI x1, oI x2, nn, oI x4] [vI (cI 0)] s) (fun _ => rfl) ((t_fM_inRange_b62 hk5) h)
theorem ti_fM_inRange_h5 {s : ev_M} : ∀ (n : Nat) (x1 : Int32) (x2 : Int32) (x3 : Int32) (x4 : Int32) (q : Int32), fM_inRange_h5 s n x1 x2 x3 x4 = some q → RR 363 5 [oR 549 0, oI x1, oI x2, oI x3, oI x4] [] s (cvP s q) := by
  intro n
  induction n with
  | zero => intro x1 x2 x3 x4 q h; cases h
  | succ n ih =>
    have hk5 : ∀ {x1 : Int32} {x2 : Int32} {x3 : Int32} {x4 : Int32} {q : Int32}, fM_inRange_h5 s n x1 x2 x3 x4 = some q → RR 363 5 [oR 549 0, oI x1, oI x2, oI x3, oI x4] [] s (cvP s q) := fun h => ih _ _ _ _ _ h
    intro x1 x2 x3 x4 q h
    refine rg_step 4 (G' := fun f => if x4 < (s.1 549 33) then evT f 363 14 [oR 549 0, oI x1, oI x2, oI x3, oI x4] [] s else evT f 363 69 [oR 549 0, oI x1, oI x2, oI x3, oI x4] [] s) (fun _ => rfl) (rg_if h (fun h => ?_) fun h => ?_)
    · refine rg_step 2 (G' := fun f => if x3 = 0 then evT f 363 18 [oR 549 0, oI x1, oI x2, oI x3, oI x4] [] s else evT f 363 57 [oR 549 0, oI x1, oI x2, oI x3, oI x4] [] s) (fun _ => rfl) (rg_if h (fun h => ?_) fun h => ?_)
      · refine rg_step 4 (G' := fun f => if inb x4 60 = true then evT f 363 25 [oR 549 0, oI x1, oI x2, oI x3, oI x4] [vI (s.1 565 (ix x4))] s else none) (fun _ => rfl) (rg_gd h fun h => ?_)
        refine rg_step 2 (G' := fun f => if (s.1 565 (ix x4)) = x1 then evT f 363 29 [oR 549 0, oI x1, oI x2, oI x3, oI x4] [] s else evT f 363 61 [oR 549 0, oI x1, oI x2, oI x3, oI x4] [] s) (fun _ => rfl) (rg_if h (fun h => ?_) fun h => ?_)
        · refine rg_step 4 (G' := fun f => if inb x4 60 = true then evT f 363 36 [oR 549 0, oI x1, oI x2, oI x3, oI x4] [vI (s.1 566 (ix x4))] s else none) (fun _ => rfl) (rg_gd h fun h => ?_)
          refine rg_step 4 (G' := fun f => if inb x4 60 = true then evT f 363 43 [oR 549 0, oI x1, oI x2, oI x3, oI x4] [vI (s.1 567 (ix x4)), vI (s.1 566 (ix x4))] s else none) (fun _ => rfl) (rg_gd h fun h => ?_)
          refine rg_step 4 (G' := fun f => if inb x4 60 = true then evT f 363 50 [oR 549 0, oI x1, oI x2, oI x3, oI x4] [vI (s.1 568 (ix x4)), vI (s.1 567 (ix x4)), vI (s.1 566 (ix x4))] s else none) (fun _ => rfl) (rg_gd h fun h => ?_)
          refine rg_step 2 (G' := fun f => ev_after (evT f 362 0 [oI (s.1 566 (ix x4)), oI (s.1 567 (ix x4)), oI (s.1 568 (ix x4)), oI x2] [] s) (fun q => evT f 363 54 [oR 549 0, oI x1, oI x2, oI x3, oI x4] (q.2 ++ []) q.1)) (fun _ => rfl) (rg_bd1 h fun v1 hc h => rg_call (q := cvP s v1) (T_fM_has hc) ?_)
          refine rg_step 1 (G' := fun f => if v1 = 0 then evT f 363 61 [oR 549 0, oI x1, oI x2, oI x3, oI x4] [] s else evT f 363 57 [oR 549 0, oI x1, oI x2, oI x3, oI x4] [] s) (fun _ => rfl) (rg_if h (fun h => ?_) fun h => ?_)
          · exact (t_fM_inRange_b61 hk5) h
          · exact (t_fM_inRange_b57 hk5) h
        · exact (t_fM_inRange_b61 hk5) h
      · exact (t_fM_inRange_b57 hk5) h
    · exact rg_step 2 (G' := fun f => if bz x3 = true then some (s, [vI x3]) else none) (fun _ => rfl) (rg_gd h fun h => rg_end 0 (fun _ => rfl) (by cases h; rfl))
theorem t_fM_inRange_h5 {s : ev_M} {n : Nat} {x1 : Int32} {x2 : Int32} {x3 : Int32} {x4 : Int32} {q : Int32} (h : fM_inRange_h5 s n x1 x2 x3 x4 = some q) : RR 363 5 [oR 549 0, oI x1, oI x2, oI x3, oI x4] [] s (cvP s q) := ti_fM_inRange_h5 n x1 x2 x3 x4 q h
theorem T_fM_inRange {s : ev_M} {a1 : Int32} {a2 : Int32} {q : Int32} (h : fM_inRange s a1 a2 = some q) : RR 363 0 [oR 549 0, oI a1, oI a2, nn, nn] [] s (cvP s q) := by
  exact rg_step 4 (G' := fun f => evT f 363 5 [oR 549 0, oI a1, oI a2, oI (cI 0), oI (cI 0)] [] s) (fun _ => rfl) ((t_fM_inRange_h5) h)
theorem t_fM_pointWith_b42 {s : ev_M} {k5 : Int32 → Int32 → Int32 → Int32 → Option Int32} (hk5 : ∀ {x1 : Int32} {x2 : Int32} {x3 : Int32} {x4 : Int32} {q : Int32}, k5 x1 x2 x3 x4 = some q → RR 364 5 [oR 549 0, oI x1, oI x2, oI x3, oI x4] [] s (cvP s q)) {x1 : Int32} {x2 : Int32} {x4 : Int32} {y0 : Int32} {j3 : Option ev_V} {q : Int32} (h : fM_pointWith_b42 s k5 x1 x2 x4 y0 = some q) : RR 364 42 [oR 549 0, oI x1, oI x2, j3, oI x4] [vI y0] s (cvP s q) := by
  exact rg_step 3 (G' := fun f => evT f 364 5 [oR 549 0, oI x1, oI x2, oI y0, oI (x4 + cI 1)] [] s) (fun _ => rfl) (hk5 h)
theorem t_fM_pointWith_b41 {s : ev_M} {k5 : Int32 → Int32 → Int32 → Int32 → Option Int32} (hk5 : ∀ {x1 : Int32} {x2 : Int32} {x3 : Int32} {x4 : Int32} {q : Int32}, k5 x1 x2 x3 x4 = some q → RR 364 5 [oR 549 0, oI x1, oI x2, oI x3, oI x4] [] s (cvP s q)) {x1 : Int32} {x2 : Int32} {x3 : Int32} {x4 : Int32} {q : Int32} (h : fM_pointWith_b41 s k5 x1 x2 x3 x4 = some q) : RR 364 41 [oR 549 0, oI x1, oI x2, oI x3, oI x4] [] s (cvP s q) := by
  exact rg_step 1 (G' := fun f => evT f 364 42 [oR 549 0, oI x1, oI x2, oI x3, oI x4] [vI x3] s) (fun _ => rfl) ((t_fM_pointWith_b42 hk5) h)
theorem ti_fM_pointWith_h5 {s : ev_M} : ∀ (n : Nat) (x1 : Int32) (x2 : Int32) (x3 : Int32) (x4 : Int32) (q : Int32), fM_pointWith_h5 s n x1 x2 x3 x4 = some q → RR 364 5 [oR 549 0, oI x1, oI x2, oI x3, oI x4] [] s (cvP s q) := by
  intro n
  induction n with
  | zero => intro x1 x2 x3 x4 q h; cases h
  | succ n ih =>
    have hk5 : ∀ {x1 : Int32} {x2 : Int32} {x3 : Int32} {x4 : Int32} {q : Int32}, fM_pointWith_h5 s n x1 x2 x3 x4 = some q → RR 364 5 [oR 549 0, oI x1, oI x2, oI x3, oI x4] [] s (cvP s q) := fun h => ih _ _ _ _ _ h
    intro x1 x2 x3 x4 q h
    refine rg_step 4 (G' := fun f => if x4 < (s.1 549 38) then evT f 364 14 [oR 549 0, oI x1, oI x2, oI x3, oI x4] [] s else evT f 364 49 [oR 549 0, oI x1, oI x2, oI x3, oI x4] [] s) (fun _ => rfl) (rg_if h (fun h => ?_) fun h => ?_)
    · refine rg_step 4 (G' := fun f => if inb x4 120 = true then evT f 364 21 [oR 549 0, oI x1, oI x2, oI x3, oI x4] [vI (s.1 569 (ix x4))] s else none) (fun _ => rfl) (rg_gd h fun h => ?_)
      refine rg_step 2 (G' := fun f => if (s.1 569 (ix x4)) = x1 then evT f 364 25 [oR 549 0, oI x1, oI x2, oI x3, oI x4] [] s else evT f 364 41 [oR 549 0, oI x1, oI x2, oI x3, oI x4] [] s) (fun _ => rfl) (rg_if h (fun h => ?_) fun h => ?_)
      · refine rg_step 4 (G' := fun f => if inb x4 120 = true then evT f 364 32 [oR 549 0, oI x1, oI x2, oI x3, oI x4] [vI (s.1 570 (ix x4))] s else none) (fun _ => rfl) (rg_gd h fun h => ?_)
        refine rg_step 2 (G' := fun f => if (s.1 570 (ix x4)) = x2 then evT f 364 36 [oR 549 0, oI x1, oI x2, oI x3, oI x4] [] s else evT f 364 41 [oR 549 0, oI x1, oI x2, oI x3, oI x4] [] s) (fun _ => rfl) (rg_if h (fun h => ?_) fun h => ?_)
        · exact rg_step 2 (G' := fun f => evT f 364 42 [oR 549 0, oI x1, oI x2, oI x3, oI x4] [vI x4] s) (fun _ => rfl) ((t_fM_pointWith_b42 hk5) h)
        · exact (t_fM_pointWith_b41 hk5) h
      · exact (t_fM_pointWith_b41 hk5) h
    · exact rg_end 2 (fun _ => rfl) (by cases h; rfl)
theorem t_fM_pointWith_h5 {s : ev_M} {n : Nat} {x1 : Int32} {x2 : Int32} {x3 : Int32} {x4 : Int32} {q : Int32} (h : fM_pointWith_h5 s n x1 x2 x3 x4 = some q) : RR 364 5 [oR 549 0, oI x1, oI x2, oI x3, oI x4] [] s (cvP s q) := ti_fM_pointWith_h5 n x1 x2 x3 x4 q h
theorem T_fM_pointWith {s : ev_M} {a1 : Int32} {a2 : Int32} {q : Int32} (h : fM_pointWith s a1 a2 = some q) : RR 364 0 [oR 549 0, oI a1, oI a2, nn, nn] [] s (cvP s q) := by
  exact rg_step 4 (G' := fun f => evT f 364 5 [oR 549 0, oI a1, oI a2, oI (cI (-1)), oI (cI 0)] [] s) (fun _ => rfl) ((t_fM_pointWith_h5) h)
theorem T_fM_addPoint {s : ev_M} {a1 : Int32} {a2 : Int32} {q : ev_M × Int32} (h : fM_addPoint s a1 a2 = some q) : RR 368 0 [oR 549 0, oI a1, oI a2] [] s (cvI q) := by
  refine rg_step 3 (G' := fun f => if a1 = (cI (-1)) then evT f 368 33 [oR 549 0, oI a1, oI a2] [] s else evT f 368 5 [oR 549 0, oI a1, oI a2] [] s) (fun _ => rfl) (rg_if h (fun h => ?_) fun h => ?_)
  · exact rg_end 2 (fun _ => rfl) (by cases h; rfl)
  · refine rg_step 4 (G' := fun f => ev_after (evT f 363 0 [oR 549 0, oI a1, oI a2, nn, nn] [] s) (fun q => evT f 368 11 [oR 549 0, oI a1, oI a2] (q.2 ++ []) q.1)) (fun _ => rfl) (rg_bd1 h fun v1 hc h => rg_call (q := cvP s v1) (T_fM_inRange hc) ?_)
    refine rg_step 1 (G' := fun f => if v1 = 0 then evT f 368 33 [oR 549 0, oI a1, oI a2] [] s else evT f 368 14 [oR 549 0, oI a1, oI a2] [] s) (fun _ => rfl) (rg_if h (fun h => ?_) fun h => ?_)
    · exact rg_end 2 (fun _ => rfl) (by cases h; rfl)
    · refine rg_step 4 (G' := fun f => ev_after (evT f 364 0 [oR 549 0, oI a1, oI a2, nn, nn] [] s) (fun q => evT f 368 20 [oR 549 0, oI a1, oI a2] (q.2 ++ []) q.1)) (fun _ => rfl) (rg_bd1 h fun v2 hc h => rg_call (q := cvP s v2) (T_fM_pointWith hc) ?_)
      refine rg_step 2 (G' := fun f => if v2 = (cI (-1)) then evT f 368 24 [oR 549 0, oI a1, oI a2] [] s else evT f 368 33 [oR 549 0, oI a1, oI a2] [] s) (fun _ => rfl) (rg_if h (fun h => ?_) fun h => ?_)
      · refine rg_step 4 (G' := fun f => if (s.1 549 38) = (cI 120) then evT f 368 33 [oR 549 0, oI a1, oI a2] [] s else evT f 368 35 [oR 549 0, oI a1, oI a2] [] s) (fun _ => rfl) (rg_if h (fun h => ?_) fun h => ?_)
        · exact rg_end 2 (fun _ => rfl) (by cases h; rfl)
        · refine rg_step 6 (G' := fun f => if inb (s.1 549 38) 120 = true then evT f 368 45 [oR 549 0, oI a1, oI a2] [] (wI s 569 (ix (s.1 549 38)) a1) else none) (fun _ => rfl) (rg_gd h fun h => rg_ltM h fun s3 h => ?_)
          refine rg_step 6 (G' := fun f => if inb (s3.1 549 38) 120 = true then evT f 368 55 [oR 549 0, oI a1, oI a2] [] (wI s3 570 (ix (s3.1 549 38)) a2) else none) (fun _ => rfl) (rg_gd h fun h => rg_ltM h fun s4 h => ?_)
          refine rg_step 6 (G' := fun f => if inb (s4.1 549 38) 120 = true then evT f 368 65 [oR 549 0, oI a1, oI a2] [] (wI s4 571 (ix (s4.1 549 38)) (cI (-1))) else none) (fun _ => rfl) (rg_gd h fun h => rg_ltM h fun s5 h => ?_)
          refine rg_step 6 (G' := fun f => evT f 368 75 [oR 549 0, oI a1, oI a2] [] (wI s5 549 38 ((s5.1 549 38) + (cI 1)))) (fun _ => rfl) (rg_ltM h fun s6 h => ?_)
          exact rg_end 2 (fun _ => rfl) (by cases h; rfl)
      · exact rg_end 2 (fun _ => rfl) (by cases h; rfl)
theorem t_fM_placeWith_b27 {s : ev_M} {k4 : Int32 → Int32 → Int32 → Option Int32} (hk4 : ∀ {x1 : Int32} {x2 : Int32} {x3 : Int32} {q : Int32}, k4 x1 x2 x3 = some q → RR 360 4 [oR 549 0, oI x1, oI x2, oI x3] [] s (cvP s q)) {x1 : Int32} {x3 : Int32} {y0 : Int32} {j2 : Option ev_V} {q : Int32} (h : fM_placeWith_b27 s k4 x1 x3 y0 = some q) : RR 360 27 [oR 549 0, oI x1, j2, oI x3] [vI y0] s (cvP s q) := by
  exact rg_step 3 (G' := fun f => evT f 360 4 [oR 549 0, oI x1, oI y0, oI (x3 + cI 1)] [] s) (fun _ => rfl) (hk4 h)
theorem ti_fM_placeWith_h4 {s : ev_M} : ∀ (n : Nat) (x1 : Int32) (x2 : Int32) (x3 : Int32) (q : Int32), fM_placeWith_h4 s n x1 x2 x3 = some q → RR 360 4 [oR 549 0, oI x1, oI x2, oI x3] [] s (cvP s q) := by
  intro n
  induction n with
  | zero => intro x1 x2 x3 q h; cases h
  | succ n ih =>
    have hk4 : ∀ {x1 : Int32} {x2 : Int32} {x3 : Int32} {q : Int32}, fM_placeWith_h4 s n x1 x2 x3 = some q → RR 360 4 [oR 549 0, oI x1, oI x2, oI x3] [] s (cvP s q) := fun h => ih _ _ _ _ h
    intro x1 x2 x3 q h
    refine rg_step 4 (G' := fun f => if x3 < (s.1 549 24) then evT f 360 12 [oR 549 0, oI x1, oI x2, oI x3] [] s else evT f 360 34 [oR 549 0, oI x1, oI x2, oI x3] [] s) (fun _ => rfl) (rg_if h (fun h => ?_) fun h => ?_)
    · refine rg_step 4 (G' := fun f => if inb x3 12 = true then evT f 360 18 [oR 549 0, oI x1, oI x2, oI x3] [vI (s.1 558 (ix x3))] s else none) (fun _ => rfl) (rg_gd h fun h => ?_)
      refine rg_step 2 (G' := fun f => if (s.1 558 (ix x3)) = x1 then evT f 360 22 [oR 549 0, oI x1, oI x2, oI x3] [] s else evT f 360 26 [oR 549 0, oI x1, oI x2, oI x3] [] s) (fun _ => rfl) (rg_if h (fun h => ?_) fun h => ?_)
      · exact rg_step 2 (G' := fun f => evT f 360 27 [oR 549 0, oI x1, oI x2, oI x3] [vI x3] s) (fun _ => rfl) ((t_fM_placeWith_b27 hk4) h)
      · exact rg_step 1 (G' := fun f => evT f 360 27 [oR 549 0, oI x1, oI x2, oI x3] [vI x2] s) (fun _ => rfl) ((t_fM_placeWith_b27 hk4) h)
    · exact rg_end 2 (fun _ => rfl) (by cases h; rfl)
theorem t_fM_placeWith_h4 {s : ev_M} {n : Nat} {x1 : Int32} {x2 : Int32} {x3 : Int32} {q : Int32} (h : fM_placeWith_h4 s n x1 x2 x3 = some q) : RR 360 4 [oR 549 0, oI x1, oI x2, oI x3] [] s (cvP s q) := ti_fM_placeWith_h4 n x1 x2 x3 q h
theorem T_fM_placeWith {s : ev_M} {a1 : Int32} {q : Int32} (h : fM_placeWith s a1 = some q) : RR 360 0 [oR 549 0, oI a1, nn, nn] [] s (cvP s q) := by
  exact rg_step 4 (G' := fun f => evT f 360 4 [oR 549 0, oI a1, oI (cI (-1)), oI (cI 0)] [] s) (fun _ => rfl) ((t_fM_placeWith_h4) h)
theorem T_fM_addPlace {s : ev_M} {a1 : Int32} {a2 : Int64} {q : ev_M × Int32} (h : fM_addPlace s a1 a2 = some q) : RR 365 0 [oR 549 0, oI a1, oL a2, nn] [] s (cvI q) := by
  refine rg_step 4 (G' := fun f => ev_after (evT f 311 0 [oI a1, oI (cI 1), oI (cI 99999)] [] s) (fun q => evT f 365 8 [oR 549 0, oI a1, oL a2, nn] (q.2 ++ []) q.1)) (fun _ => rfl) (rg_bd1 h fun v1 hc h => rg_call (q := cvP s v1) (T_fM_in hc) ?_)
  refine rg_step 1 (G' := fun f => if v1 = 0 then evT f 365 29 [oR 549 0, oI a1, oL a2, nn] [] s else evT f 365 11 [oR 549 0, oI a1, oL a2, nn] [] s) (fun _ => rfl) (rg_if h (fun h => ?_) fun h => ?_)
  · exact rg_end 2 (fun _ => rfl) (by cases h; rfl)
  · refine rg_step 3 (G' := fun f => ev_after (evT f 360 0 [oR 549 0, oI a1, nn, nn] [] s) (fun q => evT f 365 16 [oR 549 0, oI a1, oL a2, nn] (q.2 ++ []) q.1)) (fun _ => rfl) (rg_bd1 h fun v2 hc h => rg_call (q := cvP s v2) (T_fM_placeWith hc) ?_)
    refine rg_step 2 (G' := fun f => if v2 = (cI (-1)) then evT f 365 20 [oR 549 0, oI a1, oL a2, nn] [] s else evT f 365 29 [oR 549 0, oI a1, oL a2, nn] [] s) (fun _ => rfl) (rg_if h (fun h => ?_) fun h => ?_)
    · refine rg_step 4 (G' := fun f => if (s.1 549 24) = (cI 12) then evT f 365 29 [oR 549 0, oI a1, oL a2, nn] [] s else evT f 365 31 [oR 549 0, oI a1, oL a2, nn] [] s) (fun _ => rfl) (rg_if h (fun h => ?_) fun h => ?_)
      · exact rg_end 2 (fun _ => rfl) (by cases h; rfl)
      · refine rg_step 6 (G' := fun f => if inb (s.1 549 24) 12 = true then evT f 365 41 [oR 549 0, oI a1, oL a2, nn] [] (wI s 558 (ix (s.1 549 24)) a1) else none) (fun _ => rfl) (rg_gd h fun h => rg_ltM h fun s3 h => ?_)
        refine rg_step 6 (G' := fun f => if inb (s3.1 549 24) 12 = true then evT f 365 51 [oR 549 0, oI a1, oL a2, nn] [] (wL s3 559 (ix (s3.1 549 24)) a2) else none) (fun _ => rfl) (rg_gd h fun h => rg_ltM h fun s4 h => ?_)
        refine rg_step 6 (G' := fun f => evT f 365 61 [oR 549 0, oI a1, oL a2, nn] [] (wI s4 549 24 ((s4.1 549 24) + (cI 1)))) (fun _ => rfl) (rg_ltM h fun s5 h => ?_)
        exact rg_end 2 (fun _ => rfl) (by cases h; rfl)
    · exact rg_end 2 (fun _ => rfl) (by cases h; rfl)
theorem t_fM_addRange_b82 {k51 : ev_M → Int32 → Int32 → Int32 → Int32 → Int32 → Option (ev_M × Int32)} (hk51 : ∀ {s : ev_M} {x1 : Int32} {x2 : Int32} {x3 : Int32} {x4 : Int32} {x5 : Int32} {q : ev_M × Int32}, k51 s x1 x2 x3 x4 x5 = some q → RR 367 51 [oR 549 0, oI x1, oI x2, oI x3, oI x4, oI x5] [] s (cvI q)) {s : ev_M} {x1 : Int32} {x2 : Int32} {x3 : Int32} {x4 : Int32} {x5 : Int32} {q : ev_M × Int32} (h : fM_addRange_b82 k51 s x1 x2 x3 x4 x5 = some q) : RR 367 82 [oR 549 0, oI x1, oI x2, oI x3, oI x4, oI x5] [] s (cvI q) := by
  exact rg_step 2 (G' := fun f => evT f 367 51 [oR 549 0, oI x1, oI x2, oI x3, oI x4, oI (x5 + cI 1)] [] s) (fun _ => rfl) (hk51 h)
theorem ti_fM_addRange_h51 : ∀ (n : Nat) (s : ev_M) (x1 : Int32) (x2 : Int32) (x3 : Int32) (x4 : Int32) (x5 : Int32) (q : ev_M × Int32), fM_addRange_h51 n s x1 x2 x3 x4 x5 = some q → RR 367 51 [oR 549 0, oI x1, oI x2, oI x3, oI x4, oI x5] [] s (cvI q) := by
  intro n
  induction n with
  | zero => intro s x1 x2 x3 x4 x5 q h; cases h
  | succ n ih =>
    have hk51 : ∀ {s : ev_M} {x1 : Int32} {x2 : Int32} {x3 : Int32} {x4 : Int32} {x5 : Int32} {q : ev_M × Int32}, fM_addRange_h51 n s x1 x2 x3 x4 x5 = some q → RR 367 51 [oR 549 0, oI x1, oI x2, oI x3, oI x4, oI x5] [] s (cvI q) := fun h => ih _ _ _ _ _ _ _ h
    intro s x1 x2 x3 x4 x5 q h
    refine rg_step 3 (G' := fun f => if x5 ≤ x4 then evT f 367 58 [oR 549 0, oI x1, oI x2, oI x3, oI x4, oI x5] [] s else evT f 367 88 [oR 549 0, oI x1, oI x2, oI x3, oI x4, oI x5] [] s) (fun _ => rfl) (rg_if h (fun h => ?_) fun h => ?_)
    · refine rg_step 5 (G' := fun f => ev_after (evT f 362 0 [oI x2, oI x3, oI x4, oI x5] [] s) (fun q => evT f 367 67 [oR 549 0, oI x1, oI x2, oI x3, oI x4, oI x5] (q.2 ++ []) q.1)) (fun _ => rfl) (rg_bd1 h fun v1 hc h => rg_call (q := cvP s v1) (T_fM_has hc) ?_)
      refine rg_step 1 (G' := fun f => if v1 = 0 then evT f 367 82 [oR 549 0, oI x1, oI x2, oI x3, oI x4, oI x5] [] s else evT f 367 70 [oR 549 0, oI x1, oI x2, oI x3, oI x4, oI x5] [] s) (fun _ => rfl) (rg_if h (fun h => ?_) fun h => ?_)
      · exact (t_fM_addRange_b82 hk51) h
      · refine rg_step 4 (G' := fun f => ev_after (evT f 363 0 [oR 549 0, oI x1, oI x5, nn, nn] [] s) (fun q => evT f 367 77 [oR 549 0, oI x1, oI x2, oI x3, oI x4, oI x5] (q.2 ++ []) q.1)) (fun _ => rfl) (rg_bd1 h fun v2 hc h => rg_call (q := cvP s v2) (T_fM_inRange hc) ?_)
        refine rg_step 1 (G' := fun f => if v2 = 0 then evT f 367 82 [oR 549 0, oI x1, oI x2, oI x3, oI x4, oI x5] [] s else evT f 367 80 [oR 549 0, oI x1, oI x2, oI x3, oI x4, oI x5] [] s) (fun _ => rfl) (rg_if h (fun h => ?_) fun h => ?_)
        · exact (t_fM_addRange_b82 hk51) h
        · exact rg_end 2 (fun _ => rfl) (by cases h; rfl)
    · refine rg_step 6 (G' := fun f => if inb (s.1 549 33) 60 = true then evT f 367 98 [oR 549 0, oI x1, oI x2, oI x3, oI x4, oI x5] [] (wI s 565 (ix (s.1 549 33)) x1) else none) (fun _ => rfl) (rg_gd h fun h => rg_ltM h fun s3 h => ?_)
      refine rg_step 6 (G' := fun f => if inb (s3.1 549 33) 60 = true then evT f 367 108 [oR 549 0, oI x1, oI x2, oI x3, oI x4, oI x5] [] (wI s3 566 (ix (s3.1 549 33)) x2) else none) (fun _ => rfl) (rg_gd h fun h => rg_ltM h fun s4 h => ?_)
      refine rg_step 6 (G' := fun f => if inb (s4.1 549 33) 60 = true then evT f 367 118 [oR 549 0, oI x1, oI x2, oI x3, oI x4, oI x5] [] (wI s4 567 (ix (s4.1 549 33)) x3) else none) (fun _ => rfl) (rg_gd h fun h => rg_ltM h fun s5 h => ?_)
      refine rg_step 6 (G' := fun f => if inb (s5.1 549 33) 60 = true then evT f 367 129 [oR 549 0, oI x1, oI x2, oI x3, oI x4, oI x5] [] (wI s5 568 (ix (s5.1 549 33)) x4) else none) (fun _ => rfl) (rg_gd h fun h => rg_ltM h fun s6 h => ?_)
      refine rg_step 6 (G' := fun f => evT f 367 139 [oR 549 0, oI x1, oI x2, oI x3, oI x4, oI x5] [] (wI s6 549 33 ((s6.1 549 33) + (cI 1)))) (fun _ => rfl) (rg_ltM h fun s7 h => ?_)
      exact rg_end 2 (fun _ => rfl) (by cases h; rfl)
theorem t_fM_addRange_h51 {n : Nat} {s : ev_M} {x1 : Int32} {x2 : Int32} {x3 : Int32} {x4 : Int32} {x5 : Int32} {q : ev_M × Int32} (h : fM_addRange_h51 n s x1 x2 x3 x4 x5 = some q) : RR 367 51 [oR 549 0, oI x1, oI x2, oI x3, oI x4, oI x5] [] s (cvI q) := ti_fM_addRange_h51 n s x1 x2 x3 x4 x5 q h
theorem T_fM_addRange {s : ev_M} {a1 : Int32} {a2 : Int32} {a3 : Int32} {a4 : Int32} {q : ev_M × Int32} (h : fM_addRange s a1 a2 a3 a4 = some q) : RR 367 0 [oR 549 0, oI a1, oI a2, oI a3, oI a4, nn] [] s (cvI q) := by
  refine rg_step 3 (G' := fun f => if a1 = (cI (-1)) then evT f 367 46 [oR 549 0, oI a1, oI a2, oI a3, oI a4, nn] [] s else evT f 367 5 [oR 549 0, oI a1, oI a2, oI a3, oI a4, nn] [] s) (fun _ => rfl) (rg_if h (fun h => ?_) fun h => ?_)
  · exact rg_end 2 (fun _ => rfl) (by cases h; rfl)
  · refine rg_step 4 (G' := fun f => ev_after (evT f 311 0 [oI a2, oI (cI 0), oI (cI 2)] [] s) (fun q => evT f 367 11 [oR 549 0, oI a1, oI a2, oI a3, oI a4, nn] (q.2 ++ []) q.1)) (fun _ => rfl) (rg_bd1 h fun v8 hc h => rg_call (q := cvP s v8) (T_fM_in hc) ?_)
    refine rg_step 1 (G' := fun f => if v8 = 0 then evT f 367 46 [oR 549 0, oI a1, oI a2, oI a3, oI a4, nn] [] s else evT f 367 14 [oR 549 0, oI a1, oI a2, oI a3, oI a4, nn] [] s) (fun _ => rfl) (rg_if h (fun h => ?_) fun h => ?_)
    · exact rg_end 2 (fun _ => rfl) (by cases h; rfl)
    · refine rg_step 4 (G' := fun f => ev_after (evT f 311 0 [oI a3, oI (cI 1), oI (cI 999)] [] s) (fun q => evT f 367 22 [oR 549 0, oI a1, oI a2, oI a3, oI a4, nn] (q.2 ++ []) q.1)) (fun _ => rfl) (rg_bd1 h fun v9 hc h => rg_call (q := cvP s v9) (T_fM_in hc) ?_)
      refine rg_step 1 (G' := fun f => if v9 = 0 then evT f 367 46 [oR 549 0, oI a1, oI a2, oI a3, oI a4, nn] [] s else evT f 367 25 [oR 549 0, oI a1, oI a2, oI a3, oI a4, nn] [] s) (fun _ => rfl) (rg_if h (fun h => ?_) fun h => ?_)
      · exact rg_end 2 (fun _ => rfl) (by cases h; rfl)
      · refine rg_step 4 (G' := fun f => ev_after (evT f 311 0 [oI a4, oI a3, oI (cI 999)] [] s) (fun q => evT f 367 34 [oR 549 0, oI a1, oI a2, oI a3, oI a4, nn] (q.2 ++ []) q.1)) (fun _ => rfl) (rg_bd1 h fun v10 hc h => rg_call (q := cvP s v10) (T_fM_in hc) ?_)
        refine rg_step 1 (G' := fun f => if v10 = 0 then evT f 367 46 [oR 549 0, oI a1, oI a2, oI a3, oI a4, nn] [] s else evT f 367 37 [oR 549 0, oI a1, oI a2, oI a3, oI a4, nn] [] s) (fun _ => rfl) (rg_if h (fun h => ?_) fun h => ?_)
        · exact rg_end 2 (fun _ => rfl) (by cases h; rfl)
        · refine rg_step 4 (G' := fun f => if (s.1 549 33) = (cI 60) then evT f 367 46 [oR 549 0, oI a1, oI a2, oI a3, oI a4, nn] [] s else evT f 367 48 [oR 549 0, oI a1, oI a2, oI a3, oI a4, nn] [] s) (fun _ => rfl) (rg_if h (fun h => ?_) fun h => ?_)
          · exact rg_end 2 (fun _ => rfl) (by cases h; rfl)
          · exact rg_step 2 (G' := fun f => evT f 367 51 [oR 549 0, oI a1, oI a2, oI a3, oI a4, oI a3] [] s) (fun _ => rfl) ((t_fM_addRange_h51) h)
theorem t_fM_streetWith_b45 {s : ev_M} {k6 : Int32 → Int64 → Int32 → Int32 → Option Int32} (hk6 : ∀ {x1 : Int32} {x2 : Int64} {x4 : Int32} {x5 : Int32} {j3 : Option ev_V} {q : Int32}, k6 x1 x2 x4 x5 = some q → RR 361 6 [oR 549 0, oI x1, oL x2, j3, oI x4, oI x5] [] s (cvP s q)) {x1 : Int32} {x2 : Int64} {x5 : Int32} {y0 : Int32} {j3 : Option ev_V} {j4 : Option ev_V} {q : Int32} (h : fM_streetWith_b45 s k6 x1 x2 x5 y0 = some q) : RR 361 45 [oR 549 0, oI x1, oL x2, j3, j4, oI x5] [vI y0] s (cvP s q) := by
  exact rg_step 3 (G' := fun f => evT f 361 6 [oR 549 0, oI x1, oL x2, nn, oI y0, oI (x5 + cI 1)] [] s) (fun _ => rfl) (hk6 h)
theorem t_fM_streetWith_b43 {s : ev_M} {k6 : Int32 → Int64 → Int32 → Int32 → Option Int32} (hk6 : ∀ {x1 : Int32} {x2 : Int64} {x4 : Int32} {x5 : Int32} {j3 : Option ev_V} {q : Int32}, k6 x1 x2 x4 x5 = some q → RR 361 6 [oR 549 0, oI x1, oL x2, j3, oI x4, oI x5] [] s (cvP s q)) {x1 : Int32} {x2 : Int64} {x4 : Int32} {x5 : Int32} {j3 : Option ev_V} {q : Int32} (h : fM_streetWith_b43 s k6 x1 x2 x4 x5 = some q) : RR 361 43 [oR 549 0, oI x1, oL x2, j3, oI x4, oI x5] [] s (cvP s q) := by
  exact rg_step 1 (G' := fun f => evT f 361 45 [oR 549 0, oI x1, oL x2, nn, oI x4, oI x5] [vI x4] s) (fun _ => rfl) ((t_fM_streetWith_b45 hk6) h)
theorem ti_fM_streetWith_h6 {s : ev_M} : ∀ (n : Nat) (x1 : Int32) (x2 : Int64) (x4 : Int32) (x5 : Int32) (j3 : Option ev_V) (q : Int32), fM_streetWith_h6 s n x1 x2 x4 x5 = some q → RR 361 6 [oR 549 0, oI x1, oL x2, j3, oI x4, oI x5] [] s (cvP s q) := by
  intro n
  induction n with
  | zero => intro x1 x2 x4 x5 j3 q h; cases h
  | succ n ih =>
    have hk6 : ∀ {x1 : Int32} {x2 : Int64} {x4 : Int32} {x5 : Int32} {j3 : Option ev_V} {q : Int32}, fM_streetWith_h6 s n x1 x2 x4 x5 = some q → RR 361 6 [oR 549 0, oI x1, oL x2, j3, oI x4, oI x5] [] s (cvP s q) := fun h => ih _ _ _ _ _ _ h
    intro x1 x2 x4 x5 j3 q h
    refine rg_step 4 (G' := fun f => if x5 < (s.1 549 27) then evT f 361 15 [oR 549 0, oI x1, oL x2, nn, oI x4, oI x5] [] s else evT f 361 53 [oR 549 0, oI x1, oL x2, nn, oI x4, oI x5] [] s) (fun _ => rfl) (rg_if h (fun h => ?_) fun h => ?_)
    · refine rg_step 4 (G' := fun f => if inb x5 30 = true then evT f 361 22 [oR 549 0, oI x1, oL x2, nn, oI x4, oI x5] [vI (s.1 560 (ix x5))] s else none) (fun _ => rfl) (rg_gd h fun h => ?_)
      refine rg_step 2 (G' := fun f => if (s.1 560 (ix x5)) = x1 then evT f 361 26 [oR 549 0, oI x1, oL x2, nn, oI x4, oI x5] [] s else evT f 361 43 [oR 549 0, oI x1, oL x2, nn, oI x4, oI x5] [] s) (fun _ => rfl) (rg_if h (fun h => ?_) fun h => ?_)
      · refine rg_step 4 (G' := fun f => if inb x5 30 = true then evT f 361 33 [oR 549 0, oI x1, oL x2, nn, oI x4, oI x5] [vL (s.2.1 561 (ix x5))] s else none) (fun _ => rfl) (rg_gd h fun h => ?_)
        refine rg_step 3 (G' := fun f => if (lg_cmp (s.2.1 561 (ix x5)) x2) = 0 then evT f 361 38 [oR 549 0, oI x1, oL x2, nn, oI x4, oI x5] [] s else evT f 361 43 [oR 549 0, oI x1, oL x2, nn, oI x4, oI x5] [] s) (fun _ => rfl) (rg_if h (fun h => ?_) fun h => ?_)
        · exact rg_step 2 (G' := fun f => evT f 361 45 [oR 549 0, oI x1, oL x2, nn, oI x4, oI x5] [vI x5] s) (fun _ => rfl) ((t_fM_streetWith_b45 hk6) h)
        · exact (t_fM_streetWith_b43 hk6) h
      · exact (t_fM_streetWith_b43 hk6) h
    · exact rg_end 2 (fun _ => rfl) (by cases h; rfl)
theorem t_fM_streetWith_h6 {s : ev_M} {n : Nat} {x1 : Int32} {x2 : Int64} {x4 : Int32} {x5 : Int32} {j3 : Option ev_V} {q : Int32} (h : fM_streetWith_h6 s n x1 x2 x4 x5 = some q) : RR 361 6 [oR 549 0, oI x1, oL x2, j3, oI x4, oI x5] [] s (cvP s q) := ti_fM_streetWith_h6 n x1 x2 x4 x5 j3 q h
theorem T_fM_streetWith {s : ev_M} {a1 : Int32} {a2 : Int64} {q : Int32} (h : fM_streetWith s a1 a2 = some q) : RR 361 0 [oR 549 0, oI a1, oL a2, nn, nn, nn] [] s (cvP s q) := by
  exact rg_step 4 (G' := fun f => evT f 361 6 [oR 549 0, oI a1, oL a2, nn, oI (cI (-1)), oI (cI 0)] [] s) (fun _ => rfl) ((t_fM_streetWith_h6) h)
theorem T_fM_addStreet {s : ev_M} {a1 : Int32} {a2 : Int64} {a3 : Int32} {a4 : Int32} {a5 : Int32} {q : ev_M × Int32} (h : fM_addStreet s a1 a2 a3 a4 a5 = some q) : RR 366 0 [oR 549 0, oI a1, oL a2, nn, oI a3, oI a4, oI a5] [] s (cvI q) := by
  refine rg_step 3 (G' := fun f => if a1 = (cI (-1)) then evT f 366 58 [oR 549 0, oI a1, oL a2, nn, oI a3, oI a4, oI a5] [] s else evT f 366 5 [oR 549 0, oI a1, oL a2, nn, oI a3, oI a4, oI a5] [] s) (fun _ => rfl) (rg_if h (fun h => ?_) fun h => ?_)
  · exact rg_end 2 (fun _ => rfl) (by cases h; rfl)
  · refine rg_step 4 (G' := fun f => ev_after (evT f 361 0 [oR 549 0, oI a1, oL a2, nn, nn, nn] [] s) (fun q => evT f 366 11 [oR 549 0, oI a1, oL a2, nn, oI a3, oI a4, oI a5] (q.2 ++ []) q.1)) (fun _ => rfl) (rg_bd1 h fun v1 hc h => rg_call (q := cvP s v1) (T_fM_streetWith hc) ?_)
    refine rg_step 2 (G' := fun f => if v1 = (cI (-1)) then evT f 366 15 [oR 549 0, oI a1, oL a2, nn, oI a3, oI a4, oI a5] [] s else evT f 366 58 [oR 549 0, oI a1, oL a2, nn, oI a3, oI a4, oI a5] [] s) (fun _ => rfl) (rg_if h (fun h => ?_) fun h => ?_)
    · refine rg_step 4 (G' := fun f => ev_after (evT f 311 0 [oI a3, oI (cI 0), oI (cI 999)] [] s) (fun q => evT f 366 24 [oR 549 0, oI a1, oL a2, nn, oI a3, oI a4, oI a5] (q.2 ++ []) q.1)) (fun _ => rfl) (rg_bd1 h fun v2 hc h => rg_call (q := cvP s v2) (T_fM_in hc) ?_)
      refine rg_step 1 (G' := fun f => if v2 = 0 then evT f 366 58 [oR 549 0, oI a1, oL a2, nn, oI a3, oI a4, oI a5] [] s else evT f 366 27 [oR 549 0, oI a1, oL a2, nn, oI a3, oI a4, oI a5] [] s) (fun _ => rfl) (rg_if h (fun h => ?_) fun h => ?_)
      · exact rg_end 2 (fun _ => rfl) (by cases h; rfl)
      · refine rg_step 4 (G' := fun f => ev_after (evT f 311 0 [oI a4, oI (cI 0), oI (cI 999)] [] s) (fun q => evT f 366 36 [oR 549 0, oI a1, oL a2, nn, oI a3, oI a4, oI a5] (q.2 ++ []) q.1)) (fun _ => rfl) (rg_bd1 h fun v3 hc h => rg_call (q := cvP s v3) (T_fM_in hc) ?_)
        refine rg_step 1 (G' := fun f => if v3 = 0 then evT f 366 58 [oR 549 0, oI a1, oL a2, nn, oI a3, oI a4, oI a5] [] s else evT f 366 39 [oR 549 0, oI a1, oL a2, nn, oI a3, oI a4, oI a5] [] s) (fun _ => rfl) (rg_if h (fun h => ?_) fun h => ?_)
        · exact rg_end 2 (fun _ => rfl) (by cases h; rfl)
        · refine rg_step 4 (G' := fun f => ev_after (evT f 311 0 [oI a5, oI (cI 0), oI (cI 3)] [] s) (fun q => evT f 366 46 [oR 549 0, oI a1, oL a2, nn, oI a3, oI a4, oI a5] (q.2 ++ []) q.1)) (fun _ => rfl) (rg_bd1 h fun v4 hc h => rg_call (q := cvP s v4) (T_fM_in hc) ?_)
          refine rg_step 1 (G' := fun f => if v4 = 0 then evT f 366 58 [oR 549 0, oI a1, oL a2, nn, oI a3, oI a4, oI a5] [] s else evT f 366 49 [oR 549 0, oI a1, oL a2, nn, oI a3, oI a4, oI a5] [] s) (fun _ => rfl) (rg_if h (fun h => ?_) fun h => ?_)
          · exact rg_end 2 (fun _ => rfl) (by cases h; rfl)
          · refine rg_step 4 (G' := fun f => if (s.1 549 27) = (cI 30) then evT f 366 58 [oR 549 0, oI a1, oL a2, nn, oI a3, oI a4, oI a5] [] s else evT f 366 60 [oR 549 0, oI a1, oL a2, nn, oI a3, oI a4, oI a5] [] s) (fun _ => rfl) (rg_if h (fun h => ?_) fun h => ?_)
            · exact rg_end 2 (fun _ => rfl) (by cases h; rfl)
            · refine rg_step 6 (G' := fun f => if inb (s.1 549 27) 30 = true then evT f 366 70 [oR 549 0, oI a1, oL a2, nn, oI a3, oI a4, oI a5] [] (wI s 560 (ix (s.1 549 27)) a1) else none) (fun _ => rfl) (rg_gd h fun h => rg_ltM h fun s5 h => ?_)
              refine rg_step 6 (G' := fun f => if inb (s5.1 549 27) 30 = true then evT f 366 80 [oR 549 0, oI a1, oL a2, nn, oI a3, oI a4, oI a5] [] (wL s5 561 (ix (s5.1 549 27)) a2) else none) (fun _ => rfl) (rg_gd h fun h => rg_ltM h fun s6 h => ?_)
              refine rg_step 6 (G' := fun f => if inb (s6.1 549 27) 30 = true then evT f 366 91 [oR 549 0, oI a1, oL a2, nn, oI a3, oI a4, oI a5] [] (wI s6 562 (ix (s6.1 549 27)) a3) else none) (fun _ => rfl) (rg_gd h fun h => rg_ltM h fun s7 h => ?_)
              refine rg_step 6 (G' := fun f => if inb (s7.1 549 27) 30 = true then evT f 366 102 [oR 549 0, oI a1, oL a2, nn, oI a3, oI a4, oI a5] [] (wI s7 563 (ix (s7.1 549 27)) a4) else none) (fun _ => rfl) (rg_gd h fun h => rg_ltM h fun s8 h => ?_)
              refine rg_step 6 (G' := fun f => if inb (s8.1 549 27) 30 = true then evT f 366 113 [oR 549 0, oI a1, oL a2, nn, oI a3, oI a4, oI a5] [] (wI s8 564 (ix (s8.1 549 27)) a5) else none) (fun _ => rfl) (rg_gd h fun h => rg_ltM h fun s9 h => ?_)
              refine rg_step 6 (G' := fun f => evT f 366 123 [oR 549 0, oI a1, oL a2, nn, oI a3, oI a4, oI a5] [] (wI s9 549 27 ((s9.1 549 27) + (cI 1)))) (fun _ => rfl) (rg_ltM h fun s10 h => ?_)
              exact rg_end 2 (fun _ => rfl) (by cases h; rfl)
    · exact rg_end 2 (fun _ => rfl) (by cases h; rfl)
theorem T_fM_look {s : ev_M} {q : Int32} (h : fM_look s = some q) : RR 355 0 [oR 549 0] [] s (cvP s q) := by
  refine rg_step 5 (G' := fun f => if (s.1 549 139) < (s.1 549 13) then evT f 355 11 [oR 549 0] [] s else evT f 355 27 [oR 549 0] [] s) (fun _ => rfl) (rg_if h (fun h => ?_) fun h => ?_)
  · refine rg_step 5 (G' := fun f => if inb (s.1 549 139) 4096 = true then evT f 355 20 [oR 549 0] [vI (s.1 554 (ix (s.1 549 139)))] s else none) (fun _ => rfl) (rg_gd h fun h => ?_)
    exact rg_end 4 (fun _ => rfl) (by cases h; rfl)
  · exact rg_end 2 (fun _ => rfl) (by cases h; rfl)
theorem t_fM_eat_b45 {s : ev_M} {y1 : Int32} {j0 : Option ev_V} {j1 : Option ev_V} {q : ev_M} (h : fM_eat_b45 s y1 = some q) : RR 356 45 [j0, j1] [vI y1, vR 549 0] s (cvV q) := by
  refine rg_step 1 (G' := fun f => evT f 356 48 [nn, nn] [] (wI s 549 139 y1)) (fun _ => rfl) (rg_ltM h fun s1 h => ?_)
  exact rg_end 1 (fun _ => rfl) (by cases h; rfl)
theorem t_fM_eat_b21 {s : ev_M} {y1 : Int32} {j1 : Option ev_V} {q : ev_M} (h : fM_eat_b21 s y1 = some q) : RR 356 21 [oR 549 0, j1] [vI y1, vR 549 0] s (cvV q) := by
  refine rg_step 1 (G' := fun f => if bz y1 = true then evT f 356 24 [oR 549 0, nn] [] (wI s 549 140 y1) else none) (fun _ => rfl) (rg_gd h fun h => rg_ltM h fun s2 h => ?_)
  refine rg_step 4 (G' := fun f => if (s2.1 549 140) = 0 then evT f 356 39 [oR 549 0, nn] [vR 549 0] s2 else evT f 356 32 [oR 549 0, nn] [vR 549 0] s2) (fun _ => rfl) (rg_if h (fun h => ?_) fun h => ?_)
  · exact rg_step 4 (G' := fun f => evT f 356 45 [oR 549 0, nn] [vI ((s2.1 549 139) + (cI 1)), vR 549 0] s2) (fun _ => rfl) ((t_fM_eat_b45) h)
  · exact rg_step 3 (G' := fun f => evT f 356 45 [oR 549 0, nn] [vI (s2.1 549 139), vR 549 0] s2) (fun _ => rfl) ((t_fM_eat_b45) h)
theorem t_fM_eat_b16 {s : ev_M} {j1 : Option ev_V} {q : ev_M} (h : fM_eat_b16 s = some q) : RR 356 16 [oR 549 0, j1] [vR 549 0] s (cvV q) := by
  exact rg_step 2 (G' := fun f => evT f 356 21 [oR 549 0, nn] [vI (cI 1), vR 549 0] s) (fun _ => rfl) ((t_fM_eat_b21) h)
theorem T_fM_eat {s : ev_M} {a1 : Int32} {q : ev_M} (h : fM_eat s a1 = some q) : RR 356 0 [oR 549 0, oI a1] [] s (cvV q) := by
  refine rg_step 4 (G' := fun f => if (s.1 549 140) = 0 then evT f 356 8 [oR 549 0, oI a1] [vR 549 0] s else evT f 356 16 [oR 549 0, oI a1] [vR 549 0] s) (fun _ => rfl) (rg_if h (fun h => ?_) fun h => ?_)
  · refine rg_step 2 (G' := fun f => ev_after (evT f 355 0 [oR 549 0] [] s) (fun q => evT f 356 12 [oR 549 0, oI a1] (q.2 ++ [vR 549 0]) q.1)) (fun _ => rfl) (rg_bd1 h fun v3 hc h => rg_call (q := cvP s v3) (T_fM_look hc) ?_)
    refine rg_step 2 (G' := fun f => if v3 = a1 then evT f 356 20 [oR 549 0, oI a1] [vR 549 0] s else evT f 356 16 [oR 549 0, oI a1] [vR 549 0] s) (fun _ => rfl) (rg_if h (fun h => ?_) fun h => ?_)
    · exact rg_step 1 (G' := fun f => evT f 356 21 [oR 549 0, oI a1] [vI (cI 0), vR 549 0] s) (fun _ => rfl) ((t_fM_eat_b21) h)
    · exact (t_fM_eat_b16) h
  · exact (t_fM_eat_b16) h
theorem t_fM_digits_b77 {s : ev_M} {x2 : Int32} {y1 : Int32} {j0 : Option ev_V} {j1 : Option ev_V} {q : ev_M × Int32} (h : fM_digits_b77 s x2 y1 = some q) : RR 357 77 [j0, j1, oI x2] [vI y1, vR 549 0] s (cvI q) := by
  refine rg_step 1 (G' := fun f => if bz y1 = true then evT f 357 80 [nn, nn, oI x2] [] (wI s 549 140 y1) else none) (fun _ => rfl) (rg_gd h fun h => rg_ltM h fun s1 h => ?_)
  exact rg_end 2 (fun _ => rfl) (by cases h; rfl)
theorem t_fM_digits_b72 {s : ev_M} {x2 : Int32} {j0 : Option ev_V} {j1 : Option ev_V} {q : ev_M × Int32} (h : fM_digits_b72 s x2 = some q) : RR 357 72 [j0, j1, oI x2] [vR 549 0] s (cvI q) := by
  exact rg_step 2 (G' := fun f => evT f 357 77 [nn, nn, oI x2] [vI (cI 1), vR 549 0] s) (fun _ => rfl) ((t_fM_digits_b77) h)
theorem t_fM_digits_b60 {s : ev_M} {x1 : Int32} {x2 : Int32} {q : ev_M × Int32} (h : fM_digits_b60 s x1 x2 = some q) : RR 357 60 [oR 549 0, oI x1, oI x2] [] s (cvI q) := by
  refine rg_step 4 (G' := fun f => if (s.1 549 140) = 0 then evT f 357 68 [oR 549 0, oI x1, oI x2] [vR 549 0] s else evT f 357 72 [oR 549 0, oI x1, oI x2] [vR 549 0] s) (fun _ => rfl) (rg_if h (fun h => ?_) fun h => ?_)
  · refine rg_step 2 (G' := fun f => if x1 = 0 then evT f 357 72 [oR 549 0, oI x1, oI x2] [vR 549 0] s else evT f 357 76 [oR 549 0, oI x1, oI x2] [vR 549 0] s) (fun _ => rfl) (rg_if h (fun h => ?_) fun h => ?_)
    · exact (t_fM_digits_b72) h
    · exact rg_step 1 (G' := fun f => evT f 357 77 [oR 549 0, oI x1, oI x2] [vI (cI 0), vR 549 0] s) (fun _ => rfl) ((t_fM_digits_b77) h)
  · exact (t_fM_digits_b72) h
theorem ti_fM_digits_h4 : ∀ (n : Nat) (s : ev_M) (x1 : Int32) (x2 : Int32) (q : ev_M × Int32), fM_digits_h4 n s x1 x2 = some q → RR 357 4 [oR 549 0, oI x1, oI x2] [] s (cvI q) := by
  intro n
  induction n with
  | zero => intro s x1 x2 q h; cases h
  | succ n ih =>
    have hk4 : ∀ {s : ev_M} {x1 : Int32} {x2 : Int32} {q : ev_M × Int32}, fM_digits_h4 n s x1 x2 = some q → RR 357 4 [oR 549 0, oI x1, oI x2] [] s (cvI q) := fun h => ih _ _ _ _ h
    intro s x1 x2 q h
    refine rg_step 3 (G' := fun f => if (s.1 549 140) = 0 then evT f 357 11 [oR 549 0, oI x1, oI x2] [] s else evT f 357 60 [oR 549 0, oI x1, oI x2] [] s) (fun _ => rfl) (rg_if h (fun h => ?_) fun h => ?_)
    · refine rg_step 3 (G' := fun f => if x1 < (cI 6) then evT f 357 17 [oR 549 0, oI x1, oI x2] [] s else evT f 357 60 [oR 549 0, oI x1, oI x2] [] s) (fun _ => rfl) (rg_if h (fun h => ?_) fun h => ?_)
      · refine rg_step 2 (G' := fun f => ev_after (evT f 355 0 [oR 549 0] [] s) (fun q => evT f 357 21 [oR 549 0, oI x1, oI x2] (q.2 ++ []) q.1)) (fun _ => rfl) (rg_bd1 h fun v2 hc h => rg_call (q := cvP s v2) (T_fM_look hc) ?_)
        refine rg_step 3 (G' := fun f => ev_after (evT f 311 0 [oI v2, oI (cI 48), oI (cI 57)] [] s) (fun q => evT f 357 28 [oR 549 0, oI x1, oI x2] (q.2 ++ []) q.1)) (fun _ => rfl) (rg_bd1 h fun v3 hc h => rg_call (q := cvP s v3) (T_fM_in hc) ?_)
        refine rg_step 1 (G' := fun f => if v3 = 0 then evT f 357 60 [oR 549 0, oI x1, oI x2] [] s else evT f 357 31 [oR 549 0, oI x1, oI x2] [] s) (fun _ => rfl) (rg_if h (fun h => ?_) fun h => ?_)
        · exact (t_fM_digits_b60) h
        · refine rg_step 5 (G' := fun f => ev_after (evT f 355 0 [oR 549 0] [] s) (fun q => evT f 357 39 [oR 549 0, oI x1, oI x2] (q.2 ++ [vI ((cI 10) * x2)]) q.1)) (fun _ => rfl) (rg_bd1 h fun v4 hc h => rg_call (q := cvP s v4) (T_fM_look hc) ?_)
          refine rg_step 4 (G' := fun f => evT f 357 44 [oR 549 0, oI x1, oI ((((cI 10) * x2) + v4) - (cI 48))] [] s) (fun _ => rfl) (rg_ltI (P := fun v5 => RG (fun f => evT f 357 44 [oR 549 0, oI x1, oI v5] [] s) (cvI q)) h fun v5 h => ?_)
          refine rg_step 7 (G' := fun f => evT f 357 57 [oR 549 0, oI (x1 + cI 1), oI v5] [] (wI s 549 139 ((s.1 549 139) + (cI 1)))) (fun _ => rfl) (rg_ltM h fun s6 h => ?_)
          exact rg_step 1 (G' := fun f => evT f 357 4 [oR 549 0, oI (x1 + cI 1), oI v5] [] s6) (fun _ => rfl) (hk4 h)
      · exact (t_fM_digits_b60) h
    · exact (t_fM_digits_b60) h
theorem t_fM_digits_h4 {n : Nat} {s : ev_M} {x1 : Int32} {x2 : Int32} {q : ev_M × Int32} (h : fM_digits_h4 n s x1 x2 = some q) : RR 357 4 [oR 549 0, oI x1, oI x2] [] s (cvI q) := ti_fM_digits_h4 n s x1 x2 q h
theorem T_fM_digits {s : ev_M} {q : ev_M × Int32} (h : fM_digits s = some q) : RR 357 0 [oR 549 0, nn, nn] [] s (cvI q) := by
  exact rg_step 4 (G' := fun f => evT f 357 4 [oR 549 0, oI (cI 0), oI (cI 0)] [] s) (fun _ => rfl) ((t_fM_digits_h4) h)
theorem T_fM_comma {s : ev_M} {q : ev_M × Int32} (h : fM_comma s = some q) : RR 359 0 [oR 549 0] [] s (cvI q) := by
  refine rg_step 3 (G' := fun f => ev_after (evT f 356 0 [oR 549 0, oI (cI 44)] [] s) (fun q => evT f 359 6 [oR 549 0] (q.2 ++ []) q.1)) (fun _ => rfl) (rg_bd1 h fun s1 hc h => rg_call (q := cvV s1) (T_fM_eat hc) ?_)
  refine rg_step 2 (G' := fun f => ev_after (evT f 357 0 [oR 549 0, nn, nn] [] s1) (fun q => evT f 359 10 [oR 549 0] (q.2 ++ []) q.1)) (fun _ => rfl) (rg_bd2 h fun s2 v3 hc h => rg_call (q := cvI (s2, v3)) (T_fM_digits hc) ?_)
  exact rg_end 1 (fun _ => rfl) (by cases h; rfl)
theorem t_fM_letters_b82 {s : ev_M} {x2 : Int64} {y1 : Int32} {j0 : Option ev_V} {j1 : Option ev_V} {j3 : Option ev_V} {q : ev_M × Int64} (h : fM_letters_b82 s x2 y1 = some q) : RR 358 82 [j0, j1, oL x2, j3] [vI y1, vR 549 0] s (cvL q) := by
  refine rg_step 1 (G' := fun f => if bz y1 = true then evT f 358 85 [nn, nn, oL x2, nn] [] (wI s 549 140 y1) else none) (fun _ => rfl) (rg_gd h fun h => rg_ltM h fun s1 h => ?_)
  exact rg_end 2 (fun _ => rfl) (by cases h; rfl)
theorem t_fM_letters_b77 {s : ev_M} {x2 : Int64} {j0 : Option ev_V} {j1 : Option ev_V} {j3 : Option ev_V} {q : ev_M × Int64} (h : fM_letters_b77 s x2 = some q) : RR 358 77 [j0, j1, oL x2, j3] [vR 549 0] s (cvL q) := by
  exact rg_step 2 (G' := fun f => evT f 358 82 [nn, nn, oL x2, nn] [vI (cI 1), vR 549 0] s) (fun _ => rfl) ((t_fM_letters_b82) h)
theorem t_fM_letters_b65 {s : ev_M} {x1 : Int32} {x2 : Int64} {j3 : Option ev_V} {q : ev_M × Int64} (h : fM_letters_b65 s x1 x2 = some q) : RR 358 65 [oR 549 0, oI x1, oL x2, j3] [] s (cvL q) := by
  refine rg_step 4 (G' := fun f => if (s.1 549 140) = 0 then evT f 358 73 [oR 549 0, oI x1, oL x2, nn] [vR 549 0] s else evT f 358 77 [oR 549 0, oI x1, oL x2, nn] [vR 549 0] s) (fun _ => rfl) (rg_if h (fun h => ?_) fun h => ?_)
  · refine rg_step 2 (G' := fun f => if x1 = 0 then evT f 358 77 [oR 549 0, oI x1, oL x2, nn] [vR 549 0] s else evT f 358 81 [oR 549 0, oI x1, oL x2, nn] [vR 549 0] s) (fun _ => rfl) (rg_if h (fun h => ?_) fun h => ?_)
    · exact (t_fM_letters_b77) h
    · exact rg_step 1 (G' := fun f => evT f 358 82 [oR 549 0, oI x1, oL x2, nn] [vI (cI 0), vR 549 0] s) (fun _ => rfl) ((t_fM_letters_b82) h)
  · exact (t_fM_letters_b77) h
theorem ti_fM_letters_h4 : ∀ (n : Nat) (s : ev_M) (x1 : Int32) (x2 : Int64) (j3 : Option ev_V) (q : ev_M × Int64), fM_letters_h4 n s x1 x2 = some q → RR 358 4 [oR 549 0, oI x1, oL x2, j3] [] s (cvL q) := by
  intro n
  induction n with
  | zero => intro s x1 x2 j3 q h; cases h
  | succ n ih =>
    have hk4 : ∀ {s : ev_M} {x1 : Int32} {x2 : Int64} {j3 : Option ev_V} {q : ev_M × Int64}, fM_letters_h4 n s x1 x2 = some q → RR 358 4 [oR 549 0, oI x1, oL x2, j3] [] s (cvL q) := fun h => ih _ _ _ _ _ h
    intro s x1 x2 j3 q h
    refine rg_step 3 (G' := fun f => if (s.1 549 140) = 0 then evT f 358 11 [oR 549 0, oI x1, oL x2, nn] [] s else evT f 358 65 [oR 549 0, oI x1, oL x2, nn] [] s) (fun _ => rfl) (rg_if h (fun h => ?_) fun h => ?_)
    · refine rg_step 3 (G' := fun f => if x1 < (cI 10) then evT f 358 17 [oR 549 0, oI x1, oL x2, nn] [] s else evT f 358 65 [oR 549 0, oI x1, oL x2, nn] [] s) (fun _ => rfl) (rg_if h (fun h => ?_) fun h => ?_)
      · refine rg_step 2 (G' := fun f => ev_after (evT f 355 0 [oR 549 0] [] s) (fun q => evT f 358 21 [oR 549 0, oI x1, oL x2, nn] (q.2 ++ []) q.1)) (fun _ => rfl) (rg_bd1 h fun v2 hc h => rg_call (q := cvP s v2) (T_fM_look hc) ?_)
        refine rg_step 3 (G' := fun f => ev_after (evT f 311 0 [oI v2, oI (cI 65), oI (cI 90)] [] s) (fun q => evT f 358 28 [oR 549 0, oI x1, oL x2, nn] (q.2 ++ []) q.1)) (fun _ => rfl) (rg_bd1 h fun v3 hc h => rg_call (q := cvP s v3) (T_fM_in hc) ?_)
        refine rg_step 1 (G' := fun f => if v3 = 0 then evT f 358 65 [oR 549 0, oI x1, oL x2, nn] [] s else evT f 358 31 [oR 549 0, oI x1, oL x2, nn] [] s) (fun _ => rfl) (rg_if h (fun h => ?_) fun h => ?_)
        · exact (t_fM_letters_b65) h
        · refine rg_step 5 (G' := fun f => ev_after (evT f 355 0 [oR 549 0] [] s) (fun q => evT f 358 40 [oR 549 0, oI x1, oL x2, nn] (q.2 ++ [vL ((cL 27) * x2)]) q.1)) (fun _ => rfl) (rg_bd1 h fun v4 hc h => rg_call (q := cvP s v4) (T_fM_look hc) ?_)
          refine rg_step 7 (G' := fun f => evT f 358 49 [oR 549 0, oI x1, oL (((((cL 27) * x2) + (Int32.toInt64 v4)) - (cL 65)) + (cL 1)), nn] [] s) (fun _ => rfl) (rg_ltL (P := fun v5 => RG (fun f => evT f 358 49 [oR 549 0, oI x1, oL v5, nn] [] s) (cvL q)) h fun v5 h => ?_)
          refine rg_step 7 (G' := fun f => evT f 358 62 [oR 549 0, oI (x1 + cI 1), oL v5, nn] [] (wI s 549 139 ((s.1 549 139) + (cI 1)))) (fun _ => rfl) (rg_ltM h fun s6 h => ?_)
          exact rg_step 1 (G' := fun f => evT f 358 4 [oR 549 0, oI (x1 + cI 1), oL v5, nn] [] s6) (fun _ => rfl) (hk4 h)
      · exact (t_fM_letters_b65) h
    · exact (t_fM_letters_b65) h
theorem t_fM_letters_h4 {n : Nat} {s : ev_M} {x1 : Int32} {x2 : Int64} {j3 : Option ev_V} {q : ev_M × Int64} (h : fM_letters_h4 n s x1 x2 = some q) : RR 358 4 [oR 549 0, oI x1, oL x2, j3] [] s (cvL q) := ti_fM_letters_h4 n s x1 x2 j3 q h
theorem T_fM_letters {s : ev_M} {q : ev_M × Int64} (h : fM_letters s = some q) : RR 358 0 [oR 549 0, nn, nn, nn] [] s (cvL q) := by
  exact rg_step 4 (G' := fun f => evT f 358 4 [oR 549 0, oI (cI 0), oL (cL 0), nn] [] s) (fun _ => rfl) ((t_fM_letters_h4) h)
theorem t_fM_entryOfBook_b246 {s : ev_M} {x5 : Int32} {x9 : Int32} {j1 : Option ev_V} {j2 : Option ev_V} {j3 : Option ev_V} {j4 : Option ev_V} {j6 : Option ev_V} {j7 : Option ev_V} {j8 : Option ev_V} {q : ev_M × Int32} (h : fM_entryOfBook_b246 s x5 x9 = some q) : RR 369 246 [oR 549 0, j1, j2, j3, j4, oI x5, j6, j7, j8, oI x9] [] s (cvI q) := by
  refine rg_step 4 (G' := fun f => ev_after (evT f 368 0 [oR 549 0, oI x9, oI x5] [] s) (fun q => evT f 369 254 [oR 549 0, nn, nn, nn, nn, oI x5, nn, nn, nn, oI x9] (q.2 ++ []) q.1)) (fun _ => rfl) (rg_bd2 h fun s1 v2 hc h => rg_call (q := cvI (s1, v2)) (T_fM_addPoint hc) ?_)
  exact rg_step 1 (G' := fun f => if bz v2 = true then some (s1, [vI v2]) else none) (fun _ => rfl) (rg_gd h fun h => rg_end 0 (fun _ => rfl) (by cases h; rfl))
theorem t_fM_entryOfBook_b177 {s : ev_M} {x1 : Int32} {x2 : Int32} {x3 : Int64} {x5 : Int32} {x6 : Int32} {x7 : Int32} {x8 : Int32} {y0 : Int32} {j4 : Option ev_V} {j9 : Option ev_V} {q : ev_M × Int32} (h : fM_entryOfBook_b177 s x1 x2 x3 x5 x6 x7 x8 y0 = some q) : RR 369 177 [oR 549 0, oI x1, oI x2, oL x3, j4, oI x5, oI x6, oI x7, oI x8, j9] [vI y0] s (cvI q) := by
  refine rg_step 3 (G' := fun f => if x1 = cI 80 then evT f 369 212 [oR 549 0, oI x1, oI x2, oL x3, nn, oI x5, oI x6, oI x7, oI x8, oI y0] [] s else if x1 = cI 81 then evT f 369 246 [oR 549 0, oI x1, oI x2, oL x3, nn, oI x5, oI x6, oI x7, oI x8, oI y0] [] s else if x1 = cI 82 then evT f 369 233 [oR 549 0, oI x1, oI x2, oL x3, nn, oI x5, oI x6, oI x7, oI x8, oI y0] [] s else if x1 = cI 83 then evT f 369 219 [oR 549 0, oI x1, oI x2, oL x3, nn, oI x5, oI x6, oI x7, oI x8, oI y0] [] s else evT f 369 246 [oR 549 0, oI x1, oI x2, oL x3, nn, oI x5, oI x6, oI x7, oI x8, oI y0] [] s) (fun _ => rfl) ?_
  refine rg_if h (fun h => ?_) fun h => ?_
  · refine rg_step 4 (G' := fun f => ev_after (evT f 365 0 [oR 549 0, oI x2, oL x3, nn] [] s) (fun q => evT f 369 218 [oR 549 0, oI x1, oI x2, oL x3, nn, oI x5, oI x6, oI x7, oI x8, oI y0] (q.2 ++ []) q.1)) (fun _ => rfl) (rg_bd2 h fun s3 v4 hc h => rg_call (q := cvI (s3, v4)) (T_fM_addPlace hc) ?_)
    exact rg_step 1 (G' := fun f => if bz v4 = true then some (s3, [vI v4]) else none) (fun _ => rfl) (rg_gd h fun h => rg_end 0 (fun _ => rfl) (by cases h; rfl))
  refine rg_if h (fun h => ?_) fun h => ?_
  · exact (t_fM_entryOfBook_b246) h
  refine rg_if h (fun h => ?_) fun h => ?_
  · refine rg_step 6 (G' := fun f => ev_after (evT f 367 0 [oR 549 0, oI y0, oI x5, oI x6, oI x7, nn] [] s) (fun q => evT f 369 245 [oR 549 0, oI x1, oI x2, oL x3, nn, oI x5, oI x6, oI x7, oI x8, oI y0] (q.2 ++ []) q.1)) (fun _ => rfl) (rg_bd2 h fun s5 v6 hc h => rg_call (q := cvI (s5, v6)) (T_fM_addRange hc) ?_)
    exact rg_step 1 (G' := fun f => if bz v6 = true then some (s5, [vI v6]) else none) (fun _ => rfl) (rg_gd h fun h => rg_end 0 (fun _ => rfl) (by cases h; rfl))
  refine rg_if h (fun h => ?_) fun h => ?_
  · refine rg_step 7 (G' := fun f => ev_after (evT f 366 0 [oR 549 0, oI x8, oL x3, nn, oI x5, oI x6, oI x7] [] s) (fun q => evT f 369 232 [oR 549 0, oI x1, oI x2, oL x3, nn, oI x5, oI x6, oI x7, oI x8, oI y0] (q.2 ++ []) q.1)) (fun _ => rfl) (rg_bd2 h fun s7 v8 hc h => rg_call (q := cvI (s7, v8)) (T_fM_addStreet hc) ?_)
    exact rg_step 1 (G' := fun f => if bz v8 = true then some (s7, [vI v8]) else none) (fun _ => rfl) (rg_gd h fun h => rg_end 0 (fun _ => rfl) (by cases h; rfl))
  exact (t_fM_entryOfBook_b246) h
theorem t_fM_entryOfBook_b136 {s : ev_M} {x1 : Int32} {x2 : Int32} {x3 : Int64} {x5 : Int32} {x6 : Int32} {y0 : Int32} {j4 : Option ev_V} {j7 : Option ev_V} {j8 : Option ev_V} {j9 : Option ev_V} {q : ev_M × Int32} (h : fM_entryOfBook_b136 s x1 x2 x3 x5 x6 y0 = some q) : RR 369 136 [oR 549 0, oI x1, oI x2, oL x3, j4, oI x5, oI x6, j7, j8, j9] [vI y0] s (cvI q) := by
  refine rg_step 4 (G' := fun f => ev_after (evT f 356 0 [oR 549 0, oI (cI 59)] [] s) (fun q => evT f 369 144 [oR 549 0, oI x1, oI x2, oL x3, nn, oI x5, oI x6, oI y0, nn, nn] (q.2 ++ []) q.1)) (fun _ => rfl) (rg_bd1 h fun s9 hc h => rg_call (q := cvV s9) (T_fM_eat hc) ?_)
  refine rg_step 3 (G' := fun f => if (s9.1 549 140) = 0 then evT f 369 153 [oR 549 0, oI x1, oI x2, oL x3, nn, oI x5, oI x6, oI y0, nn, nn] [] s9 else evT f 369 151 [oR 549 0, oI x1, oI x2, oL x3, nn, oI x5, oI x6, oI y0, nn, nn] [] s9) (fun _ => rfl) (rg_if h (fun h => ?_) fun h => ?_)
  · refine rg_step 3 (G' := fun f => ev_after (evT f 360 0 [oR 549 0, oI x2, nn, nn] [] s9) (fun q => evT f 369 158 [oR 549 0, oI x1, oI x2, oL x3, nn, oI x5, oI x6, oI y0, nn, nn] (q.2 ++ []) q.1)) (fun _ => rfl) (rg_bd1 h fun v10 hc h => rg_call (q := cvP s9 v10) (T_fM_placeWith hc) ?_)
    refine rg_step 4 (G' := fun f => if v10 = (cI (-1)) then evT f 369 166 [oR 549 0, oI x1, oI x2, oL x3, nn, oI x5, oI x6, oI y0, oI v10, nn] [] s9 else evT f 369 170 [oR 549 0, oI x1, oI x2, oL x3, nn, oI x5, oI x6, oI y0, oI v10, nn] [] s9) (fun _ => rfl) (rg_if h (fun h => ?_) fun h => ?_)
    · exact rg_step 2 (G' := fun f => evT f 369 177 [oR 549 0, oI x1, oI x2, oL x3, nn, oI x5, oI x6, oI y0, oI v10, nn] [vI (cI (-1))] s9) (fun _ => rfl) ((t_fM_entryOfBook_b177) h)
    · refine rg_step 4 (G' := fun f => ev_after (evT f 361 0 [oR 549 0, oI v10, oL x3, nn, nn, nn] [] s9) (fun q => evT f 369 177 [oR 549 0, oI x1, oI x2, oL x3, nn, oI x5, oI x6, oI y0, oI v10, nn] (q.2 ++ []) q.1)) (fun _ => rfl) (rg_bd1 h fun v11 hc h => rg_call (q := cvP s9 v11) (T_fM_streetWith hc) ?_)
      exact (t_fM_entryOfBook_b177) h
  · exact rg_end 2 (fun _ => rfl) (by cases h; rfl)
theorem t_fM_entryOfBook_b128 {s : ev_M} {x1 : Int32} {x2 : Int32} {x3 : Int64} {x5 : Int32} {x6 : Int32} {j4 : Option ev_V} {j7 : Option ev_V} {j8 : Option ev_V} {j9 : Option ev_V} {q : ev_M × Int32} (h : fM_entryOfBook_b128 s x1 x2 x3 x5 x6 = some q) : RR 369 128 [oR 549 0, oI x1, oI x2, oL x3, j4, oI x5, oI x6, j7, j8, j9] [] s (cvI q) := by
  refine rg_step 2 (G' := fun f => ev_after (evT f 359 0 [oR 549 0] [] s) (fun q => evT f 369 132 [oR 549 0, oI x1, oI x2, oL x3, nn, oI x5, oI x6, nn, nn, nn] (q.2 ++ []) q.1)) (fun _ => rfl) (rg_bd2 h fun s12 v13 hc h => rg_call (q := cvI (s12, v13)) (T_fM_comma hc) ?_)
  exact rg_step 1 (G' := fun f => evT f 369 136 [oR 549 0, oI x1, oI x2, oL x3, nn, oI x5, oI x6, nn, nn, nn] [vI v13] s12) (fun _ => rfl) ((t_fM_entryOfBook_b136) h)
theorem t_fM_entryOfBook_b114 {s : ev_M} {x1 : Int32} {x2 : Int32} {x3 : Int64} {x5 : Int32} {y0 : Int32} {j4 : Option ev_V} {j6 : Option ev_V} {j7 : Option ev_V} {j8 : Option ev_V} {j9 : Option ev_V} {q : ev_M × Int32} (h : fM_entryOfBook_b114 s x1 x2 x3 x5 y0 = some q) : RR 369 114 [oR 549 0, oI x1, oI x2, oL x3, j4, oI x5, j6, j7, j8, j9] [vI y0] s (cvI q) := by
  refine rg_step 4 (G' := fun f => if x1 = (cI 83) then evT f 369 128 [oR 549 0, oI x1, oI x2, oL x3, nn, oI x5, oI y0, nn, nn, nn] [] s else evT f 369 122 [oR 549 0, oI x1, oI x2, oL x3, nn, oI x5, oI y0, nn, nn, nn] [] s) (fun _ => rfl) (rg_if h (fun h => ?_) fun h => ?_)
  · exact (t_fM_entryOfBook_b128) h
  · refine rg_step 3 (G' := fun f => if x1 = (cI 82) then evT f 369 128 [oR 549 0, oI x1, oI x2, oL x3, nn, oI x5, oI y0, nn, nn, nn] [] s else evT f 369 135 [oR 549 0, oI x1, oI x2, oL x3, nn, oI x5, oI y0, nn, nn, nn] [] s) (fun _ => rfl) (rg_if h (fun h => ?_) fun h => ?_)
    · exact (t_fM_entryOfBook_b128) h
    · exact rg_step 1 (G' := fun f => evT f 369 136 [oR 549 0, oI x1, oI x2, oL x3, nn, oI x5, oI y0, nn, nn, nn] [vI (cI 0)] s) (fun _ => rfl) ((t_fM_entryOfBook_b136) h)
theorem t_fM_entryOfBook_b106 {s : ev_M} {x1 : Int32} {x2 : Int32} {x3 : Int64} {x5 : Int32} {j4 : Option ev_V} {j6 : Option ev_V} {j7 : Option ev_V} {j8 : Option ev_V} {j9 : Option ev_V} {q : ev_M × Int32} (h : fM_entryOfBook_b106 s x1 x2 x3 x5 = some q) : RR 369 106 [oR 549 0, oI x1, oI x2, oL x3, j4, oI x5, j6, j7, j8, j9] [] s (cvI q) := by
  refine rg_step 2 (G' := fun f => ev_after (evT f 359 0 [oR 549 0] [] s) (fun q => evT f 369 110 [oR 549 0, oI x1, oI x2, oL x3, nn, oI x5, nn, nn, nn, nn] (q.2 ++ []) q.1)) (fun _ => rfl) (rg_bd2 h fun s14 v15 hc h => rg_call (q := cvI (s14, v15)) (T_fM_comma hc) ?_)
  exact rg_step 1 (G' := fun f => evT f 369 114 [oR 549 0, oI x1, oI x2, oL x3, nn, oI x5, nn, nn, nn, nn] [vI v15] s14) (fun _ => rfl) ((t_fM_entryOfBook_b114) h)
theorem t_fM_entryOfBook_b92 {s : ev_M} {x1 : Int32} {x2 : Int32} {x3 : Int64} {y0 : Int32} {j4 : Option ev_V} {j5 : Option ev_V} {j6 : Option ev_V} {j7 : Option ev_V} {j8 : Option ev_V} {j9 : Option ev_V} {q : ev_M × Int32} (h : fM_entryOfBook_b92 s x1 x2 x3 y0 = some q) : RR 369 92 [oR 549 0, oI x1, oI x2, oL x3, j4, j5, j6, j7, j8, j9] [vI y0] s (cvI q) := by
  refine rg_step 4 (G' := fun f => if x1 = (cI 83) then evT f 369 106 [oR 549 0, oI x1, oI x2, oL x3, nn, oI y0, nn, nn, nn, nn] [] s else evT f 369 100 [oR 549 0, oI x1, oI x2, oL x3, nn, oI y0, nn, nn, nn, nn] [] s) (fun _ => rfl) (rg_if h (fun h => ?_) fun h => ?_)
  · exact (t_fM_entryOfBook_b106) h
  · refine rg_step 3 (G' := fun f => if x1 = (cI 82) then evT f 369 106 [oR 549 0, oI x1, oI x2, oL x3, nn, oI y0, nn, nn, nn, nn] [] s else evT f 369 113 [oR 549 0, oI x1, oI x2, oL x3, nn, oI y0, nn, nn, nn, nn] [] s) (fun _ => rfl) (rg_if h (fun h => ?_) fun h => ?_)
    · exact (t_fM_entryOfBook_b106) h
    · exact rg_step 1 (G' := fun f => evT f 369 114 [oR 549 0, oI x1, oI x2, oL x3, nn, oI y0, nn, nn, nn, nn] [vI (cI 0)] s) (fun _ => rfl) ((t_fM_entryOfBook_b114) h)
theorem t_fM_entryOfBook_b59 {s : ev_M} {x1 : Int32} {y1 : Int32} {j2 : Option ev_V} {j3 : Option ev_V} {j4 : Option ev_V} {j5 : Option ev_V} {j6 : Option ev_V} {j7 : Option ev_V} {j8 : Option ev_V} {j9 : Option ev_V} {q : ev_M × Int32} (h : fM_entryOfBook_b59 s x1 y1 = some q) : RR 369 59 [oR 549 0, oI x1, j2, j3, j4, j5, j6, j7, j8, j9] [vI y1, vR 549 0] s (cvI q) := by
  refine rg_step 1 (G' := fun f => evT f 369 62 [oR 549 0, oI x1, nn, nn, nn, nn, nn, nn, nn, nn] [] (wI s 549 139 y1)) (fun _ => rfl) (rg_ltM h fun s16 h => ?_)
  refine rg_step 2 (G' := fun f => ev_after (evT f 357 0 [oR 549 0, nn, nn] [] s16) (fun q => evT f 369 66 [oR 549 0, oI x1, nn, nn, nn, nn, nn, nn, nn, nn] (q.2 ++ []) q.1)) (fun _ => rfl) (rg_bd2 h fun s17 v18 hc h => rg_call (q := cvI (s17, v18)) (T_fM_digits hc) ?_)
  refine rg_step 4 (G' := fun f => ev_after (evT f 356 0 [oR 549 0, oI (cI 44)] [] s17) (fun q => evT f 369 73 [oR 549 0, oI x1, oI v18, nn, nn, nn, nn, nn, nn, nn] (q.2 ++ []) q.1)) (fun _ => rfl) (rg_bd1 h fun s19 hc h => rg_call (q := cvV s19) (T_fM_eat hc) ?_)
  refine rg_step 2 (G' := fun f => ev_after (evT f 358 0 [oR 549 0, nn, nn, nn] [] s19) (fun q => evT f 369 77 [oR 549 0, oI x1, oI v18, nn, nn, nn, nn, nn, nn, nn] (q.2 ++ []) q.1)) (fun _ => rfl) (rg_bd2 h fun s20 v21 hc h => rg_call (q := cvL (s20, v21)) (T_fM_letters hc) ?_)
  refine rg_step 4 (G' := fun f => if x1 = (cI 80) then evT f 369 84 [oR 549 0, oI x1, oI v18, oL v21, nn, nn, nn, nn, nn, nn] [] s20 else evT f 369 88 [oR 549 0, oI x1, oI v18, oL v21, nn, nn, nn, nn, nn, nn] [] s20) (fun _ => rfl) (rg_if h (fun h => ?_) fun h => ?_)
  · exact rg_step 2 (G' := fun f => evT f 369 92 [oR 549 0, oI x1, oI v18, oL v21, nn, nn, nn, nn, nn, nn] [vI (cI 0)] s20) (fun _ => rfl) ((t_fM_entryOfBook_b92) h)
  · refine rg_step 2 (G' := fun f => ev_after (evT f 359 0 [oR 549 0] [] s20) (fun q => evT f 369 92 [oR 549 0, oI x1, oI v18, oL v21, nn, nn, nn, nn, nn, nn] (q.2 ++ []) q.1)) (fun _ => rfl) (rg_bd2 h fun s22 v23 hc h => rg_call (q := cvI (s22, v23)) (T_fM_comma hc) ?_)
    exact (t_fM_entryOfBook_b92) h
theorem t_fM_entryOfBook_b35 {s : ev_M} {x1 : Int32} {y1 : Int32} {j2 : Option ev_V} {j3 : Option ev_V} {j4 : Option ev_V} {j5 : Option ev_V} {j6 : Option ev_V} {j7 : Option ev_V} {j8 : Option ev_V} {j9 : Option ev_V} {q : ev_M × Int32} (h : fM_entryOfBook_b35 s x1 y1 = some q) : RR 369 35 [oR 549 0, oI x1, j2, j3, j4, j5, j6, j7, j8, j9] [vI y1, vR 549 0] s (cvI q) := by
  refine rg_step 1 (G' := fun f => if bz y1 = true then evT f 369 38 [oR 549 0, oI x1, nn, nn, nn, nn, nn, nn, nn, nn] [] (wI s 549 140 y1) else none) (fun _ => rfl) (rg_gd h fun h => rg_ltM h fun s24 h => ?_)
  refine rg_step 4 (G' := fun f => if (s24.1 549 140) = 0 then evT f 369 53 [oR 549 0, oI x1, nn, nn, nn, nn, nn, nn, nn, nn] [vR 549 0] s24 else evT f 369 46 [oR 549 0, oI x1, nn, nn, nn, nn, nn, nn, nn, nn] [vR 549 0] s24) (fun _ => rfl) (rg_if h (fun h => ?_) fun h => ?_)
  · exact rg_step 4 (G' := fun f => evT f 369 59 [oR 549 0, oI x1, nn, nn, nn, nn, nn, nn, nn, nn] [vI ((s24.1 549 139) + (cI 1)), vR 549 0] s24) (fun _ => rfl) ((t_fM_entryOfBook_b59) h)
  · exact rg_step 3 (G' := fun f => evT f 369 59 [oR 549 0, oI x1, nn, nn, nn, nn, nn, nn, nn, nn] [vI (s24.1 549 139), vR 549 0] s24) (fun _ => rfl) ((t_fM_entryOfBook_b59) h)
theorem t_fM_entryOfBook_b34 {s : ev_M} {x1 : Int32} {j2 : Option ev_V} {j3 : Option ev_V} {j4 : Option ev_V} {j5 : Option ev_V} {j6 : Option ev_V} {j7 : Option ev_V} {j8 : Option ev_V} {j9 : Option ev_V} {q : ev_M × Int32} (h : fM_entryOfBook_b34 s x1 = some q) : RR 369 34 [oR 549 0, oI x1, j2, j3, j4, j5, j6, j7, j8, j9] [vR 549 0] s (cvI q) := by
  exact rg_step 1 (G' := fun f => evT f 369 35 [oR 549 0, oI x1, nn, nn, nn, nn, nn, nn, nn, nn] [vI (cI 0), vR 549 0] s) (fun _ => rfl) ((t_fM_entryOfBook_b35) h)
theorem T_fM_entryOfBook {s : ev_M} {q : ev_M × Int32} (h : fM_entryOfBook s = some q) : RR 369 0 [oR 549 0, nn, nn, nn, nn, nn, nn, nn, nn, nn] [] s (cvI q) := by
  refine rg_step 2 (G' := fun f => ev_after (evT f 355 0 [oR 549 0] [] s) (fun q => evT f 369 4 [oR 549 0, nn, nn, nn, nn, nn, nn, nn, nn, nn] (q.2 ++ []) q.1)) (fun _ => rfl) (rg_bd1 h fun v25 hc h => rg_call (q := cvP s v25) (T_fM_look hc) ?_)
  refine rg_step 5 (G' := fun f => if v25 = (cI 80) then evT f 369 34 [oR 549 0, oI v25, nn, nn, nn, nn, nn, nn, nn, nn] [vR 549 0] s else evT f 369 12 [oR 549 0, oI v25, nn, nn, nn, nn, nn, nn, nn, nn] [vR 549 0] s) (fun _ => rfl) (rg_if h (fun h => ?_) fun h => ?_)
  · exact (t_fM_entryOfBook_b34) h
  · refine rg_step 3 (G' := fun f => if v25 = (cI 83) then evT f 369 34 [oR 549 0, oI v25, nn, nn, nn, nn, nn, nn, nn, nn] [vR 549 0] s else evT f 369 18 [oR 549 0, oI v25, nn, nn, nn, nn, nn, nn, nn, nn] [vR 549 0] s) (fun _ => rfl) (rg_if h (fun h => ?_) fun h => ?_)
    · exact (t_fM_entryOfBook_b34) h
    · refine rg_step 3 (G' := fun f => if v25 = (cI 82) then evT f 369 34 [oR 549 0, oI v25, nn, nn, nn, nn, nn, nn, nn, nn] [vR 549 0] s else evT f 369 24 [oR 549 0, oI v25, nn, nn, nn, nn, nn, nn, nn, nn] [vR 549 0] s) (fun _ => rfl) (rg_if h (fun h => ?_) fun h => ?_)
      · exact (t_fM_entryOfBook_b34) h
      · refine rg_step 3 (G' := fun f => if v25 = (cI 72) then evT f 369 34 [oR 549 0, oI v25, nn, nn, nn, nn, nn, nn, nn, nn] [vR 549 0] s else evT f 369 30 [oR 549 0, oI v25, nn, nn, nn, nn, nn, nn, nn, nn] [vR 549 0] s) (fun _ => rfl) (rg_if h (fun h => ?_) fun h => ?_)
        · exact (t_fM_entryOfBook_b34) h
        · exact rg_step 2 (G' := fun f => evT f 369 35 [oR 549 0, oI v25, nn, nn, nn, nn, nn, nn, nn, nn] [vI (cI 1), vR 549 0] s) (fun _ => rfl) ((t_fM_entryOfBook_b35) h)
theorem t_fM_doBook_b91 {k32 : ev_M → Int32 → Int32 → Int32 → Int32 → Int32 → Int32 → Option (ev_M × Int32)} (hk32 : ∀ {s : ev_M} {x1 : Int32} {x2 : Int32} {x3 : Int32} {x4 : Int32} {x5 : Int32} {x6 : Int32} {j7 : Option ev_V} {j8 : Option ev_V} {q : ev_M × Int32}, k32 s x1 x2 x3 x4 x5 x6 = some q → RR 370 32 [oR 549 0, oI x1, oI x2, oI x3, oI x4, oI x5, oI x6, j7, j8] [] s (cvI q)) {s : ev_M} {x1 : Int32} {x2 : Int32} {x3 : Int32} {x4 : Int32} {x5 : Int32} {y0 : Int32} {j6 : Option ev_V} {j7 : Option ev_V} {j8 : Option ev_V} {q : ev_M × Int32} (h : fM_doBook_b91 k32 s x1 x2 x3 x4 x5 y0 = some q) : RR 370 91 [oR 549 0, oI x1, oI x2, oI x3, oI x4, oI x5, j6, j7, j8] [vI y0] s (cvI q) := by
  exact rg_step 3 (G' := fun f => evT f 370 32 [oR 549 0, oI x1, oI x2, oI x3, oI x4, oI (x5 + cI 1), oI y0, nn, nn] [] s) (fun _ => rfl) (hk32 h)
theorem t_fM_doBook_b54 {k32 : ev_M → Int32 → Int32 → Int32 → Int32 → Int32 → Int32 → Option (ev_M × Int32)} (hk32 : ∀ {s : ev_M} {x1 : Int32} {x2 : Int32} {x3 : Int32} {x4 : Int32} {x5 : Int32} {x6 : Int32} {j7 : Option ev_V} {j8 : Option ev_V} {q : ev_M × Int32}, k32 s x1 x2 x3 x4 x5 x6 = some q → RR 370 32 [oR 549 0, oI x1, oI x2, oI x3, oI x4, oI x5, oI x6, j7, j8] [] s (cvI q)) {s : ev_M} {x1 : Int32} {x2 : Int32} {x3 : Int32} {x4 : Int32} {x5 : Int32} {j6 : Option ev_V} {j7 : Option ev_V} {j8 : Option ev_V} {q : ev_M × Int32} (h : fM_doBook_b54 k32 s x1 x2 x3 x4 x5 = some q) : RR 370 54 [oR 549 0, oI x1, oI x2, oI x3, oI x4, oI x5, j6, j7, j8] [] s (cvI q) := by
  refine rg_step 3 (G' := fun f => evT f 370 60 [oR 549 0, oI x1, oI x2, oI x3, oI x4, oI x5, nn, oI (s.1 549 139), nn] [] s) (fun _ => rfl) (rg_ltI (P := fun v1 => RG (fun f => evT f 370 60 [oR 549 0, oI x1, oI x2, oI x3, oI x4, oI x5, nn, oI v1, nn] [] s) (cvI q)) h fun v1 h => ?_)
  refine rg_step 2 (G' := fun f => ev_after (evT f 369 0 [oR 549 0, nn, nn, nn, nn, nn, nn, nn, nn, nn] [] s) (fun q => evT f 370 64 [oR 549 0, oI x1, oI x2, oI x3, oI x4, oI x5, nn, oI v1, nn] (q.2 ++ []) q.1)) (fun _ => rfl) (rg_bd2 h fun s2 v3 hc h => rg_call (q := cvI (s2, v3)) (T_fM_entryOfBook hc) ?_)
  refine rg_step 3 (G' := fun f => if v3 = 0 then evT f 370 75 [oR 549 0, oI x1, oI x2, oI x3, oI x4, oI x5, nn, oI v1, oI v3] [] s2 else evT f 370 71 [oR 549 0, oI x1, oI x2, oI x3, oI x4, oI x5, nn, oI v1, oI v3] [] s2) (fun _ => rfl) (rg_if h (fun h => ?_) fun h => ?_)
  · refine rg_step 3 (G' := fun f => if (s2.1 549 140) = 0 then evT f 370 89 [oR 549 0, oI x1, oI x2, oI x3, oI x4, oI x5, nn, oI v1, oI v3] [] s2 else evT f 370 82 [oR 549 0, oI x1, oI x2, oI x3, oI x4, oI x5, nn, oI v1, oI v3] [] s2) (fun _ => rfl) (rg_if h (fun h => ?_) fun h => ?_)
    · exact rg_step 1 (G' := fun f => evT f 370 91 [oR 549 0, oI x1, oI x2, oI x3, oI x4, oI x5, nn, oI v1, oI v3] [vI v1] s2) (fun _ => rfl) ((t_fM_doBook_b91 hk32) h)
    · exact rg_step 3 (G' := fun f => evT f 370 91 [oR 549 0, oI x1, oI x2, oI x3, oI x4, oI x5, nn, oI v1, oI v3] [vI (s2.1 549 139)] s2) (fun _ => rfl) ((t_fM_doBook_b91 hk32) h)
  · exact rg_step 2 (G' := fun f => evT f 370 91 [oR 549 0, oI x1, oI x2, oI x3, oI x4, oI x5, nn, oI v1, oI v3] [vI (cI (-1))] s2) (fun _ => rfl) ((t_fM_doBook_b91 hk32) h)
theorem t_fM_doBook_b168 {s : ev_M} {y1 : Int32} {j0 : Option ev_V} {j1 : Option ev_V} {j2 : Option ev_V} {j3 : Option ev_V} {j4 : Option ev_V} {j5 : Option ev_V} {j6 : Option ev_V} {j7 : Option ev_V} {j8 : Option ev_V} {q : ev_M × Int32} (h : fM_doBook_b168 s y1 = some q) : RR 370 168 [j0, j1, j2, j3, j4, j5, j6, j7, j8] [vI y1, vR 549 0] s (cvI q) := by
  refine rg_step 1 (G' := fun f => ev_after (evT f 315 0 [oR 549 0, oI y1] [] s) (fun q => evT f 370 171 [nn, nn, nn, nn, nn, nn, nn, nn, nn] (q.2 ++ []) q.1)) (fun _ => rfl) (rg_bd2 h fun s4 v5 hc h => rg_call (q := cvI (s4, v5)) (T_fM_no hc) ?_)
  exact rg_end 1 (fun _ => rfl) (by cases h; rfl)
theorem t_fM_doBook_b130 {s : ev_M} {x1 : Int32} {x2 : Int32} {x3 : Int32} {x4 : Int32} {x6 : Int32} {x7 : Int32} {j5 : Option ev_V} {j8 : Option ev_V} {q : ev_M × Int32} (h : fM_doBook_b130 s x1 x2 x3 x4 x6 x7 = some q) : RR 370 130 [oR 549 0, oI x1, oI x2, oI x3, oI x4, j5, oI x6, oI x7, j8] [] s (cvI q) := by
  refine rg_step 3 (G' := fun f => evT f 370 135 [oR 549 0, oI x1, oI x2, oI x3, oI x4, nn, oI x6, oI x7, nn] [] (wI s 549 24 x1)) (fun _ => rfl) (rg_ltM h fun s6 h => ?_)
  refine rg_step 3 (G' := fun f => evT f 370 140 [oR 549 0, oI x1, oI x2, oI x3, oI x4, nn, oI x6, oI x7, nn] [] (wI s6 549 27 x2)) (fun _ => rfl) (rg_ltM h fun s7 h => ?_)
  refine rg_step 3 (G' := fun f => evT f 370 145 [oR 549 0, oI x1, oI x2, oI x3, oI x4, nn, oI x6, oI x7, nn] [] (wI s7 549 33 x3)) (fun _ => rfl) (rg_ltM h fun s8 h => ?_)
  refine rg_step 3 (G' := fun f => evT f 370 151 [oR 549 0, oI x1, oI x2, oI x3, oI x4, nn, oI x6, oI x7, nn] [] (wI s8 549 38 x4)) (fun _ => rfl) (rg_ltM h fun s9 h => ?_)
  refine rg_step 3 (G' := fun f => if x7 = 0 then evT f 370 162 [oR 549 0, oI x1, oI x2, oI x3, oI x4, nn, oI x6, oI x7, nn] [vR 549 0] s9 else evT f 370 157 [oR 549 0, oI x1, oI x2, oI x3, oI x4, nn, oI x6, oI x7, nn] [vR 549 0] s9) (fun _ => rfl) (rg_if h (fun h => ?_) fun h => ?_)
  · exact rg_step 3 (G' := fun f => evT f 370 168 [oR 549 0, oI x1, oI x2, oI x3, oI x4, nn, oI x6, oI x7, nn] [vI ((cI (-1000)) - x6), vR 549 0] s9) (fun _ => rfl) ((t_fM_doBook_b168) h)
  · exact rg_step 2 (G' := fun f => evT f 370 168 [oR 549 0, oI x1, oI x2, oI x3, oI x4, nn, oI x6, oI x7, nn] [vI (cI (-104)), vR 549 0] s9) (fun _ => rfl) ((t_fM_doBook_b168) h)
theorem t_fM_doBook_b117 {s : ev_M} {x1 : Int32} {x2 : Int32} {x3 : Int32} {x4 : Int32} {x5 : Int32} {x6 : Int32} {y0 : Int32} {j7 : Option ev_V} {j8 : Option ev_V} {q : ev_M × Int32} (h : fM_doBook_b117 s x1 x2 x3 x4 x5 x6 y0 = some q) : RR 370 117 [oR 549 0, oI x1, oI x2, oI x3, oI x4, oI x5, oI x6, j7, j8] [vI y0] s (cvI q) := by
  refine rg_step 4 (G' := fun f => if x6 = (cI (-1)) then evT f 370 125 [oR 549 0, oI x1, oI x2, oI x3, oI x4, oI x5, oI x6, oI y0, nn] [] s else evT f 370 130 [oR 549 0, oI x1, oI x2, oI x3, oI x4, oI x5, oI x6, oI y0, nn] [] s) (fun _ => rfl) (rg_if h (fun h => ?_) fun h => ?_)
  · refine rg_step 2 (G' := fun f => if y0 = 0 then evT f 370 172 [oR 549 0, oI x1, oI x2, oI x3, oI x4, oI x5, oI x6, oI y0, nn] [] s else evT f 370 130 [oR 549 0, oI x1, oI x2, oI x3, oI x4, oI x5, oI x6, oI y0, nn] [] s) (fun _ => rfl) (rg_if h (fun h => ?_) fun h => ?_)
    · exact rg_end 2 (fun _ => rfl) (by cases h; rfl)
    · exact (t_fM_doBook_b130) h
  · exact (t_fM_doBook_b130) h
theorem t_fM_doBook_b116 {s : ev_M} {x1 : Int32} {x2 : Int32} {x3 : Int32} {x4 : Int32} {x5 : Int32} {x6 : Int32} {j7 : Option ev_V} {j8 : Option ev_V} {q : ev_M × Int32} (h : fM_doBook_b116 s x1 x2 x3 x4 x5 x6 = some q) : RR 370 116 [oR 549 0, oI x1, oI x2, oI x3, oI x4, oI x5, oI x6, j7, j8] [] s (cvI q) := by
  exact rg_step 1 (G' := fun f => evT f 370 117 [oR 549 0, oI x1, oI x2, oI x3, oI x4, oI x5, oI x6, nn, nn] [vI (cI 0)] s) (fun _ => rfl) ((t_fM_doBook_b117) h)
theorem t_fM_doBook_b99 {s : ev_M} {x1 : Int32} {x2 : Int32} {x3 : Int32} {x4 : Int32} {x5 : Int32} {x6 : Int32} {j7 : Option ev_V} {j8 : Option ev_V} {q : ev_M × Int32} (h : fM_doBook_b99 s x1 x2 x3 x4 x5 x6 = some q) : RR 370 99 [oR 549 0, oI x1, oI x2, oI x3, oI x4, oI x5, oI x6, j7, j8] [] s (cvI q) := by
  refine rg_step 3 (G' := fun f => if x6 = (cI (-1)) then evT f 370 105 [oR 549 0, oI x1, oI x2, oI x3, oI x4, oI x5, oI x6, nn, nn] [] s else evT f 370 116 [oR 549 0, oI x1, oI x2, oI x3, oI x4, oI x5, oI x6, nn, nn] [] s) (fun _ => rfl) (rg_if h (fun h => ?_) fun h => ?_)
  · refine rg_step 2 (G' := fun f => ev_after (evT f 316 0 [oR 549 0, nn] [] s) (fun q => evT f 370 109 [oR 549 0, oI x1, oI x2, oI x3, oI x4, oI x5, oI x6, nn, nn] (q.2 ++ []) q.1)) (fun _ => rfl) (rg_bd1 h fun v10 hc h => rg_call (q := cvP s v10) (T_fM_full hc) ?_)
    refine rg_step 1 (G' := fun f => if v10 = 0 then evT f 370 116 [oR 549 0, oI x1, oI x2, oI x3, oI x4, oI x5, oI x6, nn, nn] [] s else evT f 370 112 [oR 549 0, oI x1, oI x2, oI x3, oI x4, oI x5, oI x6, nn, nn] [] s) (fun _ => rfl) (rg_if h (fun h => ?_) fun h => ?_)
    · exact (t_fM_doBook_b116) h
    · exact rg_step 2 (G' := fun f => evT f 370 117 [oR 549 0, oI x1, oI x2, oI x3, oI x4, oI x5, oI x6, nn, nn] [vI (cI 1)] s) (fun _ => rfl) ((t_fM_doBook_b117) h)
  · exact (t_fM_doBook_b116) h
theorem ti_fM_doBook_h32 : ∀ (n : Nat) (s : ev_M) (x1 : Int32) (x2 : Int32) (x3 : Int32) (x4 : Int32) (x5 : Int32) (x6 : Int32) (j7 : Option ev_V) (j8 : Option ev_V) (q : ev_M × Int32), fM_doBook_h32 n s x1 x2 x3 x4 x5 x6 = some q → RR 370 32 [oR 549 0, oI x1, oI x2, oI x3, oI x4, oI x5, oI x6, j7, j8] [] s (cvI q) := by
  intro n
  induction n with
  | zero => intro s x1 x2 x3 x4 x5 x6 j7 j8 q h; cases h
  | succ n ih =>
    have hk32 : ∀ {s : ev_M} {x1 : Int32} {x2 : Int32} {x3 : Int32} {x4 : Int32} {x5 : Int32} {x6 : Int32} {j7 : Option ev_V} {j8 : Option ev_V} {q : ev_M × Int32}, fM_doBook_h32 n s x1 x2 x3 x4 x5 x6 = some q → RR 370 32 [oR 549 0, oI x1, oI x2, oI x3, oI x4, oI x5, oI x6, j7, j8] [] s (cvI q) := fun h => ih _ _ _ _ _ _ _ _ _ _ h
    intro s x1 x2 x3 x4 x5 x6 j7 j8 q h
    refine rg_step 3 (G' := fun f => if x6 = (cI (-1)) then evT f 370 38 [oR 549 0, oI x1, oI x2, oI x3, oI x4, oI x5, oI x6, nn, nn] [] s else evT f 370 99 [oR 549 0, oI x1, oI x2, oI x3, oI x4, oI x5, oI x6, nn, nn] [] s) (fun _ => rfl) (rg_if h (fun h => ?_) fun h => ?_)
    · refine rg_step 5 (G' := fun f => if (s.1 549 139) < (s.1 549 13) then evT f 370 54 [oR 549 0, oI x1, oI x2, oI x3, oI x4, oI x5, oI x6, nn, nn] [] s else evT f 370 49 [oR 549 0, oI x1, oI x2, oI x3, oI x4, oI x5, oI x6, nn, nn] [] s) (fun _ => rfl) (rg_if h (fun h => ?_) fun h => ?_)
      · exact (t_fM_doBook_b54 hk32) h
      · refine rg_step 2 (G' := fun f => if x5 = 0 then evT f 370 54 [oR 549 0, oI x1, oI x2, oI x3, oI x4, oI x5, oI x6, nn, nn] [] s else evT f 370 99 [oR 549 0, oI x1, oI x2, oI x3, oI x4, oI x5, oI x6, nn, nn] [] s) (fun _ => rfl) (rg_if h (fun h => ?_) fun h => ?_)
        · exact (t_fM_doBook_b54 hk32) h
        · exact (t_fM_doBook_b99) h
    · exact (t_fM_doBook_b99) h
theorem t_fM_doBook_h32 {n : Nat} {s : ev_M} {x1 : Int32} {x2 : Int32} {x3 : Int32} {x4 : Int32} {x5 : Int32} {x6 : Int32} {j7 : Option ev_V} {j8 : Option ev_V} {q : ev_M × Int32} (h : fM_doBook_h32 n s x1 x2 x3 x4 x5 x6 = some q) : RR 370 32 [oR 549 0, oI x1, oI x2, oI x3, oI x4, oI x5, oI x6, j7, j8] [] s (cvI q) := ti_fM_doBook_h32 n s x1 x2 x3 x4 x5 x6 j7 j8 q h
theorem T_fM_doBook {s : ev_M} {q : ev_M × Int32} (h : fM_doBook s = some q) : RR 370 0 [oR 549 0, nn, nn, nn, nn, nn, nn, nn, nn] [] s (cvI q) := by
  refine rg_step 3 (G' := fun f => evT f 370 5 [oR 549 0, oI (s.1 549 24), nn, nn, nn, nn, nn, nn, nn] [] s) (fun _ => rfl) (rg_ltI (P := fun v11 => RG (fun f => evT f 370 5 [oR 549 0, oI v11, nn, nn, nn, nn, nn, nn, nn] [] s) (cvI q)) h fun v11 h => ?_)
  refine rg_step 3 (G' := fun f => evT f 370 10 [oR 549 0, oI v11, oI (s.1 549 27), nn, nn, nn, nn, nn, nn] [] s) (fun _ => rfl) (rg_ltI (P := fun v12 => RG (fun f => evT f 370 10 [oR 549 0, oI v11, oI v12, nn, nn, nn, nn, nn, nn] [] s) (cvI q)) h fun v12 h => ?_)
  refine rg_step 3 (G' := fun f => evT f 370 15 [oR 549 0, oI v11, oI v12, oI (s.1 549 33), nn, nn, nn, nn, nn] [] s) (fun _ => rfl) (rg_ltI (P := fun v13 => RG (fun f => evT f 370 15 [oR 549 0, oI v11, oI v12, oI v13, nn, nn, nn, nn, nn] [] s) (cvI q)) h fun v13 h => ?_)
  refine rg_step 3 (G' := fun f => evT f 370 21 [oR 549 0, oI v11, oI v12, oI v13, oI (s.1 549 38), nn, nn, nn, nn] [] s) (fun _ => rfl) (rg_ltI (P := fun v14 => RG (fun f => evT f 370 21 [oR 549 0, oI v11, oI v12, oI v13, oI v14, nn, nn, nn, nn] [] s) (cvI q)) h fun v14 h => ?_)
  refine rg_step 7 (G' := fun f => evT f 370 32 [oR 549 0, oI v11, oI v12, oI v13, oI v14, oI (cI 0), oI (cI (-1)), nn, nn] [] (wI s 549 139 (cI 0))) (fun _ => rfl) (rg_ltM h fun s15 h => ?_)
  exact (t_fM_doBook_h32) h
theorem T_fM_today {s : ev_M} {q : Int32} (h : fM_today s = some q) : RR 340 0 [oR 549 0] [] s (cvP s q) := by
  refine rg_step 4 (G' := fun f => if (cI 1440) = 0 then none else evT f 340 8 [oR 549 0] [vI ((s.1 549 22) / (cI 1440))] s) (fun _ => rfl) (rg_dv h fun h => ?_)
  exact rg_end 1 (fun _ => rfl) (by cases h; rfl)
theorem T_fM_isPoint {s : ev_M} {a1 : Int32} {q : Int32} (h : fM_isPoint s a1 = some q) : RR 341 0 [oR 549 0, oI a1] [] s (cvP s q) := by
  refine rg_step 7 (G' := fun f => ev_after (evT f 311 0 [oI a1, oI (cI 0), oI ((s.1 549 38) - (cI 1))] [] s) (fun q => evT f 341 11 [oR 549 0, oI a1] (q.2 ++ []) q.1)) (fun _ => rfl) (rg_bd1 h fun v1 hc h => rg_call (q := cvP s v1) (T_fM_in hc) ?_)
  exact rg_step 1 (G' := fun f => if bz v1 = true then some (s, [vI v1]) else none) (fun _ => rfl) (rg_gd h fun h => rg_end 0 (fun _ => rfl) (by cases h; rfl))
theorem t_fM_doNote_b21 {s : ev_M} {j1 : Option ev_V} {j2 : Option ev_V} {j3 : Option ev_V} {j4 : Option ev_V} {j5 : Option ev_V} {q : ev_M × Int32} (h : fM_doNote_b21 s = some q) : RR 372 21 [oR 549 0, j1, j2, j3, j4, j5] [] s (cvI q) := by
  refine rg_step 3 (G' := fun f => ev_after (evT f 315 0 [oR 549 0, oI (cI (-101))] [] s) (fun q => evT f 372 27 [oR 549 0, nn, nn, nn, nn, nn] (q.2 ++ []) q.1)) (fun _ => rfl) (rg_bd2 h fun s1 v2 hc h => rg_call (q := cvI (s1, v2)) (T_fM_no hc) ?_)
  exact rg_end 1 (fun _ => rfl) (by cases h; rfl)
theorem t_fM_doNote_b65 {s : ev_M} {j1 : Option ev_V} {j2 : Option ev_V} {j3 : Option ev_V} {j4 : Option ev_V} {j5 : Option ev_V} {q : ev_M × Int32} (h : fM_doNote_b65 s = some q) : RR 372 65 [oR 549 0, j1, j2, j3, j4, j5] [] s (cvI q) := by
  refine rg_step 3 (G' := fun f => ev_after (evT f 315 0 [oR 549 0, oI (cI (-102))] [] s) (fun q => evT f 372 71 [oR 549 0, nn, nn, nn, nn, nn] (q.2 ++ []) q.1)) (fun _ => rfl) (rg_bd2 h fun s3 v4 hc h => rg_call (q := cvI (s3, v4)) (T_fM_no hc) ?_)
  exact rg_end 1 (fun _ => rfl) (by cases h; rfl)
theorem t_fM_doNote_b88 {s : ev_M} {j1 : Option ev_V} {j2 : Option ev_V} {j3 : Option ev_V} {j4 : Option ev_V} {j5 : Option ev_V} {q : ev_M × Int32} (h : fM_doNote_b88 s = some q) : RR 372 88 [oR 549 0, j1, j2, j3, j4, j5] [] s (cvI q) := by
  refine rg_step 3 (G' := fun f => ev_after (evT f 315 0 [oR 549 0, oI (cI (-104))] [] s) (fun q => evT f 372 94 [oR 549 0, nn, nn, nn, nn, nn] (q.2 ++ []) q.1)) (fun _ => rfl) (rg_bd2 h fun s5 v6 hc h => rg_call (q := cvI (s5, v6)) (T_fM_no hc) ?_)
  exact rg_end 1 (fun _ => rfl) (by cases h; rfl)
theorem t_fM_doNote_b133 {s : ev_M} {x5 : Int32} {y1 : Int32} {y2 : Int32} {j1 : Option ev_V} {j2 : Option ev_V} {j3 : Option ev_V} {j4 : Option ev_V} {q : ev_M × Int32} (h : fM_doNote_b133 s x5 y1 y2 = some q) : RR 372 133 [oR 549 0, j1, j2, j3, j4, oI x5] [vI y2, vI y1, vR 575 0] s (cvI q) := by
  refine rg_step 1 (G' := fun f => if inb y1 60 = true then evT f 372 134 [oR 549 0, nn, nn, nn, nn, oI x5] [] (wI s 575 (ix y1) y2) else none) (fun _ => rfl) (rg_gd h fun h => rg_ltM h fun s7 h => ?_)
  refine rg_step 6 (G' := fun f => if inb (s7.1 549 43) 60 = true then evT f 372 145 [oR 549 0, nn, nn, nn, nn, oI x5] [] (wI s7 576 (ix (s7.1 549 43)) x5) else none) (fun _ => rfl) (rg_gd h fun h => rg_ltM h fun s8 h => ?_)
  refine rg_step 6 (G' := fun f => evT f 372 155 [oR 549 0, nn, nn, nn, nn, oI x5] [] (wI s8 549 43 ((s8.1 549 43) + (cI 1)))) (fun _ => rfl) (rg_ltM h fun s9 h => ?_)
  exact rg_end 5 (fun _ => rfl) (by cases h; rfl)
theorem t_fM_doNote_b72 {s : ev_M} {x1 : Int32} {x2 : Int32} {x3 : Int32} {x4 : Int32} {x5 : Int32} {q : ev_M × Int32} (h : fM_doNote_b72 s x1 x2 x3 x4 x5 = some q) : RR 372 72 [oR 549 0, oI x1, oI x2, oI x3, oI x4, oI x5] [] s (cvI q) := by
  refine rg_step 4 (G' := fun f => if (s.1 549 43) = (cI 60) then evT f 372 88 [oR 549 0, oI x1, oI x2, oI x3, oI x4, oI x5] [] s else evT f 372 81 [oR 549 0, oI x1, oI x2, oI x3, oI x4, oI x5] [] s) (fun _ => rfl) (rg_if h (fun h => ?_) fun h => ?_)
  · exact (t_fM_doNote_b88) h
  · refine rg_step 2 (G' := fun f => ev_after (evT f 316 0 [oR 549 0, nn] [] s) (fun q => evT f 372 85 [oR 549 0, oI x1, oI x2, oI x3, oI x4, oI x5] (q.2 ++ []) q.1)) (fun _ => rfl) (rg_bd1 h fun v10 hc h => rg_call (q := cvP s v10) (T_fM_full hc) ?_)
    refine rg_step 1 (G' := fun f => if v10 = 0 then evT f 372 95 [oR 549 0, oI x1, oI x2, oI x3, oI x4, oI x5] [] s else evT f 372 88 [oR 549 0, oI x1, oI x2, oI x3, oI x4, oI x5] [] s) (fun _ => rfl) (rg_if h (fun h => ?_) fun h => ?_)
    · refine rg_step 6 (G' := fun f => if inb (s.1 549 43) 60 = true then evT f 372 105 [oR 549 0, oI x1, oI x2, oI x3, oI x4, oI x5] [] (wI s 573 (ix (s.1 549 43)) x1) else none) (fun _ => rfl) (rg_gd h fun h => rg_ltM h fun s11 h => ?_)
      refine rg_step 6 (G' := fun f => if inb (s11.1 549 43) 60 = true then evT f 372 115 [oR 549 0, oI x1, oI x2, oI x3, oI x4, oI x5] [] (wI s11 574 (ix (s11.1 549 43)) x2) else none) (fun _ => rfl) (rg_gd h fun h => rg_ltM h fun s12 h => ?_)
      refine rg_step 6 (G' := fun f => if x3 = 0 then evT f 372 132 [oR 549 0, oI x1, oI x2, oI x3, oI x4, oI x5] [vI (s12.1 549 43), vR 575 0] s12 else evT f 372 127 [oR 549 0, oI x1, oI x2, oI x3, oI x4, oI x5] [vI (s12.1 549 43), vR 575 0] s12) (fun _ => rfl) (rg_if h (fun h => ?_) fun h => ?_)
      · exact rg_step 1 (G' := fun f => evT f 372 133 [oR 549 0, oI x1, oI x2, oI x3, oI x4, oI x5] [vI (cI (-1)), vI (s12.1 549 43), vR 575 0] s12) (fun _ => rfl) ((t_fM_doNote_b133) h)
      · exact rg_step 2 (G' := fun f => evT f 372 133 [oR 549 0, oI x1, oI x2, oI x3, oI x4, oI x5] [vI x4, vI (s12.1 549 43), vR 575 0] s12) (fun _ => rfl) ((t_fM_doNote_b133) h)
    · exact (t_fM_doNote_b88) h
theorem t_fM_doNote_b28 {s : ev_M} {x1 : Int32} {x2 : Int32} {x3 : Int32} {x4 : Int32} {x5 : Int32} {q : ev_M × Int32} (h : fM_doNote_b28 s x1 x2 x3 x4 x5 = some q) : RR 372 28 [oR 549 0, oI x1, oI x2, oI x3, oI x4, oI x5] [] s (cvI q) := by
  refine rg_step 4 (G' := fun f => ev_after (evT f 311 0 [oI x2, oI (cI 0), oI (cI 99)] [] s) (fun q => evT f 372 35 [oR 549 0, oI x1, oI x2, oI x3, oI x4, oI x5] (q.2 ++ []) q.1)) (fun _ => rfl) (rg_bd1 h fun v13 hc h => rg_call (q := cvP s v13) (T_fM_in hc) ?_)
  refine rg_step 1 (G' := fun f => if v13 = 0 then evT f 372 65 [oR 549 0, oI x1, oI x2, oI x3, oI x4, oI x5] [] s else evT f 372 38 [oR 549 0, oI x1, oI x2, oI x3, oI x4, oI x5] [] s) (fun _ => rfl) (rg_if h (fun h => ?_) fun h => ?_)
  · exact (t_fM_doNote_b65) h
  · refine rg_step 3 (G' := fun f => ev_after (evT f 340 0 [oR 549 0] [] s) (fun q => evT f 372 44 [oR 549 0, oI x1, oI x2, oI x3, oI x4, oI x5] (q.2 ++ [vI x5]) q.1)) (fun _ => rfl) (rg_bd1 h fun v14 hc h => rg_call (q := cvP s v14) (T_fM_today hc) ?_)
    refine rg_step 1 (G' := fun f => if x5 ≤ v14 then evT f 372 65 [oR 549 0, oI x1, oI x2, oI x3, oI x4, oI x5] [] s else evT f 372 47 [oR 549 0, oI x1, oI x2, oI x3, oI x4, oI x5] [] s) (fun _ => rfl) (rg_if h (fun h => ?_) fun h => ?_)
    · exact (t_fM_doNote_b65) h
    · refine rg_step 3 (G' := fun f => if x5 ≤ (cI 100000) then evT f 372 55 [oR 549 0, oI x1, oI x2, oI x3, oI x4, oI x5] [] s else evT f 372 65 [oR 549 0, oI x1, oI x2, oI x3, oI x4, oI x5] [] s) (fun _ => rfl) (rg_if h (fun h => ?_) fun h => ?_)
      · refine rg_step 2 (G' := fun f => if x3 = 0 then evT f 372 72 [oR 549 0, oI x1, oI x2, oI x3, oI x4, oI x5] [] s else evT f 372 59 [oR 549 0, oI x1, oI x2, oI x3, oI x4, oI x5] [] s) (fun _ => rfl) (rg_if h (fun h => ?_) fun h => ?_)
        · exact (t_fM_doNote_b72) h
        · refine rg_step 3 (G' := fun f => if x4 = x1 then evT f 372 65 [oR 549 0, oI x1, oI x2, oI x3, oI x4, oI x5] [] s else evT f 372 72 [oR 549 0, oI x1, oI x2, oI x3, oI x4, oI x5] [] s) (fun _ => rfl) (rg_if h (fun h => ?_) fun h => ?_)
          · exact (t_fM_doNote_b65) h
          · exact (t_fM_doNote_b72) h
      · exact (t_fM_doNote_b65) h
theorem T_fM_doNote {s : ev_M} {a1 : Int32} {a2 : Int32} {a3 : Int32} {a4 : Int32} {a5 : Int32} {q : ev_M × Int32} (h : fM_doNote s a1 a2 a3 a4 a5 = some q) : RR 372 0 [oR 549 0, oI a1, oI a2, oI a3, oI a4, oI a5] [] s (cvI q) := by
  refine rg_step 3 (G' := fun f => ev_after (evT f 341 0 [oR 549 0, oI a1] [] s) (fun q => evT f 372 5 [oR 549 0, oI a1, oI a2, oI a3, oI a4, oI a5] (q.2 ++ []) q.1)) (fun _ => rfl) (rg_bd1 h fun v15 hc h => rg_call (q := cvP s v15) (T_fM_isPoint hc) ?_)
  refine rg_step 1 (G' := fun f => if v15 = 0 then evT f 372 21 [oR 549 0, oI a1, oI a2, oI a3, oI a4, oI a5] [] s else evT f 372 8 [oR 549 0, oI a1, oI a2, oI a3, oI a4, oI a5] [] s) (fun _ => rfl) (rg_if h (fun h => ?_) fun h => ?_)
  · exact (t_fM_doNote_b21) h
  · refine rg_step 2 (G' := fun f => if a3 = 0 then evT f 372 28 [oR 549 0, oI a1, oI a2, oI a3, oI a4, oI a5] [] s else evT f 372 12 [oR 549 0, oI a1, oI a2, oI a3, oI a4, oI a5] [] s) (fun _ => rfl) (rg_if h (fun h => ?_) fun h => ?_)
    · exact (t_fM_doNote_b28) h
    · refine rg_step 3 (G' := fun f => ev_after (evT f 341 0 [oR 549 0, oI a4] [] s) (fun q => evT f 372 18 [oR 549 0, oI a1, oI a2, oI a3, oI a4, oI a5] (q.2 ++ []) q.1)) (fun _ => rfl) (rg_bd1 h fun v16 hc h => rg_call (q := cvP s v16) (T_fM_isPoint hc) ?_)
      refine rg_step 1 (G' := fun f => if v16 = 0 then evT f 372 21 [oR 549 0, oI a1, oI a2, oI a3, oI a4, oI a5] [] s else evT f 372 28 [oR 549 0, oI a1, oI a2, oI a3, oI a4, oI a5] [] s) (fun _ => rfl) (rg_if h (fun h => ?_) fun h => ?_)
      · exact (t_fM_doNote_b21) h
      · exact (t_fM_doNote_b28) h
theorem t_fM_part_b227 {k30 : ev_M → Int32 → Int32 → Int32 → Int32 → Int32 → Int32 → Option ev_M} {k115 : ev_M → Int32 → Int32 → Int32 → Int32 → Int32 → Int32 → Int32 → Int32 → Int32 → Option ev_M} (hk30 : ∀ {s : ev_M} {x1 : Int32} {x2 : Int32} {x3 : Int32} {x4 : Int32} {x5 : Int32} {x6 : Int32} {j7 : Option ev_V} {j8 : Option ev_V} {j9 : Option ev_V} {j10 : Option ev_V} {j11 : Option ev_V} {q : ev_M}, k30 s x1 x2 x3 x4 x5 x6 = some q → RR 384 30 [oR 549 0, oI x1, oI x2, oI x3, oI x4, oI x5, oI x6, j7, j8, j9, j10, j11] [] s (cvV q)) (hk115 : ∀ {s : ev_M} {x1 : Int32} {x2 : Int32} {x3 : Int32} {x4 : Int32} {x5 : Int32} {x6 : Int32} {x7 : Int32} {x8 : Int32} {x9 : Int32} {j10 : Option ev_V} {j11 : Option ev_V} {q : ev_M}, k115 s x1 x2 x3 x4 x5 x6 x7 x8 x9 = some q → RR 384 115 [oR 549 0, oI x1, oI x2, oI x3, oI x4, oI x5, oI x6, oI x7, oI x8, oI x9, j10, j11] [] s (cvV q)) {s : ev_M} {x1 : Int32} {x2 : Int32} {x3 : Int32} {x4 : Int32} {x5 : Int32} {x6 : Int32} {x7 : Int32} {x8 : Int32} {x9 : Int32} {j10 : Option ev_V} {j11 : Option ev_V} {q : ev_M} (h : fM_part_b227 k30 k115 s x1 x2 x3 x4 x5 x6 x7 x8 x9 = some q) : RR 384 227 [oR 549 0, oI x1, oI x2, oI x3, oI x4, oI x5, oI x6, oI x7, oI x8, oI x9, j10, j11] [] s (cvV q) := by
  exact rg_step 2 (G' := fun f => evT f 384 115 [oR 549 0, oI x1, oI x2, oI x3, oI x4, oI x5, oI x6, oI x7, oI x8, oI (x9 + cI 1), nn, nn] [] s) (fun _ => rfl) (hk115 h)
theorem ti_fM_part_h115 {k30 : ev_M → Int32 → Int32 → Int32 → Int32 → Int32 → Int32 → Option ev_M} (hk30 : ∀ {s : ev_M} {x1 : Int32} {x2 : Int32} {x3 : Int32} {x4 : Int32} {x5 : Int32} {x6 : Int32} {j7 : Option ev_V} {j8 : Option ev_V} {j9 : Option ev_V} {j10 : Option ev_V} {j11 : Option ev_V} {q : ev_M}, k30 s x1 x2 x3 x4 x5 x6 = some q → RR 384 30 [oR 549 0, oI x1, oI x2, oI x3, oI x4, oI x5, oI x6, j7, j8, j9, j10, j11] [] s (cvV q)) : ∀ (n : Nat) (s : ev_M) (x1 : Int32) (x2 : Int32) (x3 : Int32) (x4 : Int32) (x5 : Int32) (x6 : Int32) (x7 : Int32) (x8 : Int32) (x9 : Int32) (j10 : Option ev_V) (j11 : Option ev_V) (q : ev_M), fM_part_h115 k30 n s x1 x2 x3 x4 x5 x6 x7 x8 x9 = some q → RR 384 115 [oR 549 0, oI x1, oI x2, oI x3, oI x4, oI x5, oI x6, oI x7, oI x8, oI x9, j10, j11] [] s (cvV q) := by
  intro n
  induction n with
  | zero => intro s x1 x2 x3 x4 x5 x6 x7 x8 x9 j10 j11 q h; cases h
  | succ n ih =>
    have hk115 : ∀ {s : ev_M} {x1 : Int32} {x2 : Int32} {x3 : Int32} {x4 : Int32} {x5 : Int32} {x6 : Int32} {x7 : Int32} {x8 : Int32} {x9 : Int32} {j10 : Option ev_V} {j11 : Option ev_V} {q : ev_M}, fM_part_h115 k30 n s x1 x2 x3 x4 x5 x6 x7 x8 x9 = some q → RR 384 115 [oR 549 0, oI x1, oI x2, oI x3, oI x4, oI x5, oI x6, oI x7, oI x8, oI x9, j10, j11] [] s (cvV q) := fun h => ih _ _ _ _ _ _ _ _ _ _ _ _ _ h
    intro s x1 x2 x3 x4 x5 x6 x7 x8 x9 j10 j11 q h
    refine rg_step 3 (G' := fun f => if x9 < (cI 9) then evT f 384 122 [oR 549 0, oI x1, oI x2, oI x3, oI x4, oI x5, oI x6, oI x7, oI x8, oI x9, nn, nn] [] s else evT f 384 233 [oR 549 0, oI x1, oI x2, oI x3, oI x4, oI x5, oI x6, oI x7, oI x8, oI x9, nn, nn] [] s) (fun _ => rfl) (rg_if h (fun h => ?_) fun h => ?_)
    · refine rg_step 4 (G' := fun f => if (cI 3) = 0 then none else evT f 384 128 [oR 549 0, oI x1, oI x2, oI x3, oI x4, oI x5, oI x6, oI x7, oI x8, oI x9, nn, nn] [vI (irem x9 (cI 3)), vI x7] s) (fun _ => rfl) (rg_dv h fun h => ?_)
      refine rg_step 4 (G' := fun f => evT f 384 133 [oR 549 0, oI x1, oI x2, oI x3, oI x4, oI x5, oI x6, oI x7, oI x8, oI x9, oI ((x7 + (irem x9 (cI 3))) - (cI 1)), nn] [] s) (fun _ => rfl) (rg_ltI (P := fun v1 => RG (fun f => evT f 384 133 [oR 549 0, oI x1, oI x2, oI x3, oI x4, oI x5, oI x6, oI x7, oI x8, oI x9, oI v1, nn] [] s) (cvV q)) h fun v1 h => ?_)
      refine rg_step 4 (G' := fun f => if (cI 3) = 0 then none else evT f 384 139 [oR 549 0, oI x1, oI x2, oI x3, oI x4, oI x5, oI x6, oI x7, oI x8, oI x9, oI v1, nn] [vI (x9 / (cI 3)), vI x8] s) (fun _ => rfl) (rg_dv h fun h => ?_)
      refine rg_step 4 (G' := fun f => evT f 384 144 [oR 549 0, oI x1, oI x2, oI x3, oI x4, oI x5, oI x6, oI x7, oI x8, oI x9, oI v1, oI ((x8 + (x9 / (cI 3))) - (cI 1))] [] s) (fun _ => rfl) (rg_ltI (P := fun v2 => RG (fun f => evT f 384 144 [oR 549 0, oI x1, oI x2, oI x3, oI x4, oI x5, oI x6, oI x7, oI x8, oI x9, oI v1, oI v2] [] s) (cvV q)) h fun v2 h => ?_)
      refine rg_step 7 (G' := fun f => ev_after (evT f 311 0 [oI v1, oI (cI 0), oI ((s.1 549 152) - (cI 1))] [] s) (fun q => evT f 384 156 [oR 549 0, oI x1, oI x2, oI x3, oI x4, oI x5, oI x6, oI x7, oI x8, oI x9, oI v1, oI v2] (q.2 ++ []) q.1)) (fun _ => rfl) (rg_bd1 h fun v3 hc h => rg_call (q := cvP s v3) (T_fM_in hc) ?_)
      refine rg_step 1 (G' := fun f => if v3 = 0 then evT f 384 227 [oR 549 0, oI x1, oI x2, oI x3, oI x4, oI x5, oI x6, oI x7, oI x8, oI x9, oI v1, oI v2] [] s else evT f 384 159 [oR 549 0, oI x1, oI x2, oI x3, oI x4, oI x5, oI x6, oI x7, oI x8, oI x9, oI v1, oI v2] [] s) (fun _ => rfl) (rg_if h (fun h => ?_) fun h => ?_)
      · exact (t_fM_part_b227 hk30 hk115) h
      · refine rg_step 7 (G' := fun f => ev_after (evT f 311 0 [oI v2, oI (cI 0), oI ((s.1 549 153) - (cI 1))] [] s) (fun q => evT f 384 171 [oR 549 0, oI x1, oI x2, oI x3, oI x4, oI x5, oI x6, oI x7, oI x8, oI x9, oI v1, oI v2] (q.2 ++ []) q.1)) (fun _ => rfl) (rg_bd1 h fun v4 hc h => rg_call (q := cvP s v4) (T_fM_in hc) ?_)
        refine rg_step 1 (G' := fun f => if v4 = 0 then evT f 384 227 [oR 549 0, oI x1, oI x2, oI x3, oI x4, oI x5, oI x6, oI x7, oI x8, oI x9, oI v1, oI v2] [] s else evT f 384 174 [oR 549 0, oI x1, oI x2, oI x3, oI x4, oI x5, oI x6, oI x7, oI x8, oI x9, oI v1, oI v2] [] s) (fun _ => rfl) (rg_if h (fun h => ?_) fun h => ?_)
        · exact (t_fM_part_b227 hk30 hk115) h
        · refine rg_step 9 (G' := fun f => if inb (((s.1 549 152) * v2) + v1) 4096 = true then evT f 384 189 [oR 549 0, oI x1, oI x2, oI x3, oI x4, oI x5, oI x6, oI x7, oI x8, oI x9, oI v1, oI v2] [vI (s.1 650 (ix (((s.1 549 152) * v2) + v1)))] s else none) (fun _ => rfl) (rg_gd h fun h => ?_)
          refine rg_step 1 (G' := fun f => if (s.1 650 (ix (((s.1 549 152) * v2) + v1))) = 0 then evT f 384 192 [oR 549 0, oI x1, oI x2, oI x3, oI x4, oI x5, oI x6, oI x7, oI x8, oI x9, oI v1, oI v2] [] s else evT f 384 227 [oR 549 0, oI x1, oI x2, oI x3, oI x4, oI x5, oI x6, oI x7, oI x8, oI x9, oI v1, oI v2] [] s) (fun _ => rfl) (rg_if h (fun h => ?_) fun h => ?_)
          · refine rg_step 10 (G' := fun f => if inb (((s.1 549 152) * v2) + v1) 4096 = true then evT f 384 208 [oR 549 0, oI x1, oI x2, oI x3, oI x4, oI x5, oI x6, oI x7, oI x8, oI x9, oI v1, oI v2] [] (wI s 650 (ix (((s.1 549 152) * v2) + v1)) ((cI 1) &&& 1)) else none) (fun _ => rfl) (rg_gd h fun h => rg_ltM h fun s5 h => ?_)
            refine rg_step 10 (G' := fun f => if inb x3 4096 = true then evT f 384 224 [oR 549 0, oI x1, oI x2, oI x3, oI x4, oI x5, oI x6, oI x7, oI x8, oI x9, oI v1, oI v2] [] (wI s5 651 (ix x3) (((s5.1 549 152) * v2) + v1)) else none) (fun _ => rfl) (rg_gd h fun h => rg_ltM h fun s6 h => ?_)
            exact rg_step 1 (G' := fun f => evT f 384 227 [oR 549 0, oI x1, oI x2, oI (x3 + cI 1), oI x4, oI x5, oI x6, oI x7, oI x8, oI x9, oI v1, oI v2] [] s6) (fun _ => rfl) ((t_fM_part_b227 hk30 hk115) h)
          · exact (t_fM_part_b227 hk30 hk115) h
    · exact rg_step 1 (G' := fun f => evT f 384 30 [oR 549 0, oI x1, oI x2, oI x3, oI x4, oI x5, oI x6, oI x7, oI x8, oI x9, nn, nn] [] s) (fun _ => rfl) (hk30 h)
theorem t_fM_part_h115 {k30 : ev_M → Int32 → Int32 → Int32 → Int32 → Int32 → Int32 → Option ev_M} (hk30 : ∀ {s : ev_M} {x1 : Int32} {x2 : Int32} {x3 : Int32} {x4 : Int32} {x5 : Int32} {x6 : Int32} {j7 : Option ev_V} {j8 : Option ev_V} {j9 : Option ev_V} {j10 : Option ev_V} {j11 : Option ev_V} {q : ev_M}, k30 s x1 x2 x3 x4 x5 x6 = some q → RR 384 30 [oR 549 0, oI x1, oI x2, oI x3, oI x4, oI x5, oI x6, j7, j8, j9, j10, j11] [] s (cvV q)) {n : Nat} {s : ev_M} {x1 : Int32} {x2 : Int32} {x3 : Int32} {x4 : Int32} {x5 : Int32} {x6 : Int32} {x7 : Int32} {x8 : Int32} {x9 : Int32} {j10 : Option ev_V} {j11 : Option ev_V} {q : ev_M} (h : fM_part_h115 k30 n s x1 x2 x3 x4 x5 x6 x7 x8 x9 = some q) : RR 384 115 [oR 549 0, oI x1, oI x2, oI x3, oI x4, oI x5, oI x6, oI x7, oI x8, oI x9, j10, j11] [] s (cvV q) := ti_fM_part_h115 hk30 n s x1 x2 x3 x4 x5 x6 x7 x8 x9 j10 j11 q h
theorem t_fM_part_b110 {k30 : ev_M → Int32 → Int32 → Int32 → Int32 → Int32 → Int32 → Option ev_M} (hk30 : ∀ {s : ev_M} {x1 : Int32} {x2 : Int32} {x3 : Int32} {x4 : Int32} {x5 : Int32} {x6 : Int32} {j7 : Option ev_V} {j8 : Option ev_V} {j9 : Option ev_V} {j10 : Option ev_V} {j11 : Option ev_V} {q : ev_M}, k30 s x1 x2 x3 x4 x5 x6 = some q → RR 384 30 [oR 549 0, oI x1, oI x2, oI x3, oI x4, oI x5, oI x6, j7, j8, j9, j10, j11] [] s (cvV q)) {s : ev_M} {x1 : Int32} {x2 : Int32} {x3 : Int32} {x4 : Int32} {x5 : Int32} {x7 : Int32} {x8 : Int32} {y0 : Int32} {j6 : Option ev_V} {j9 : Option ev_V} {j10 : Option ev_V} {j11 : Option ev_V} {q : ev_M} (h : fM_part_b110 k30 s x1 x2 x3 x4 x5 x7 x8 y0 = some q) : RR 384 110 [oR 549 0, oI x1, oI x2, oI x3, oI x4, oI x5, j6, oI x7, oI x8, j9, j10, j11] [vI y0] s (cvV q) := by
  exact rg_step 3 (G' := fun f => evT f 384 115 [oR 549 0, oI x1, oI x2, oI x3, oI x4, oI x5, oI y0, oI x7, oI x8, oI (cI 0), nn, nn] [] s) (fun _ => rfl) ((t_fM_part_h115 hk30) h)
theorem t_fM_part_b94 {k30 : ev_M → Int32 → Int32 → Int32 → Int32 → Int32 → Int32 → Option ev_M} (hk30 : ∀ {s : ev_M} {x1 : Int32} {x2 : Int32} {x3 : Int32} {x4 : Int32} {x5 : Int32} {x6 : Int32} {j7 : Option ev_V} {j8 : Option ev_V} {j9 : Option ev_V} {j10 : Option ev_V} {j11 : Option ev_V} {q : ev_M}, k30 s x1 x2 x3 x4 x5 x6 = some q → RR 384 30 [oR 549 0, oI x1, oI x2, oI x3, oI x4, oI x5, oI x6, j7, j8, j9, j10, j11] [] s (cvV q)) {s : ev_M} {x1 : Int32} {x2 : Int32} {x3 : Int32} {x4 : Int32} {x6 : Int32} {x7 : Int32} {x8 : Int32} {y0 : Int32} {j5 : Option ev_V} {j9 : Option ev_V} {j10 : Option ev_V} {j11 : Option ev_V} {q : ev_M} (h : fM_part_b94 k30 s x1 x2 x3 x4 x6 x7 x8 y0 = some q) : RR 384 94 [oR 549 0, oI x1, oI x2, oI x3, oI x4, j5, oI x6, oI x7, oI x8, j9, j10, j11] [vI y0] s (cvV q) := by
  refine rg_step 4 (G' := fun f => if x8 ≤ x6 then evT f 384 108 [oR 549 0, oI x1, oI x2, oI x3, oI x4, oI y0, oI x6, oI x7, oI x8, nn, nn, nn] [] s else evT f 384 103 [oR 549 0, oI x1, oI x2, oI x3, oI x4, oI y0, oI x6, oI x7, oI x8, nn, nn, nn] [] s) (fun _ => rfl) (rg_if h (fun h => ?_) fun h => ?_)
  · exact rg_step 1 (G' := fun f => evT f 384 110 [oR 549 0, oI x1, oI x2, oI x3, oI x4, oI y0, oI x6, oI x7, oI x8, nn, nn, nn] [vI x6] s) (fun _ => rfl) ((t_fM_part_b110 hk30) h)
  · exact rg_step 2 (G' := fun f => evT f 384 110 [oR 549 0, oI x1, oI x2, oI x3, oI x4, oI y0, oI x6, oI x7, oI x8, nn, nn, nn] [vI x8] s) (fun _ => rfl) ((t_fM_part_b110 hk30) h)
theorem t_fM_part_b78 {k30 : ev_M → Int32 → Int32 → Int32 → Int32 → Int32 → Int32 → Option ev_M} (hk30 : ∀ {s : ev_M} {x1 : Int32} {x2 : Int32} {x3 : Int32} {x4 : Int32} {x5 : Int32} {x6 : Int32} {j7 : Option ev_V} {j8 : Option ev_V} {j9 : Option ev_V} {j10 : Option ev_V} {j11 : Option ev_V} {q : ev_M}, k30 s x1 x2 x3 x4 x5 x6 = some q → RR 384 30 [oR 549 0, oI x1, oI x2, oI x3, oI x4, oI x5, oI x6, j7, j8, j9, j10, j11] [] s (cvV q)) {s : ev_M} {x1 : Int32} {x2 : Int32} {x3 : Int32} {x5 : Int32} {x6 : Int32} {x7 : Int32} {x8 : Int32} {y0 : Int32} {j4 : Option ev_V} {j9 : Option ev_V} {j10 : Option ev_V} {j11 : Option ev_V} {q : ev_M} (h : fM_part_b78 k30 s x1 x2 x3 x5 x6 x7 x8 y0 = some q) : RR 384 78 [oR 549 0, oI x1, oI x2, oI x3, j4, oI x5, oI x6, oI x7, oI x8, j9, j10, j11] [vI y0] s (cvV q) := by
  refine rg_step 4 (G' := fun f => if x7 ≤ x5 then evT f 384 92 [oR 549 0, oI x1, oI x2, oI x3, oI y0, oI x5, oI x6, oI x7, oI x8, nn, nn, nn] [] s else evT f 384 87 [oR 549 0, oI x1, oI x2, oI x3, oI y0, oI x5, oI x6, oI x7, oI x8, nn, nn, nn] [] s) (fun _ => rfl) (rg_if h (fun h => ?_) fun h => ?_)
  · exact rg_step 1 (G' := fun f => evT f 384 94 [oR 549 0, oI x1, oI x2, oI x3, oI y0, oI x5, oI x6, oI x7, oI x8, nn, nn, nn] [vI x5] s) (fun _ => rfl) ((t_fM_part_b94 hk30) h)
  · exact rg_step 2 (G' := fun f => evT f 384 94 [oR 549 0, oI x1, oI x2, oI x3, oI y0, oI x5, oI x6, oI x7, oI x8, nn, nn, nn] [vI x7] s) (fun _ => rfl) ((t_fM_part_b94 hk30) h)
theorem ti_fM_part_h30 : ∀ (n : Nat) (s : ev_M) (x1 : Int32) (x2 : Int32) (x3 : Int32) (x4 : Int32) (x5 : Int32) (x6 : Int32) (j7 : Option ev_V) (j8 : Option ev_V) (j9 : Option ev_V) (j10 : Option ev_V) (j11 : Option ev_V) (q : ev_M), fM_part_h30 n s x1 x2 x3 x4 x5 x6 = some q → RR 384 30 [oR 549 0, oI x1, oI x2, oI x3, oI x4, oI x5, oI x6, j7, j8, j9, j10, j11] [] s (cvV q) := by
  intro n
  induction n with
  | zero => intro s x1 x2 x3 x4 x5 x6 j7 j8 j9 j10 j11 q h; cases h
  | succ n ih =>
    have hk30 : ∀ {s : ev_M} {x1 : Int32} {x2 : Int32} {x3 : Int32} {x4 : Int32} {x5 : Int32} {x6 : Int32} {j7 : Option ev_V} {j8 : Option ev_V} {j9 : Option ev_V} {j10 : Option ev_V} {j11 : Option ev_V} {q : ev_M}, fM_part_h30 n s x1 x2 x3 x4 x5 x6 = some q → RR 384 30 [oR 549 0, oI x1, oI x2, oI x3, oI x4, oI x5, oI x6, j7, j8, j9, j10, j11] [] s (cvV q) := fun h => ih _ _ _ _ _ _ _ _ _ _ _ _ _ h
    intro s x1 x2 x3 x4 x5 x6 j7 j8 j9 j10 j11 q h
    refine rg_step 3 (G' := fun f => if x2 < x3 then evT f 384 35 [oR 549 0, oI x1, oI x2, oI x3, oI x4, oI x5, oI x6, nn, nn, nn, nn, nn] [] s else evT f 384 236 [oR 549 0, oI x1, oI x2, oI x3, oI x4, oI x5, oI x6, nn, nn, nn, nn, nn] [] s) (fun _ => rfl) (rg_if h (fun h => ?_) fun h => ?_)
    · refine rg_step 4 (G' := fun f => if inb x2 4096 = true then evT f 384 41 [oR 549 0, oI x1, oI x2, oI x3, oI x4, oI x5, oI x6, nn, nn, nn, nn, nn] [vI (s.1 651 (ix x2))] s else none) (fun _ => rfl) (rg_gd h fun h => ?_)
      refine rg_step 3 (G' := fun f => if (s.1 549 152) = 0 then none else evT f 384 46 [oR 549 0, oI x1, oI x2, oI x3, oI x4, oI x5, oI x6, nn, nn, nn, nn, nn] [vI (irem (s.1 651 (ix x2)) (s.1 549 152))] s) (fun _ => rfl) (rg_dv h fun h => ?_)
      refine rg_step 1 (G' := fun f => evT f 384 48 [oR 549 0, oI x1, oI x2, oI x3, oI x4, oI x5, oI x6, oI (irem (s.1 651 (ix x2)) (s.1 549 152)), nn, nn, nn, nn] [] s) (fun _ => rfl) (rg_ltI (P := fun v7 => RG (fun f => evT f 384 48 [oR 549 0, oI x1, oI x2, oI x3, oI x4, oI x5, oI x6, oI v7, nn, nn, nn, nn] [] s) (cvV q)) h fun v7 h => ?_)
      refine rg_step 4 (G' := fun f => if inb x2 4096 = true then evT f 384 54 [oR 549 0, oI x1, oI x2, oI x3, oI x4, oI x5, oI x6, oI v7, nn, nn, nn, nn] [vI (s.1 651 (ix x2))] s else none) (fun _ => rfl) (rg_gd h fun h => ?_)
      refine rg_step 3 (G' := fun f => if (s.1 549 152) = 0 then none else evT f 384 59 [oR 549 0, oI x1, oI x2, oI x3, oI x4, oI x5, oI x6, oI v7, nn, nn, nn, nn] [vI ((s.1 651 (ix x2)) / (s.1 549 152))] s) (fun _ => rfl) (rg_dv h fun h => ?_)
      refine rg_step 1 (G' := fun f => evT f 384 61 [oR 549 0, oI x1, oI x2, oI x3, oI x4, oI x5, oI x6, oI v7, oI ((s.1 651 (ix x2)) / (s.1 549 152)), nn, nn, nn] [] s) (fun _ => rfl) (rg_ltI (P := fun v8 => RG (fun f => evT f 384 61 [oR 549 0, oI x1, oI x2, oI x3, oI x4, oI x5, oI x6, oI v7, oI v8, nn, nn, nn] [] s) (cvV q)) h fun v8 h => ?_)
      refine rg_step 4 (G' := fun f => if v7 < x4 then evT f 384 71 [oR 549 0, oI x1, oI (x2 + cI 1), oI x3, oI x4, oI x5, oI x6, oI v7, oI v8, nn, nn, nn] [] s else evT f 384 76 [oR 549 0, oI x1, oI (x2 + cI 1), oI x3, oI x4, oI x5, oI x6, oI v7, oI v8, nn, nn, nn] [] s) (fun _ => rfl) (rg_if h (fun h => ?_) fun h => ?_)
      · exact rg_step 2 (G' := fun f => evT f 384 78 [oR 549 0, oI x1, oI (x2 + cI 1), oI x3, oI x4, oI x5, oI x6, oI v7, oI v8, nn, nn, nn] [vI v7] s) (fun _ => rfl) ((t_fM_part_b78 hk30) h)
      · exact rg_step 1 (G' := fun f => evT f 384 78 [oR 549 0, oI x1, oI (x2 + cI 1), oI x3, oI x4, oI x5, oI x6, oI v7, oI v8, nn, nn, nn] [vI x4] s) (fun _ => rfl) ((t_fM_part_b78 hk30) h)
    · refine rg_step 3 (G' := fun f => if x3 < (cI 4) then evT f 384 323 [oR 549 0, oI x1, oI x2, oI x3, oI x4, oI x5, oI x6, nn, nn, nn, nn, nn] [] s else evT f 384 241 [oR 549 0, oI x1, oI x2, oI x3, oI x4, oI x5, oI x6, nn, nn, nn, nn, nn] [] s) (fun _ => rfl) (rg_if h (fun h => ?_) fun h => ?_)
      · exact rg_end 1 (fun _ => rfl) (by cases h; rfl)
      · refine rg_step 4 (G' := fun f => if (s.1 549 146) < (cI 200) then evT f 384 251 [oR 549 0, oI x1, oI x2, oI x3, oI x4, oI x5, oI x6, nn, nn, nn, nn, nn] [] s else evT f 384 323 [oR 549 0, oI x1, oI x2, oI x3, oI x4, oI x5, oI x6, nn, nn, nn, nn, nn] [] s) (fun _ => rfl) (rg_if h (fun h => ?_) fun h => ?_)
        · refine rg_step 6 (G' := fun f => if inb (s.1 549 146) 200 = true then evT f 384 262 [oR 549 0, oI x1, oI x2, oI x3, oI x4, oI x5, oI x6, nn, nn, nn, nn, nn] [] (wI s 652 (ix (s.1 549 146)) x4) else none) (fun _ => rfl) (rg_gd h fun h => rg_ltM h fun s9 h => ?_)
          refine rg_step 8 (G' := fun f => if (s9.1 549 152) = 0 then none else evT f 384 276 [oR 549 0, oI x1, oI x2, oI x3, oI x4, oI x5, oI x6, nn, nn, nn, nn, nn] [vI (x1 / (s9.1 549 152)), vI (s9.1 549 146), vR 653 0] s9) (fun _ => rfl) (rg_dv h fun h => ?_)
          refine rg_step 1 (G' := fun f => if inb (s9.1 549 146) 200 = true then evT f 384 277 [oR 549 0, oI x1, oI x2, oI x3, oI x4, oI x5, oI x6, nn, nn, nn, nn, nn] [] (wI s9 653 (ix (s9.1 549 146)) (x1 / (s9.1 549 152))) else none) (fun _ => rfl) (rg_gd h fun h => rg_ltM h fun s10 h => ?_)
          refine rg_step 10 (G' := fun f => if inb (s10.1 549 146) 200 = true then evT f 384 293 [oR 549 0, oI x1, oI x2, oI x3, oI x4, oI x5, oI x6, nn, nn, nn, nn, nn] [] (wI s10 654 (ix (s10.1 549 146)) ((x5 - x4) + (cI 1))) else none) (fun _ => rfl) (rg_gd h fun h => rg_ltM h fun s11 h => ?_)
          refine rg_step 9 (G' := fun f => if (s11.1 549 152) = 0 then none else evT f 384 309 [oR 549 0, oI x1, oI x2, oI x3, oI x4, oI x5, oI x6, nn, nn, nn, nn, nn] [vI (x1 / (s11.1 549 152)), vI x6, vI (s11.1 549 146), vR 655 0] s11) (fun _ => rfl) (rg_dv h fun h => ?_)
          refine rg_step 4 (G' := fun f => if inb (s11.1 549 146) 200 = true then evT f 384 313 [oR 549 0, oI x1, oI x2, oI x3, oI x4, oI x5, oI x6, nn, nn, nn, nn, nn] [] (wI s11 655 (ix (s11.1 549 146)) ((x6 - (x1 / (s11.1 549 152))) + (cI 1))) else none) (fun _ => rfl) (rg_gd h fun h => rg_ltM h fun s12 h => ?_)
          refine rg_step 6 (G' := fun f => evT f 384 323 [oR 549 0, oI x1, oI x2, oI x3, oI x4, oI x5, oI x6, nn, nn, nn, nn, nn] [] (wI s12 549 146 ((s12.1 549 146) + (cI 1)))) (fun _ => rfl) (rg_ltM h fun s13 h => ?_)
          exact rg_end 1 (fun _ => rfl) (by cases h; rfl)
        · exact rg_end 1 (fun _ => rfl) (by cases h; rfl)
theorem t_fM_part_h30 {n : Nat} {s : ev_M} {x1 : Int32} {x2 : Int32} {x3 : Int32} {x4 : Int32} {x5 : Int32} {x6 : Int32} {j7 : Option ev_V} {j8 : Option ev_V} {j9 : Option ev_V} {j10 : Option ev_V} {j11 : Option ev_V} {q : ev_M} (h : fM_part_h30 n s x1 x2 x3 x4 x5 x6 = some q) : RR 384 30 [oR 549 0, oI x1, oI x2, oI x3, oI x4, oI x5, oI x6, j7, j8, j9, j10, j11] [] s (cvV q) := ti_fM_part_h30 n s x1 x2 x3 x4 x5 x6 j7 j8 j9 j10 j11 q h
theorem T_fM_part {s : ev_M} {a1 : Int32} {q : ev_M} (h : fM_part s a1 = some q) : RR 384 0 [oR 549 0, oI a1, nn, nn, nn, nn, nn, nn, nn, nn, nn, nn] [] s (cvV q) := by
  refine rg_step 9 (G' := fun f => evT f 384 11 [oR 549 0, oI a1, oI (cI 0), oI (cI 1), nn, nn, nn, nn, nn, nn, nn, nn] [] (wI s 651 (ix (cI 0)) a1)) (fun _ => rfl) (rg_ltM h fun s14 h => ?_)
  refine rg_step 5 (G' := fun f => if inb a1 4096 = true then evT f 384 18 [oR 549 0, oI a1, oI (cI 0), oI (cI 1), nn, nn, nn, nn, nn, nn, nn, nn] [] (wI s14 650 (ix a1) ((cI 1) &&& 1)) else none) (fun _ => rfl) (rg_gd h fun h => rg_ltM h fun s15 h => ?_)
  refine rg_step 3 (G' := fun f => evT f 384 24 [oR 549 0, oI a1, oI (cI 0), oI (cI 1), oI (s15.1 549 152), nn, nn, nn, nn, nn, nn, nn] [] s15) (fun _ => rfl) (rg_ltI (P := fun v16 => RG (fun f => evT f 384 24 [oR 549 0, oI a1, oI (cI 0), oI (cI 1), oI v16, nn, nn, nn, nn, nn, nn, nn] [] s15) (cvV q)) h fun v16 h => ?_)
  exact rg_step 4 (G' := fun f => evT f 384 30 [oR 549 0, oI a1, oI (cI 0), oI (cI 1), oI v16, oI (cI 0), oI (cI 0), nn, nn, nn, nn, nn] [] s15) (fun _ => rfl) ((t_fM_part_h30) h)
theorem t_fM_areNear_b114 {s : ev_M} {x3 : Int32} {x4 : Int32} {y0 : Int32} {j0 : Option ev_V} {j1 : Option ev_V} {j2 : Option ev_V} {j5 : Option ev_V} {q : Int32} (h : fM_areNear_b114 s x3 x4 y0 = some q) : RR 385 114 [j0, j1, j2, oI x3, oI x4, j5] [vI y0] s (cvP s q) := by
  refine rg_step 8 (G' := fun f => if ((cI 2) * (x4 - x3)) < y0 then evT f 385 131 [nn, nn, nn, oI x3, oI x4, oI y0] [] s else evT f 385 127 [nn, nn, nn, oI x3, oI x4, oI y0] [] s) (fun _ => rfl) (rg_if h (fun h => ?_) fun h => ?_)
  · exact rg_end 2 (fun _ => rfl) (by cases h; rfl)
  · exact rg_end 3 (fun _ => rfl) (by cases h; rfl)
theorem t_fM_areNear_b82 {s : ev_M} {x1 : Int32} {x2 : Int32} {x3 : Int32} {y0 : Int32} {j4 : Option ev_V} {j5 : Option ev_V} {q : Int32} (h : fM_areNear_b82 s x1 x2 x3 y0 = some q) : RR 385 82 [oR 549 0, oI x1, oI x2, oI x3, j4, j5] [vI y0] s (cvP s q) := by
  refine rg_step 5 (G' := fun f => if inb x1 200 = true then evT f 385 90 [oR 549 0, oI x1, oI x2, oI x3, oI y0, nn] [vI (s.1 655 (ix x1))] s else none) (fun _ => rfl) (rg_gd h fun h => ?_)
  refine rg_step 4 (G' := fun f => if inb x2 200 = true then evT f 385 96 [oR 549 0, oI x1, oI x2, oI x3, oI y0, nn] [vI (s.1 655 (ix x2)), vI (s.1 655 (ix x1))] s else none) (fun _ => rfl) (rg_gd h fun h => ?_)
  refine rg_step 1 (G' := fun f => if (s.1 655 (ix x1)) < (s.1 655 (ix x2)) then evT f 385 99 [oR 549 0, oI x1, oI x2, oI x3, oI y0, nn] [] s else evT f 385 108 [oR 549 0, oI x1, oI x2, oI x3, oI y0, nn] [] s) (fun _ => rfl) (rg_if h (fun h => ?_) fun h => ?_)
  · refine rg_step 4 (G' := fun f => if inb x1 200 = true then evT f 385 105 [oR 549 0, oI x1, oI x2, oI x3, oI y0, nn] [vI (s.1 655 (ix x1))] s else none) (fun _ => rfl) (rg_gd h fun h => ?_)
    exact rg_step 1 (G' := fun f => evT f 385 114 [oR 549 0, oI x1, oI x2, oI x3, oI y0, nn] [vI (s.1 655 (ix x1))] s) (fun _ => rfl) ((t_fM_areNear_b114) h)
  · refine rg_step 4 (G' := fun f => if inb x2 200 = true then evT f 385 114 [oR 549 0, oI x1, oI x2, oI x3, oI y0, nn] [vI (s.1 655 (ix x2))] s else none) (fun _ => rfl) (rg_gd h fun h => ?_)
    exact (t_fM_areNear_b114) h
theorem t_fM_areNear_b30 {s : ev_M} {x1 : Int32} {x2 : Int32} {y0 : Int32} {j3 : Option ev_V} {j4 : Option ev_V} {j5 : Option ev_V} {q : Int32} (h : fM_areNear_b30 s x1 x2 y0 = some q) : RR 385 30 [oR 549 0, oI x1, oI x2, j3, j4, j5] [vI y0] s (cvP s q) := by
  refine rg_step 5 (G' := fun f => if inb x1 200 = true then evT f 385 37 [oR 549 0, oI x1, oI x2, oI y0, nn, nn] [vI (s.1 653 (ix x1))] s else none) (fun _ => rfl) (rg_gd h fun h => ?_)
  refine rg_step 4 (G' := fun f => if inb x1 200 = true then evT f 385 43 [oR 549 0, oI x1, oI x2, oI y0, nn, nn] [vI (s.1 655 (ix x1)), vI (s.1 653 (ix x1))] s else none) (fun _ => rfl) (rg_gd h fun h => ?_)
  refine rg_step 2 (G' := fun f => evT f 385 46 [oR 549 0, oI x1, oI x2, oI y0, oI ((s.1 653 (ix x1)) + (s.1 655 (ix x1))), nn] [] s) (fun _ => rfl) (rg_ltI (P := fun v1 => RG (fun f => evT f 385 46 [oR 549 0, oI x1, oI x2, oI y0, oI v1, nn] [] s) (cvP s q)) h fun v1 h => ?_)
  refine rg_step 4 (G' := fun f => if inb x2 200 = true then evT f 385 52 [oR 549 0, oI x1, oI x2, oI y0, oI v1, nn] [vI (s.1 653 (ix x2))] s else none) (fun _ => rfl) (rg_gd h fun h => ?_)
  refine rg_step 4 (G' := fun f => if inb x2 200 = true then evT f 385 58 [oR 549 0, oI x1, oI x2, oI y0, oI v1, nn] [vI (s.1 655 (ix x2)), vI (s.1 653 (ix x2))] s else none) (fun _ => rfl) (rg_gd h fun h => ?_)
  refine rg_step 3 (G' := fun f => if ((s.1 653 (ix x2)) + (s.1 655 (ix x2))) < v1 then evT f 385 64 [oR 549 0, oI x1, oI x2, oI y0, oI v1, nn] [] s else evT f 385 80 [oR 549 0, oI x1, oI x2, oI y0, oI v1, nn] [] s) (fun _ => rfl) (rg_if h (fun h => ?_) fun h => ?_)
  · refine rg_step 4 (G' := fun f => if inb x2 200 = true then evT f 385 70 [oR 549 0, oI x1, oI x2, oI y0, oI v1, nn] [vI (s.1 653 (ix x2))] s else none) (fun _ => rfl) (rg_gd h fun h => ?_)
    refine rg_step 4 (G' := fun f => if inb x2 200 = true then evT f 385 76 [oR 549 0, oI x1, oI x2, oI y0, oI v1, nn] [vI (s.1 655 (ix x2)), vI (s.1 653 (ix x2))] s else none) (fun _ => rfl) (rg_gd h fun h => ?_)
    exact rg_step 2 (G' := fun f => evT f 385 82 [oR 549 0, oI x1, oI x2, oI y0, oI v1, nn] [vI ((s.1 653 (ix x2)) + (s.1 655 (ix x2)))] s) (fun _ => rfl) ((t_fM_areNear_b82) h)
  · exact rg_step 1 (G' := fun f => evT f 385 82 [oR 549 0, oI x1, oI x2, oI y0, oI v1, nn] [vI v1] s) (fun _ => rfl) ((t_fM_areNear_b82) h)
theorem T_fM_areNear {s : ev_M} {a1 : Int32} {a2 : Int32} {q : Int32} (h : fM_areNear s a1 a2 = some q) : RR 385 0 [oR 549 0, oI a1, oI a2, nn, nn, nn] [] s (cvP s q) := by
  refine rg_step 4 (G' := fun f => if inb a1 200 = true then evT f 385 6 [oR 549 0, oI a1, oI a2, nn, nn, nn] [vI (s.1 653 (ix a1))] s else none) (fun _ => rfl) (rg_gd h fun h => ?_)
  refine rg_step 4 (G' := fun f => if inb a2 200 = true then evT f 385 12 [oR 549 0, oI a1, oI a2, nn, nn, nn] [vI (s.1 653 (ix a2)), vI (s.1 653 (ix a1))] s else none) (fun _ => rfl) (rg_gd h fun h => ?_)
  refine rg_step 1 (G' := fun f => if (s.1 653 (ix a1)) ≤ (s.1 653 (ix a2)) then evT f 385 24 [oR 549 0, oI a1, oI a2, nn, nn, nn] [] s else evT f 385 15 [oR 549 0, oI a1, oI a2, nn, nn, nn] [] s) (fun _ => rfl) (rg_if h (fun h => ?_) fun h => ?_)
  · refine rg_step 4 (G' := fun f => if inb a2 200 = true then evT f 385 30 [oR 549 0, oI a1, oI a2, nn, nn, nn] [vI (s.1 653 (ix a2))] s else none) (fun _ => rfl) (rg_gd h fun h => ?_)
    exact (t_fM_areNear_b30) h
  · refine rg_step 4 (G' := fun f => if inb a1 200 = true then evT f 385 21 [oR 549 0, oI a1, oI a2, nn, nn, nn] [vI (s.1 653 (ix a1))] s else none) (fun _ => rfl) (rg_gd h fun h => ?_)
    exact rg_step 1 (G' := fun f => evT f 385 30 [oR 549 0, oI a1, oI a2, nn, nn, nn] [vI (s.1 653 (ix a1))] s) (fun _ => rfl) ((t_fM_areNear_b30) h)
theorem t_fM_hangTogether_b89 {k25 : ev_M → Int32 → Option ev_M} {k33 : ev_M → Int32 → Int32 → Option ev_M} {k43 : ev_M → Int32 → Int32 → Int32 → Option ev_M} (hk25 : ∀ {s : ev_M} {x1 : Int32} {j2 : Option ev_V} {j3 : Option ev_V} {q : ev_M}, k25 s x1 = some q → RR 386 25 [oR 549 0, oI x1, j2, j3] [] s (cvV q)) (hk33 : ∀ {s : ev_M} {x1 : Int32} {x2 : Int32} {j3 : Option ev_V} {q : ev_M}, k33 s x1 x2 = some q → RR 386 33 [oR 549 0, oI x1, oI x2, j3] [] s (cvV q)) (hk43 : ∀ {s : ev_M} {x1 : Int32} {x2 : Int32} {x3 : Int32} {q : ev_M}, k43 s x1 x2 x3 = some q → RR 386 43 [oR 549 0, oI x1, oI x2, oI x3] [] s (cvV q)) {s : ev_M} {x1 : Int32} {x2 : Int32} {x3 : Int32} {q : ev_M} (h : fM_hangTogether_b89 k25 k33 k43 s x1 x2 x3 = some q) : RR 386 89 [oR 549 0, oI x1, oI x2, oI x3] [] s (cvV q) := by
  exact rg_step 2 (G' := fun f => evT f 386 43 [oR 549 0, oI x1, oI x2, oI (x3 + cI 1)] [] s) (fun _ => rfl) (hk43 h)
theorem ti_fM_hangTogether_h43 {k25 : ev_M → Int32 → Option ev_M} {k33 : ev_M → Int32 → Int32 → Option ev_M} (hk25 : ∀ {s : ev_M} {x1 : Int32} {j2 : Option ev_V} {j3 : Option ev_V} {q : ev_M}, k25 s x1 = some q → RR 386 25 [oR 549 0, oI x1, j2, j3] [] s (cvV q)) (hk33 : ∀ {s : ev_M} {x1 : Int32} {x2 : Int32} {j3 : Option ev_V} {q : ev_M}, k33 s x1 x2 = some q → RR 386 33 [oR 549 0, oI x1, oI x2, j3] [] s (cvV q)) : ∀ (n : Nat) (s : ev_M) (x1 : Int32) (x2 : Int32) (x3 : Int32) (q : ev_M), fM_hangTogether_h43 k25 k33 n s x1 x2 x3 = some q → RR 386 43 [oR 549 0, oI x1, oI x2, oI x3] [] s (cvV q) := by
  intro n
  induction n with
  | zero => intro s x1 x2 x3 q h; cases h
  | succ n ih =>
    have hk43 : ∀ {s : ev_M} {x1 : Int32} {x2 : Int32} {x3 : Int32} {q : ev_M}, fM_hangTogether_h43 k25 k33 n s x1 x2 x3 = some q → RR 386 43 [oR 549 0, oI x1, oI x2, oI x3] [] s (cvV q) := fun h => ih _ _ _ _ _ h
    intro s x1 x2 x3 q h
    refine rg_step 4 (G' := fun f => if x3 < (s.1 549 146) then evT f 386 51 [oR 549 0, oI x1, oI x2, oI x3] [] s else evT f 386 95 [oR 549 0, oI x1, oI x2, oI x3] [] s) (fun _ => rfl) (rg_if h (fun h => ?_) fun h => ?_)
    · refine rg_step 4 (G' := fun f => if inb x3 200 = true then evT f 386 57 [oR 549 0, oI x1, oI x2, oI x3] [vI (s.1 656 (ix x3))] s else none) (fun _ => rfl) (rg_gd h fun h => ?_)
      refine rg_step 4 (G' := fun f => if inb x2 200 = true then evT f 386 63 [oR 549 0, oI x1, oI x2, oI x3] [vI (s.1 656 (ix x2)), vI (s.1 656 (ix x3))] s else none) (fun _ => rfl) (rg_gd h fun h => ?_)
      refine rg_step 1 (G' := fun f => if (s.1 656 (ix x3)) < (s.1 656 (ix x2)) then evT f 386 66 [oR 549 0, oI x1, oI x2, oI x3] [] s else evT f 386 89 [oR 549 0, oI x1, oI x2, oI x3] [] s) (fun _ => rfl) (rg_if h (fun h => ?_) fun h => ?_)
      · refine rg_step 4 (G' := fun f => ev_after (evT f 385 0 [oR 549 0, oI x2, oI x3, nn, nn, nn] [] s) (fun q => evT f 386 72 [oR 549 0, oI x1, oI x2, oI x3] (q.2 ++ []) q.1)) (fun _ => rfl) (rg_bd1 h fun v1 hc h => rg_call (q := cvP s v1) (T_fM_areNear hc) ?_)
        refine rg_step 1 (G' := fun f => if v1 = 0 then evT f 386 89 [oR 549 0, oI x1, oI x2, oI x3] [] s else evT f 386 75 [oR 549 0, oI x1, oI x2, oI x3] [] s) (fun _ => rfl) (rg_if h (fun h => ?_) fun h => ?_)
        · exact (t_fM_hangTogether_b89 hk25 hk33 hk43) h
        · refine rg_step 7 (G' := fun f => if inb x3 200 = true then evT f 386 86 [oR 549 0, oI x1, oI x2, oI x3] [vI (s.1 656 (ix x3)), vI x2, vR 656 0] s else none) (fun _ => rfl) (rg_gd h fun h => ?_)
          refine rg_step 1 (G' := fun f => if inb x2 200 = true then evT f 386 87 [oR 549 0, oI x1, oI x2, oI x3] [] (wI s 656 (ix x2) (s.1 656 (ix x3))) else none) (fun _ => rfl) (rg_gd h fun h => rg_ltM h fun s2 h => ?_)
          exact rg_step 2 (G' := fun f => evT f 386 89 [oR 549 0, oI (cI 1), oI x2, oI x3] [] s2) (fun _ => rfl) ((t_fM_hangTogether_b89 hk25 hk33 hk43) h)
      · exact (t_fM_hangTogether_b89 hk25 hk33 hk43) h
    · exact rg_step 2 (G' := fun f => evT f 386 33 [oR 549 0, oI x1, oI (x2 + cI 1), oI x3] [] s) (fun _ => rfl) (hk33 h)
theorem t_fM_hangTogether_h43 {k25 : ev_M → Int32 → Option ev_M} {k33 : ev_M → Int32 → Int32 → Option ev_M} (hk25 : ∀ {s : ev_M} {x1 : Int32} {j2 : Option ev_V} {j3 : Option ev_V} {q : ev_M}, k25 s x1 = some q → RR 386 25 [oR 549 0, oI x1, j2, j3] [] s (cvV q)) (hk33 : ∀ {s : ev_M} {x1 : Int32} {x2 : Int32} {j3 : Option ev_V} {q : ev_M}, k33 s x1 x2 = some q → RR 386 33 [oR 549 0, oI x1, oI x2, j3] [] s (cvV q)) {n : Nat} {s : ev_M} {x1 : Int32} {x2 : Int32} {x3 : Int32} {q : ev_M} (h : fM_hangTogether_h43 k25 k33 n s x1 x2 x3 = some q) : RR 386 43 [oR 549 0, oI x1, oI x2, oI x3] [] s (cvV q) := ti_fM_hangTogether_h43 hk25 hk33 n s x1 x2 x3 q h
theorem ti_fM_hangTogether_h33 {k25 : ev_M → Int32 → Option ev_M} (hk25 : ∀ {s : ev_M} {x1 : Int32} {j2 : Option ev_V} {j3 : Option ev_V} {q : ev_M}, k25 s x1 = some q → RR 386 25 [oR 549 0, oI x1, j2, j3] [] s (cvV q)) : ∀ (n : Nat) (s : ev_M) (x1 : Int32) (x2 : Int32) (j3 : Option ev_V) (q : ev_M), fM_hangTogether_h33 k25 n s x1 x2 = some q → RR 386 33 [oR 549 0, oI x1, oI x2, j3] [] s (cvV q) := by
  intro n
  induction n with
  | zero => intro s x1 x2 j3 q h; cases h
  | succ n ih =>
    have hk33 : ∀ {s : ev_M} {x1 : Int32} {x2 : Int32} {j3 : Option ev_V} {q : ev_M}, fM_hangTogether_h33 k25 n s x1 x2 = some q → RR 386 33 [oR 549 0, oI x1, oI x2, j3] [] s (cvV q) := fun h => ih _ _ _ _ _ h
    intro s x1 x2 j3 q h
    refine rg_step 4 (G' := fun f => if x2 < (s.1 549 146) then evT f 386 41 [oR 549 0, oI x1, oI x2, nn] [] s else evT f 386 101 [oR 549 0, oI x1, oI x2, nn] [] s) (fun _ => rfl) (rg_if h (fun h => ?_) fun h => ?_)
    · exact rg_step 2 (G' := fun f => evT f 386 43 [oR 549 0, oI x1, oI x2, oI (cI 0)] [] s) (fun _ => rfl) ((t_fM_hangTogether_h43 hk25 hk33) h)
    · exact rg_step 1 (G' := fun f => evT f 386 25 [oR 549 0, oI x1, oI x2, nn] [] s) (fun _ => rfl) (hk25 h)
theorem t_fM_hangTogether_h33 {k25 : ev_M → Int32 → Option ev_M} (hk25 : ∀ {s : ev_M} {x1 : Int32} {j2 : Option ev_V} {j3 : Option ev_V} {q : ev_M}, k25 s x1 = some q → RR 386 25 [oR 549 0, oI x1, j2, j3] [] s (cvV q)) {n : Nat} {s : ev_M} {x1 : Int32} {x2 : Int32} {j3 : Option ev_V} {q : ev_M} (h : fM_hangTogether_h33 k25 n s x1 x2 = some q) : RR 386 33 [oR 549 0, oI x1, oI x2, j3] [] s (cvV q) := ti_fM_hangTogether_h33 hk25 n s x1 x2 j3 q h
theorem ti_fM_hangTogether_h25 : ∀ (n : Nat) (s : ev_M) (x1 : Int32) (j2 : Option ev_V) (j3 : Option ev_V) (q : ev_M), fM_hangTogether_h25 n s x1 = some q → RR 386 25 [oR 549 0, oI x1, j2, j3] [] s (cvV q) := by
  intro n
  induction n with
  | zero => intro s x1 j2 j3 q h; cases h
  | succ n ih =>
    have hk25 : ∀ {s : ev_M} {x1 : Int32} {j2 : Option ev_V} {j3 : Option ev_V} {q : ev_M}, fM_hangTogether_h25 n s x1 = some q → RR 386 25 [oR 549 0, oI x1, j2, j3] [] s (cvV q) := fun h => ih _ _ _ _ _ h
    intro s x1 j2 j3 q h
    refine rg_step 2 (G' := fun f => if x1 = 0 then evT f 386 104 [oR 549 0, oI x1, nn, nn] [] s else evT f 386 29 [oR 549 0, oI x1, nn, nn] [] s) (fun _ => rfl) (rg_if h (fun h => ?_) fun h => ?_)
    · exact rg_end 1 (fun _ => rfl) (by cases h; rfl)
    · exact rg_step 4 (G' := fun f => evT f 386 33 [oR 549 0, oI (cI 0), oI (cI 0), nn] [] s) (fun _ => rfl) ((t_fM_hangTogether_h33 hk25) h)
theorem t_fM_hangTogether_h25 {n : Nat} {s : ev_M} {x1 : Int32} {j2 : Option ev_V} {j3 : Option ev_V} {q : ev_M} (h : fM_hangTogether_h25 n s x1 = some q) : RR 386 25 [oR 549 0, oI x1, j2, j3] [] s (cvV q) := ti_fM_hangTogether_h25 n s x1 j2 j3 q h
theorem ti_fM_hangTogether_h2 : ∀ (n : Nat) (s : ev_M) (x1 : Int32) (j2 : Option ev_V) (j3 : Option ev_V) (q : ev_M), fM_hangTogether_h2 n s x1 = some q → RR 386 2 [oR 549 0, oI x1, j2, j3] [] s (cvV q) := by
  intro n
  induction n with
  | zero => intro s x1 j2 j3 q h; cases h
  | succ n ih =>
    have hk2 : ∀ {s : ev_M} {x1 : Int32} {j2 : Option ev_V} {j3 : Option ev_V} {q : ev_M}, fM_hangTogether_h2 n s x1 = some q → RR 386 2 [oR 549 0, oI x1, j2, j3] [] s (cvV q) := fun h => ih _ _ _ _ _ h
    intro s x1 j2 j3 q h
    refine rg_step 4 (G' := fun f => if x1 < (s.1 549 146) then evT f 386 10 [oR 549 0, oI x1, nn, nn] [] s else evT f 386 23 [oR 549 0, oI x1, nn, nn] [] s) (fun _ => rfl) (rg_if h (fun h => ?_) fun h => ?_)
    · refine rg_step 5 (G' := fun f => if inb x1 200 = true then evT f 386 17 [oR 549 0, oI x1, nn, nn] [] (wI s 656 (ix x1) x1) else none) (fun _ => rfl) (rg_gd h fun h => rg_ltM h fun s3 h => ?_)
      exact rg_step 2 (G' := fun f => evT f 386 2 [oR 549 0, oI (x1 + cI 1), nn, nn] [] s3) (fun _ => rfl) (hk2 h)
    · exact rg_step 2 (G' := fun f => evT f 386 25 [oR 549 0, oI (cI 1), nn, nn] [] s) (fun _ => rfl) ((t_fM_hangTogether_h25) h)
theorem t_fM_hangTogether_h2 {n : Nat} {s : ev_M} {x1 : Int32} {j2 : Option ev_V} {j3 : Option ev_V} {q : ev_M} (h : fM_hangTogether_h2 n s x1 = some q) : RR 386 2 [oR 549 0, oI x1, j2, j3] [] s (cvV q) := ti_fM_hangTogether_h2 n s x1 j2 j3 q h
theorem T_fM_hangTogether {s : ev_M} {q : ev_M} (h : fM_hangTogether s = some q) : RR 386 0 [oR 549 0, nn, nn, nn] [] s (cvV q) := by
  exact rg_step 2 (G' := fun f => evT f 386 2 [oR 549 0, oI (cI 0), nn, nn] [] s) (fun _ => rfl) ((t_fM_hangTogether_h2) h)
theorem t_fM_topOf_b45 {s : ev_M} {k7 : Int32 → Int32 → Int32 → Option Int32} (hk7 : ∀ {x1 : Int32} {x2 : Int32} {x3 : Int32} {q : Int32}, k7 x1 x2 x3 = some q → RR 387 7 [oR 549 0, oI x1, oI x2, oI x3] [] s (cvP s q)) {x1 : Int32} {x3 : Int32} {y0 : Int32} {j2 : Option ev_V} {q : Int32} (h : fM_topOf_b45 s k7 x1 x3 y0 = some q) : RR 387 45 [oR 549 0, oI x1, j2, oI x3] [vI y0] s (cvP s q) := by
  exact rg_step 3 (G' := fun f => evT f 387 7 [oR 549 0, oI x1, oI y0, oI (x3 + cI 1)] [] s) (fun _ => rfl) (hk7 h)
theorem t_fM_topOf_b44 {s : ev_M} {k7 : Int32 → Int32 → Int32 → Option Int32} (hk7 : ∀ {x1 : Int32} {x2 : Int32} {x3 : Int32} {q : Int32}, k7 x1 x2 x3 = some q → RR 387 7 [oR 549 0, oI x1, oI x2, oI x3] [] s (cvP s q)) {x1 : Int32} {x2 : Int32} {x3 : Int32} {q : Int32} (h : fM_topOf_b44 s k7 x1 x2 x3 = some q) : RR 387 44 [oR 549 0, oI x1, oI x2, oI x3] [] s (cvP s q) := by
  exact rg_step 1 (G' := fun f => evT f 387 45 [oR 549 0, oI x1, oI x2, oI x3] [vI x2] s) (fun _ => rfl) ((t_fM_topOf_b45 hk7) h)
theorem ti_fM_topOf_h7 {s : ev_M} : ∀ (n : Nat) (x1 : Int32) (x2 : Int32) (x3 : Int32) (q : Int32), fM_topOf_h7 s n x1 x2 x3 = some q → RR 387 7 [oR 549 0, oI x1, oI x2, oI x3] [] s (cvP s q) := by
  intro n
  induction n with
  | zero => intro x1 x2 x3 q h; cases h
  | succ n ih =>
    have hk7 : ∀ {x1 : Int32} {x2 : Int32} {x3 : Int32} {q : Int32}, fM_topOf_h7 s n x1 x2 x3 = some q → RR 387 7 [oR 549 0, oI x1, oI x2, oI x3] [] s (cvP s q) := fun h => ih _ _ _ _ h
    intro x1 x2 x3 q h
    refine rg_step 4 (G' := fun f => if x3 < (s.1 549 146) then evT f 387 15 [oR 549 0, oI x1, oI x2, oI x3] [] s else evT f 387 52 [oR 549 0, oI x1, oI x2, oI x3] [] s) (fun _ => rfl) (rg_if h (fun h => ?_) fun h => ?_)
    · refine rg_step 4 (G' := fun f => if inb x3 200 = true then evT f 387 21 [oR 549 0, oI x1, oI x2, oI x3] [vI (s.1 656 (ix x3))] s else none) (fun _ => rfl) (rg_gd h fun h => ?_)
      refine rg_step 2 (G' := fun f => if (s.1 656 (ix x3)) = x1 then evT f 387 25 [oR 549 0, oI x1, oI x2, oI x3] [] s else evT f 387 44 [oR 549 0, oI x1, oI x2, oI x3] [] s) (fun _ => rfl) (rg_if h (fun h => ?_) fun h => ?_)
      · refine rg_step 4 (G' := fun f => if inb x3 200 = true then evT f 387 31 [oR 549 0, oI x1, oI x2, oI x3] [vI (s.1 653 (ix x3))] s else none) (fun _ => rfl) (rg_gd h fun h => ?_)
        refine rg_step 2 (G' := fun f => if (s.1 653 (ix x3)) < x2 then evT f 387 35 [oR 549 0, oI x1, oI x2, oI x3] [] s else evT f 387 44 [oR 549 0, oI x1, oI x2, oI x3] [] s) (fun _ => rfl) (rg_if h (fun h => ?_) fun h => ?_)
        · refine rg_step 4 (G' := fun f => if inb x3 200 = true then evT f 387 41 [oR 549 0, oI x1, oI x2, oI x3] [vI (s.1 653 (ix x3))] s else none) (fun _ => rfl) (rg_gd h fun h => ?_)
          exact rg_step 1 (G' := fun f => evT f 387 45 [oR 549 0, oI x1, oI x2, oI x3] [vI (s.1 653 (ix x3))] s) (fun _ => rfl) ((t_fM_topOf_b45 hk7) h)
        · exact (t_fM_topOf_b44 hk7) h
      · exact (t_fM_topOf_b44 hk7) h
    · exact rg_end 2 (fun _ => rfl) (by cases h; rfl)
theorem t_fM_topOf_h7 {s : ev_M} {n : Nat} {x1 : Int32} {x2 : Int32} {x3 : Int32} {q : Int32} (h : fM_topOf_h7 s n x1 x2 x3 = some q) : RR 387 7 [oR 549 0, oI x1, oI x2, oI x3] [] s (cvP s q) := ti_fM_topOf_h7 n x1 x2 x3 q h
theorem T_fM_topOf {s : ev_M} {a1 : Int32} {q : Int32} (h : fM_topOf s a1 = some q) : RR 387 0 [oR 549 0, oI a1, nn, nn] [] s (cvP s q) := by
  refine rg_step 3 (G' := fun f => evT f 387 5 [oR 549 0, oI a1, oI (s.1 549 153), nn] [] s) (fun _ => rfl) (rg_ltI (P := fun v1 => RG (fun f => evT f 387 5 [oR 549 0, oI a1, oI v1, nn] [] s) (cvP s q)) h fun v1 h => ?_)
  exact rg_step 2 (G' := fun f => evT f 387 7 [oR 549 0, oI a1, oI v1, oI (cI 0)] [] s) (fun _ => rfl) ((t_fM_topOf_h7) h)
theorem T_fM_isBefore {s : ev_M} {a1 : Int32} {a2 : Int32} {q : Int32} (h : fM_isBefore s a1 a2 = some q) : RR 389 0 [oR 549 0, oI a1, oI a2] [] s (cvP s q) := by
  refine rg_step 4 (G' := fun f => if inb a1 200 = true then evT f 389 6 [oR 549 0, oI a1, oI a2] [vI (s.1 652 (ix a1))] s else none) (fun _ => rfl) (rg_gd h fun h => ?_)
  refine rg_step 4 (G' := fun f => if inb a2 200 = true then evT f 389 12 [oR 549 0, oI a1, oI a2] [vI (s.1 652 (ix a2)), vI (s.1 652 (ix a1))] s else none) (fun _ => rfl) (rg_gd h fun h => ?_)
  refine rg_step 1 (G' := fun f => if (s.1 652 (ix a1)) = (s.1 652 (ix a2)) then evT f 389 38 [oR 549 0, oI a1, oI a2] [] s else evT f 389 15 [oR 549 0, oI a1, oI a2] [] s) (fun _ => rfl) (rg_if h (fun h => ?_) fun h => ?_)
  · refine rg_step 4 (G' := fun f => if inb a1 200 = true then evT f 389 44 [oR 549 0, oI a1, oI a2] [vI (s.1 653 (ix a1))] s else none) (fun _ => rfl) (rg_gd h fun h => ?_)
    refine rg_step 4 (G' := fun f => if inb a2 200 = true then evT f 389 50 [oR 549 0, oI a1, oI a2] [vI (s.1 653 (ix a2)), vI (s.1 653 (ix a1))] s else none) (fun _ => rfl) (rg_gd h fun h => ?_)
    refine rg_step 1 (G' := fun f => if (s.1 653 (ix a1)) = (s.1 653 (ix a2)) then evT f 389 76 [oR 549 0, oI a1, oI a2] [] s else evT f 389 53 [oR 549 0, oI a1, oI a2] [] s) (fun _ => rfl) (rg_if h (fun h => ?_) fun h => ?_)
    · refine rg_step 3 (G' := fun f => if a1 < a2 then evT f 389 81 [oR 549 0, oI a1, oI a2] [] s else evT f 389 85 [oR 549 0, oI a1, oI a2] [] s) (fun _ => rfl) (rg_if h (fun h => ?_) fun h => ?_)
      · exact rg_end 3 (fun _ => rfl) (by cases h; rfl)
      · exact rg_end 2 (fun _ => rfl) (by cases h; rfl)
    · refine rg_step 4 (G' := fun f => if inb a1 200 = true then evT f 389 59 [oR 549 0, oI a1, oI a2] [vI (s.1 653 (ix a1))] s else none) (fun _ => rfl) (rg_gd h fun h => ?_)
      refine rg_step 4 (G' := fun f => if inb a2 200 = true then evT f 389 65 [oR 549 0, oI a1, oI a2] [vI (s.1 653 (ix a2)), vI (s.1 653 (ix a1))] s else none) (fun _ => rfl) (rg_gd h fun h => ?_)
      refine rg_step 1 (G' := fun f => if (s.1 653 (ix a1)) < (s.1 653 (ix a2)) then evT f 389 68 [oR 549 0, oI a1, oI a2] [] s else evT f 389 72 [oR 549 0, oI a1, oI a2] [] s) (fun _ => rfl) (rg_if h (fun h => ?_) fun h => ?_)
      · exact rg_end 3 (fun _ => rfl) (by cases h; rfl)
      · exact rg_end 3 (fun _ => rfl) (by cases h; rfl)
  · refine rg_step 4 (G' := fun f => if inb a1 200 = true then evT f 389 21 [oR 549 0, oI a1, oI a2] [vI (s.1 652 (ix a1))] s else none) (fun _ => rfl) (rg_gd h fun h => ?_)
    refine rg_step 4 (G' := fun f => if inb a2 200 = true then evT f 389 27 [oR 549 0, oI a1, oI a2] [vI (s.1 652 (ix a2)), vI (s.1 652 (ix a1))] s else none) (fun _ => rfl) (rg_gd h fun h => ?_)
    refine rg_step 1 (G' := fun f => if (s.1 652 (ix a1)) < (s.1 652 (ix a2)) then evT f 389 30 [oR 549 0, oI a1, oI a2] [] s else evT f 389 34 [oR 549 0, oI a1, oI a2] [] s) (fun _ => rfl) (rg_if h (fun h => ?_) fun h => ?_)
    · exact rg_end 3 (fun _ => rfl) (by cases h; rfl)
    · exact rg_end 3 (fun _ => rfl) (by cases h; rfl)
theorem t_fM_cellsOf_b146 {s : ev_M} {k4 : Int32 → Int32 → Int32 → Option Int32} {k46 : Int32 → Int32 → Int32 → Int32 → Int32 → Int32 → Int32 → Int32 → Option Int32} {k91 : Int32 → Int32 → Int32 → Int32 → Int32 → Int32 → Int32 → Int32 → Int32 → Option Int32} (hk4 : ∀ {x1 : Int32} {x2 : Int32} {x3 : Int32} {j4 : Option ev_V} {j5 : Option ev_V} {j6 : Option ev_V} {j7 : Option ev_V} {j8 : Option ev_V} {j9 : Option ev_V} {q : Int32}, k4 x1 x2 x3 = some q → RR 388 4 [oR 549 0, oI x1, oI x2, oI x3, j4, j5, j6, j7, j8, j9] [] s (cvP s q)) (hk46 : ∀ {x1 : Int32} {x2 : Int32} {x3 : Int32} {x4 : Int32} {x5 : Int32} {x6 : Int32} {x7 : Int32} {x8 : Int32} {j9 : Option ev_V} {q : Int32}, k46 x1 x2 x3 x4 x5 x6 x7 x8 = some q → RR 388 46 [oR 549 0, oI x1, oI x2, oI x3, oI x4, oI x5, oI x6, oI x7, oI x8, j9] [] s (cvP s q)) (hk91 : ∀ {x1 : Int32} {x2 : Int32} {x3 : Int32} {x4 : Int32} {x5 : Int32} {x6 : Int32} {x7 : Int32} {x8 : Int32} {x9 : Int32} {q : Int32}, k91 x1 x2 x3 x4 x5 x6 x7 x8 x9 = some q → RR 388 91 [oR 549 0, oI x1, oI x2, oI x3, oI x4, oI x5, oI x6, oI x7, oI x8, oI x9] [] s (cvP s q)) {x1 : Int32} {x2 : Int32} {x3 : Int32} {x4 : Int32} {x5 : Int32} {x6 : Int32} {x8 : Int32} {x9 : Int32} {y0 : Int32} {j7 : Option ev_V} {q : Int32} (h : fM_cellsOf_b146 s k4 k46 k91 x1 x2 x3 x4 x5 x6 x8 x9 y0 = some q) : RR 388 146 [oR 549 0, oI x1, oI x2, oI x3, oI x4, oI x5, oI x6, j7, oI x8, oI x9] [vI y0] s (cvP s q) := by
  exact rg_step 3 (G' := fun f => evT f 388 91 [oR 549 0, oI x1, oI x2, oI x3, oI x4, oI x5, oI x6, oI y0, oI x8, oI (x9 + cI 1)] [] s) (fun _ => rfl) (hk91 h)
theorem ti_fM_cellsOf_h91 {s : ev_M} {k4 : Int32 → Int32 → Int32 → Option Int32} {k46 : Int32 → Int32 → Int32 → Int32 → Int32 → Int32 → Int32 → Int32 → Option Int32} (hk4 : ∀ {x1 : Int32} {x2 : Int32} {x3 : Int32} {j4 : Option ev_V} {j5 : Option ev_V} {j6 : Option ev_V} {j7 : Option ev_V} {j8 : Option ev_V} {j9 : Option ev_V} {q : Int32}, k4 x1 x2 x3 = some q → RR 388 4 [oR 549 0, oI x1, oI x2, oI x3, j4, j5, j6, j7, j8, j9] [] s (cvP s q)) (hk46 : ∀ {x1 : Int32} {x2 : Int32} {x3 : Int32} {x4 : Int32} {x5 : Int32} {x6 : Int32} {x7 : Int32} {x8 : Int32} {j9 : Option ev_V} {q : Int32}, k46 x1 x2 x3 x4 x5 x6 x7 x8 = some q → RR 388 46 [oR 549 0, oI x1, oI x2, oI x3, oI x4, oI x5, oI x6, oI x7, oI x8, j9] [] s (cvP s q)) : ∀ (n : Nat) (x1 : Int32) (x2 : Int32) (x3 : Int32) (x4 : Int32) (x5 : Int32) (x6 : Int32) (x7 : Int32) (x8 : Int32) (x9 : Int32) (q : Int32), fM_cellsOf_h91 s k4 k46 n x1 x2 x3 x4 x5 x6 x7 x8 x9 = some q → RR 388 91 [oR 549 0, oI x1, oI x2, oI x3, oI x4, oI x5, oI x6, oI x7, oI x8, oI x9] [] s (cvP s q) := by
  intro n
  induction n with
  | zero => intro x1 x2 x3 x4 x5 x6 x7 x8 x9 q h; cases h
  | succ n ih =>
    have hk91 : ∀ {x1 : Int32} {x2 : Int32} {x3 : Int32} {x4 : Int32} {x5 : Int32} {x6 : Int32} {x7 : Int32} {x8 : Int32} {x9 : Int32} {q : Int32}, fM_cellsOf_h91 s k4 k46 n x1 x2 x3 x4 x5 x6 x7 x8 x9 = some q → RR 388 91 [oR 549 0, oI x1, oI x2, oI x3, oI x4, oI x5, oI x6, oI x7, oI x8, oI x9] [] s (cvP s q) := fun h => ih _ _ _ _ _ _ _ _ _ _ h
    intro x1 x2 x3 x4 x5 x6 x7 x8 x9 q h
    refine rg_step 5 (G' := fun f => if inb x1 200 = true then evT f 388 99 [oR 549 0, oI x1, oI x2, oI x3, oI x4, oI x5, oI x6, oI x7, oI x8, oI x9] [vI (s.1 652 (ix x1)), vI x9] s else none) (fun _ => rfl) (rg_gd h fun h => ?_)
    refine rg_step 7 (G' := fun f => if inb x1 200 = true then evT f 388 109 [oR 549 0, oI x1, oI x2, oI x3, oI x4, oI x5, oI x6, oI x7, oI x8, oI x9] [vI (s.1 654 (ix x1)), vI (x5 + (cI 1)), vI (s.1 652 (ix x1)), vI x9] s else none) (fun _ => rfl) (rg_gd h fun h => ?_)
    refine rg_step 3 (G' := fun f => if (cI 3) = 0 then none else evT f 388 112 [oR 549 0, oI x1, oI x2, oI x3, oI x4, oI x5, oI x6, oI x7, oI x8, oI x9] [vI (((x5 + (cI 1)) * (s.1 654 (ix x1))) / (cI 3)), vI (s.1 652 (ix x1)), vI x9] s) (fun _ => rfl) (rg_dv h fun h => ?_)
    refine rg_step 2 (G' := fun f => if x9 < ((s.1 652 (ix x1)) + (((x5 + (cI 1)) * (s.1 654 (ix x1))) / (cI 3))) then evT f 388 116 [oR 549 0, oI x1, oI x2, oI x3, oI x4, oI x5, oI x6, oI x7, oI x8, oI x9] [] s else evT f 388 154 [oR 549 0, oI x1, oI x2, oI x3, oI x4, oI x5, oI x6, oI x7, oI x8, oI x9] [] s) (fun _ => rfl) (rg_if h (fun h => ?_) fun h => ?_)
    · refine rg_step 10 (G' := fun f => if inb (((s.1 549 152) * x8) + x9) 4096 = true then evT f 388 134 [oR 549 0, oI x1, oI x2, oI x3, oI x4, oI x5, oI (x6 + cI 1), oI x7, oI x8, oI x9] [vI (s.1 649 (ix (((s.1 549 152) * x8) + x9)))] s else none) (fun _ => rfl) (rg_gd h fun h => ?_)
      refine rg_step 1 (G' := fun f => if (s.1 649 (ix (((s.1 549 152) * x8) + x9))) = 0 then evT f 388 144 [oR 549 0, oI x1, oI x2, oI x3, oI x4, oI x5, oI (x6 + cI 1), oI x7, oI x8, oI x9] [] s else evT f 388 137 [oR 549 0, oI x1, oI x2, oI x3, oI x4, oI x5, oI (x6 + cI 1), oI x7, oI x8, oI x9] [] s) (fun _ => rfl) (rg_if h (fun h => ?_) fun h => ?_)
      · exact rg_step 1 (G' := fun f => evT f 388 146 [oR 549 0, oI x1, oI x2, oI x3, oI x4, oI x5, oI (x6 + cI 1), oI x7, oI x8, oI x9] [vI x7] s) (fun _ => rfl) ((t_fM_cellsOf_b146 hk4 hk46 hk91) h)
      · exact rg_step 4 (G' := fun f => evT f 388 146 [oR 549 0, oI x1, oI x2, oI x3, oI x4, oI x5, oI (x6 + cI 1), oI x7, oI x8, oI x9] [vI (x7 + (cI 1))] s) (fun _ => rfl) ((t_fM_cellsOf_b146 hk4 hk46 hk91) h)
    · exact rg_step 2 (G' := fun f => evT f 388 46 [oR 549 0, oI x1, oI x2, oI x3, oI x4, oI x5, oI x6, oI x7, oI (x8 + cI 1), oI x9] [] s) (fun _ => rfl) (hk46 h)
theorem t_fM_cellsOf_h91 {s : ev_M} {k4 : Int32 → Int32 → Int32 → Option Int32} {k46 : Int32 → Int32 → Int32 → Int32 → Int32 → Int32 → Int32 → Int32 → Option Int32} (hk4 : ∀ {x1 : Int32} {x2 : Int32} {x3 : Int32} {j4 : Option ev_V} {j5 : Option ev_V} {j6 : Option ev_V} {j7 : Option ev_V} {j8 : Option ev_V} {j9 : Option ev_V} {q : Int32}, k4 x1 x2 x3 = some q → RR 388 4 [oR 549 0, oI x1, oI x2, oI x3, j4, j5, j6, j7, j8, j9] [] s (cvP s q)) (hk46 : ∀ {x1 : Int32} {x2 : Int32} {x3 : Int32} {x4 : Int32} {x5 : Int32} {x6 : Int32} {x7 : Int32} {x8 : Int32} {j9 : Option ev_V} {q : Int32}, k46 x1 x2 x3 x4 x5 x6 x7 x8 = some q → RR 388 46 [oR 549 0, oI x1, oI x2, oI x3, oI x4, oI x5, oI x6, oI x7, oI x8, j9] [] s (cvP s q)) {n : Nat} {x1 : Int32} {x2 : Int32} {x3 : Int32} {x4 : Int32} {x5 : Int32} {x6 : Int32} {x7 : Int32} {x8 : Int32} {x9 : Int32} {q : Int32} (h : fM_cellsOf_h91 s k4 k46 n x1 x2 x3 x4 x5 x6 x7 x8 x9 = some q) : RR 388 91 [oR 549 0, oI x1, oI x2, oI x3, oI x4, oI x5, oI x6, oI x7, oI x8, oI x9] [] s (cvP s q) := ti_fM_cellsOf_h91 hk4 hk46 n x1 x2 x3 x4 x5 x6 x7 x8 x9 q h
theorem t_fM_cellsOf_b182 {s : ev_M} {k4 : Int32 → Int32 → Int32 → Option Int32} (hk4 : ∀ {x1 : Int32} {x2 : Int32} {x3 : Int32} {j4 : Option ev_V} {j5 : Option ev_V} {j6 : Option ev_V} {j7 : Option ev_V} {j8 : Option ev_V} {j9 : Option ev_V} {q : Int32}, k4 x1 x2 x3 = some q → RR 388 4 [oR 549 0, oI x1, oI x2, oI x3, j4, j5, j6, j7, j8, j9] [] s (cvP s q)) {x1 : Int32} {x3 : Int32} {y0 : Int32} {y1 : Int32} {j2 : Option ev_V} {j4 : Option ev_V} {j5 : Option ev_V} {j6 : Option ev_V} {j7 : Option ev_V} {j8 : Option ev_V} {j9 : Option ev_V} {q : Int32} (h : fM_cellsOf_b182 s k4 x1 x3 y0 y1 = some q) : RR 388 182 [oR 549 0, oI x1, j2, oI x3, j4, j5, j6, j7, j8, j9] [vI y1, vI y0] s (cvP s q) := by
  refine rg_step 2 (G' := fun f => evT f 388 184 [oR 549 0, oI x1, oI (y0 ||| y1), oI x3, nn, nn, nn, nn, nn, nn] [] s) (fun _ => rfl) (rg_ltI (P := fun v1 => RG (fun f => evT f 388 184 [oR 549 0, oI x1, oI v1, oI x3, nn, nn, nn, nn, nn, nn] [] s) (cvP s q)) h fun v1 h => ?_)
  exact rg_step 2 (G' := fun f => evT f 388 4 [oR 549 0, oI x1, oI v1, oI (x3 + cI 1), nn, nn, nn, nn, nn, nn] [] s) (fun _ => rfl) (hk4 h)
theorem t_fM_cellsOf_b181 {s : ev_M} {k4 : Int32 → Int32 → Int32 → Option Int32} (hk4 : ∀ {x1 : Int32} {x2 : Int32} {x3 : Int32} {j4 : Option ev_V} {j5 : Option ev_V} {j6 : Option ev_V} {j7 : Option ev_V} {j8 : Option ev_V} {j9 : Option ev_V} {q : Int32}, k4 x1 x2 x3 = some q → RR 388 4 [oR 549 0, oI x1, oI x2, oI x3, j4, j5, j6, j7, j8, j9] [] s (cvP s q)) {x1 : Int32} {x3 : Int32} {y0 : Int32} {j2 : Option ev_V} {j4 : Option ev_V} {j5 : Option ev_V} {j6 : Option ev_V} {j7 : Option ev_V} {j8 : Option ev_V} {j9 : Option ev_V} {q : Int32} (h : fM_cellsOf_b181 s k4 x1 x3 y0 = some q) : RR 388 181 [oR 549 0, oI x1, j2, oI x3, j4, j5, j6, j7, j8, j9] [vI y0] s (cvP s q) := by
  exact rg_step 1 (G' := fun f => evT f 388 182 [oR 549 0, oI x1, nn, oI x3, nn, nn, nn, nn, nn, nn] [vI (cI 0), vI y0] s) (fun _ => rfl) ((t_fM_cellsOf_b182 hk4) h)
theorem ti_fM_cellsOf_h46 {s : ev_M} {k4 : Int32 → Int32 → Int32 → Option Int32} (hk4 : ∀ {x1 : Int32} {x2 : Int32} {x3 : Int32} {j4 : Option ev_V} {j5 : Option ev_V} {j6 : Option ev_V} {j7 : Option ev_V} {j8 : Option ev_V} {j9 : Option ev_V} {q : Int32}, k4 x1 x2 x3 = some q → RR 388 4 [oR 549 0, oI x1, oI x2, oI x3, j4, j5, j6, j7, j8, j9] [] s (cvP s q)) : ∀ (n : Nat) (x1 : Int32) (x2 : Int32) (x3 : Int32) (x4 : Int32) (x5 : Int32) (x6 : Int32) (x7 : Int32) (x8 : Int32) (j9 : Option ev_V) (q : Int32), fM_cellsOf_h46 s k4 n x1 x2 x3 x4 x5 x6 x7 x8 = some q → RR 388 46 [oR 549 0, oI x1, oI x2, oI x3, oI x4, oI x5, oI x6, oI x7, oI x8, j9] [] s (cvP s q) := by
  intro n
  induction n with
  | zero => intro x1 x2 x3 x4 x5 x6 x7 x8 j9 q h; cases h
  | succ n ih =>
    have hk46 : ∀ {x1 : Int32} {x2 : Int32} {x3 : Int32} {x4 : Int32} {x5 : Int32} {x6 : Int32} {x7 : Int32} {x8 : Int32} {j9 : Option ev_V} {q : Int32}, fM_cellsOf_h46 s k4 n x1 x2 x3 x4 x5 x6 x7 x8 = some q → RR 388 46 [oR 549 0, oI x1, oI x2, oI x3, oI x4, oI x5, oI x6, oI x7, oI x8, j9] [] s (cvP s q) := fun h => ih _ _ _ _ _ _ _ _ _ _ h
    intro x1 x2 x3 x4 x5 x6 x7 x8 j9 q h
    refine rg_step 5 (G' := fun f => if inb x1 200 = true then evT f 388 54 [oR 549 0, oI x1, oI x2, oI x3, oI x4, oI x5, oI x6, oI x7, oI x8, nn] [vI (s.1 653 (ix x1)), vI x8] s else none) (fun _ => rfl) (rg_gd h fun h => ?_)
    refine rg_step 7 (G' := fun f => if inb x1 200 = true then evT f 388 64 [oR 549 0, oI x1, oI x2, oI x3, oI x4, oI x5, oI x6, oI x7, oI x8, nn] [vI (s.1 655 (ix x1)), vI (x4 + (cI 1)), vI (s.1 653 (ix x1)), vI x8] s else none) (fun _ => rfl) (rg_gd h fun h => ?_)
    refine rg_step 3 (G' := fun f => if (cI 5) = 0 then none else evT f 388 67 [oR 549 0, oI x1, oI x2, oI x3, oI x4, oI x5, oI x6, oI x7, oI x8, nn] [vI (((x4 + (cI 1)) * (s.1 655 (ix x1))) / (cI 5)), vI (s.1 653 (ix x1)), vI x8] s) (fun _ => rfl) (rg_dv h fun h => ?_)
    refine rg_step 2 (G' := fun f => if x8 < ((s.1 653 (ix x1)) + (((x4 + (cI 1)) * (s.1 655 (ix x1))) / (cI 5))) then evT f 388 71 [oR 549 0, oI x1, oI x2, oI x3, oI x4, oI x5, oI x6, oI x7, oI x8, nn] [] s else evT f 388 160 [oR 549 0, oI x1, oI x2, oI x3, oI x4, oI x5, oI x6, oI x7, oI x8, nn] [] s) (fun _ => rfl) (rg_if h (fun h => ?_) fun h => ?_)
    · refine rg_step 4 (G' := fun f => if inb x1 200 = true then evT f 388 77 [oR 549 0, oI x1, oI x2, oI x3, oI x4, oI x5, oI x6, oI x7, oI x8, nn] [vI (s.1 652 (ix x1))] s else none) (fun _ => rfl) (rg_gd h fun h => ?_)
      refine rg_step 5 (G' := fun f => if inb x1 200 = true then evT f 388 85 [oR 549 0, oI x1, oI x2, oI x3, oI x4, oI x5, oI x6, oI x7, oI x8, nn] [vI (s.1 654 (ix x1)), vI x5, vI (s.1 652 (ix x1))] s else none) (fun _ => rfl) (rg_gd h fun h => ?_)
      refine rg_step 3 (G' := fun f => if (cI 3) = 0 then none else evT f 388 88 [oR 549 0, oI x1, oI x2, oI x3, oI x4, oI x5, oI x6, oI x7, oI x8, nn] [vI ((x5 * (s.1 654 (ix x1))) / (cI 3)), vI (s.1 652 (ix x1))] s) (fun _ => rfl) (rg_dv h fun h => ?_)
      refine rg_step 2 (G' := fun f => evT f 388 91 [oR 549 0, oI x1, oI x2, oI x3, oI x4, oI x5, oI x6, oI x7, oI x8, oI ((s.1 652 (ix x1)) + ((x5 * (s.1 654 (ix x1))) / (cI 3)))] [] s) (fun _ => rfl) (rg_ltI (P := fun v2 => RG (fun f => evT f 388 91 [oR 549 0, oI x1, oI x2, oI x3, oI x4, oI x5, oI x6, oI x7, oI x8, oI v2] [] s) (cvP s q)) h fun v2 h => ?_)
      exact (t_fM_cellsOf_h91 hk4 hk46) h
    · refine rg_step 5 (G' := fun f => if x6 ≤ 0 then evT f 388 181 [oR 549 0, oI x1, oI x2, oI x3, oI x4, oI x5, oI x6, oI x7, oI x8, nn] [vI (x2 <<< ((cI 1) &&& 31))] s else evT f 388 168 [oR 549 0, oI x1, oI x2, oI x3, oI x4, oI x5, oI x6, oI x7, oI x8, nn] [vI (x2 <<< ((cI 1) &&& 31))] s) (fun _ => rfl) (rg_if h (fun h => ?_) fun h => ?_)
      · exact (t_fM_cellsOf_b181 hk4) h
      · refine rg_step 5 (G' := fun f => if ((cI 2) * x7) < x6 then evT f 388 181 [oR 549 0, oI x1, oI x2, oI x3, oI x4, oI x5, oI x6, oI x7, oI x8, nn] [vI (x2 <<< ((cI 1) &&& 31))] s else evT f 388 177 [oR 549 0, oI x1, oI x2, oI x3, oI x4, oI x5, oI x6, oI x7, oI x8, nn] [vI (x2 <<< ((cI 1) &&& 31))] s) (fun _ => rfl) (rg_if h (fun h => ?_) fun h => ?_)
        · exact (t_fM_cellsOf_b181 hk4) h
        · exact rg_step 2 (G' := fun f => evT f 388 182 [oR 549 0, oI x1, oI x2, oI x3, oI x4, oI x5, oI x6, oI x7, oI x8, nn] [vI (cI 1), vI (x2 <<< ((cI 1) &&& 31))] s) (fun _ => rfl) ((t_fM_cellsOf_b182 hk4) h)
theorem t_fM_cellsOf_h46 {s : ev_M} {k4 : Int32 → Int32 → Int32 → Option Int32} (hk4 : ∀ {x1 : Int32} {x2 : Int32} {x3 : Int32} {j4 : Option ev_V} {j5 : Option ev_V} {j6 : Option ev_V} {j7 : Option ev_V} {j8 : Option ev_V} {j9 : Option ev_V} {q : Int32}, k4 x1 x2 x3 = some q → RR 388 4 [oR 549 0, oI x1, oI x2, oI x3, j4, j5, j6, j7, j8, j9] [] s (cvP s q)) {n : Nat} {x1 : Int32} {x2 : Int32} {x3 : Int32} {x4 : Int32} {x5 : Int32} {x6 : Int32} {x7 : Int32} {x8 : Int32} {j9 : Option ev_V} {q : Int32} (h : fM_cellsOf_h46 s k4 n x1 x2 x3 x4 x5 x6 x7 x8 = some q) : RR 388 46 [oR 549 0, oI x1, oI x2, oI x3, oI x4, oI x5, oI x6, oI x7, oI x8, j9] [] s (cvP s q) := ti_fM_cellsOf_h46 hk4 n x1 x2 x3 x4 x5 x6 x7 x8 j9 q h
theorem ti_fM_cellsOf_h4 {s : ev_M} : ∀ (n : Nat) (x1 : Int32) (x2 : Int32) (x3 : Int32) (j4 : Option ev_V) (j5 : Option ev_V) (j6 : Option ev_V) (j7 : Option ev_V) (j8 : Option ev_V) (j9 : Option ev_V) (q : Int32), fM_cellsOf_h4 s n x1 x2 x3 = some q → RR 388 4 [oR 549 0, oI x1, oI x2, oI x3, j4, j5, j6, j7, j8, j9] [] s (cvP s q) := by
  intro n
  induction n with
  | zero => intro x1 x2 x3 j4 j5 j6 j7 j8 j9 q h; cases h
  | succ n ih =>
    have hk4 : ∀ {x1 : Int32} {x2 : Int32} {x3 : Int32} {j4 : Option ev_V} {j5 : Option ev_V} {j6 : Option ev_V} {j7 : Option ev_V} {j8 : Option ev_V} {j9 : Option ev_V} {q : Int32}, fM_cellsOf_h4 s n x1 x2 x3 = some q → RR 388 4 [oR 549 0, oI x1, oI x2, oI x3, j4, j5, j6, j7, j8, j9] [] s (cvP s q) := fun h => ih _ _ _ _ _ _ _ _ _ _ h
    intro x1 x2 x3 j4 j5 j6 j7 j8 j9 q h
    refine rg_step 3 (G' := fun f => if x3 < (cI 15) then evT f 388 10 [oR 549 0, oI x1, oI x2, oI x3, nn, nn, nn, nn, nn, nn] [] s else evT f 388 190 [oR 549 0, oI x1, oI x2, oI x3, nn, nn, nn, nn, nn, nn] [] s) (fun _ => rfl) (rg_if h (fun h => ?_) fun h => ?_)
    · refine rg_step 3 (G' := fun f => if (cI 3) = 0 then none else evT f 388 13 [oR 549 0, oI x1, oI x2, oI x3, nn, nn, nn, nn, nn, nn] [vI (x3 / (cI 3))] s) (fun _ => rfl) (rg_dv h fun h => ?_)
      refine rg_step 1 (G' := fun f => evT f 388 15 [oR 549 0, oI x1, oI x2, oI x3, oI (x3 / (cI 3)), nn, nn, nn, nn, nn] [] s) (fun _ => rfl) (rg_ltI (P := fun v3 => RG (fun f => evT f 388 15 [oR 549 0, oI x1, oI x2, oI x3, oI v3, nn, nn, nn, nn, nn] [] s) (cvP s q)) h fun v3 h => ?_)
      refine rg_step 3 (G' := fun f => if (cI 3) = 0 then none else evT f 388 18 [oR 549 0, oI x1, oI x2, oI x3, oI v3, nn, nn, nn, nn, nn] [vI (irem x3 (cI 3))] s) (fun _ => rfl) (rg_dv h fun h => ?_)
      refine rg_step 1 (G' := fun f => evT f 388 20 [oR 549 0, oI x1, oI x2, oI x3, oI v3, oI (irem x3 (cI 3)), nn, nn, nn, nn] [] s) (fun _ => rfl) (rg_ltI (P := fun v4 => RG (fun f => evT f 388 20 [oR 549 0, oI x1, oI x2, oI x3, oI v3, oI v4, nn, nn, nn, nn] [] s) (cvP s q)) h fun v4 h => ?_)
      refine rg_step 8 (G' := fun f => if inb x1 200 = true then evT f 388 32 [oR 549 0, oI x1, oI x2, oI x3, oI v3, oI v4, oI (cI 0), oI (cI 0), nn, nn] [vI (s.1 653 (ix x1))] s else none) (fun _ => rfl) (rg_gd h fun h => ?_)
      refine rg_step 5 (G' := fun f => if inb x1 200 = true then evT f 388 40 [oR 549 0, oI x1, oI x2, oI x3, oI v3, oI v4, oI (cI 0), oI (cI 0), nn, nn] [vI (s.1 655 (ix x1)), vI v3, vI (s.1 653 (ix x1))] s else none) (fun _ => rfl) (rg_gd h fun h => ?_)
      refine rg_step 3 (G' := fun f => if (cI 5) = 0 then none else evT f 388 43 [oR 549 0, oI x1, oI x2, oI x3, oI v3, oI v4, oI (cI 0), oI (cI 0), nn, nn] [vI ((v3 * (s.1 655 (ix x1))) / (cI 5)), vI (s.1 653 (ix x1))] s) (fun _ => rfl) (rg_dv h fun h => ?_)
      refine rg_step 2 (G' := fun f => evT f 388 46 [oR 549 0, oI x1, oI x2, oI x3, oI v3, oI v4, oI (cI 0), oI (cI 0), oI ((s.1 653 (ix x1)) + ((v3 * (s.1 655 (ix x1))) / (cI 5))), nn] [] s) (fun _ => rfl) (rg_ltI (P := fun v5 => RG (fun f => evT f 388 46 [oR 549 0, oI x1, oI x2, oI x3, oI v3, oI v4, oI (cI 0), oI (cI 0), oI v5, nn] [] s) (cvP s q)) h fun v5 h => ?_)
      exact (t_fM_cellsOf_h46 hk4) h
    · exact rg_end 2 (fun _ => rfl) (by cases h; rfl)
theorem t_fM_cellsOf_h4 {s : ev_M} {n : Nat} {x1 : Int32} {x2 : Int32} {x3 : Int32} {j4 : Option ev_V} {j5 : Option ev_V} {j6 : Option ev_V} {j7 : Option ev_V} {j8 : Option ev_V} {j9 : Option ev_V} {q : Int32} (h : fM_cellsOf_h4 s n x1 x2 x3 = some q) : RR 388 4 [oR 549 0, oI x1, oI x2, oI x3, j4, j5, j6, j7, j8, j9] [] s (cvP s q) := ti_fM_cellsOf_h4 n x1 x2 x3 j4 j5 j6 j7 j8 j9 q h
theorem T_fM_cellsOf {s : ev_M} {a1 : Int32} {q : Int32} (h : fM_cellsOf s a1 = some q) : RR 388 0 [oR 549 0, oI a1, nn, nn, nn, nn, nn, nn, nn, nn] [] s (cvP s q) := by
  exact rg_step 4 (G' := fun f => evT f 388 4 [oR 549 0, oI a1, oI (cI 0), oI (cI 0), nn, nn, nn, nn, nn, nn] [] s) (fun _ => rfl) ((t_fM_cellsOf_h4) h)
theorem t_fM_lay_b88 {k15 : ev_M → Int32 → Int32 → Int32 → Int32 → Option ev_M} {k41 : ev_M → Int32 → Int32 → Int32 → Int32 → Int32 → Int32 → Option ev_M} (hk15 : ∀ {s : ev_M} {x1 : Int32} {x2 : Int32} {x3 : Int32} {x4 : Int32} {j5 : Option ev_V} {j6 : Option ev_V} {q : ev_M}, k15 s x1 x2 x3 x4 = some q → RR 390 15 [oR 549 0, oI x1, oI x2, oI x3, oI x4, j5, j6] [] s (cvV q)) (hk41 : ∀ {s : ev_M} {x1 : Int32} {x2 : Int32} {x3 : Int32} {x4 : Int32} {x5 : Int32} {x6 : Int32} {q : ev_M}, k41 s x1 x2 x3 x4 x5 x6 = some q → RR 390 41 [oR 549 0, oI x1, oI x2, oI x3, oI x4, oI x5, oI x6] [] s (cvV q)) {s : ev_M} {x1 : Int32} {x2 : Int32} {x3 : Int32} {x4 : Int32} {x6 : Int32} {y0 : Int32} {j5 : Option ev_V} {q : ev_M} (h : fM_lay_b88 k15 k41 s x1 x2 x3 x4 x6 y0 = some q) : RR 390 88 [oR 549 0, oI x1, oI x2, oI x3, oI x4, j5, oI x6] [vI y0] s (cvV q) := by
  exact rg_step 3 (G' := fun f => evT f 390 41 [oR 549 0, oI x1, oI x2, oI x3, oI x4, oI y0, oI (x6 + cI 1)] [] s) (fun _ => rfl) (hk41 h)
theorem t_fM_lay_b86 {k15 : ev_M → Int32 → Int32 → Int32 → Int32 → Option ev_M} {k41 : ev_M → Int32 → Int32 → Int32 → Int32 → Int32 → Int32 → Option ev_M} (hk15 : ∀ {s : ev_M} {x1 : Int32} {x2 : Int32} {x3 : Int32} {x4 : Int32} {j5 : Option ev_V} {j6 : Option ev_V} {q : ev_M}, k15 s x1 x2 x3 x4 = some q → RR 390 15 [oR 549 0, oI x1, oI x2, oI x3, oI x4, j5, j6] [] s (cvV q)) (hk41 : ∀ {s : ev_M} {x1 : Int32} {x2 : Int32} {x3 : Int32} {x4 : Int32} {x5 : Int32} {x6 : Int32} {q : ev_M}, k41 s x1 x2 x3 x4 x5 x6 = some q → RR 390 41 [oR 549 0, oI x1, oI x2, oI x3, oI x4, oI x5, oI x6] [] s (cvV q)) {s : ev_M} {x1 : Int32} {x2 : Int32} {x3 : Int32} {x4 : Int32} {x5 : Int32} {x6 : Int32} {q : ev_M} (h : fM_lay_b86 k15 k41 s x1 x2 x3 x4 x5 x6 = some q) : RR 390 86 [oR 549 0, oI x1, oI x2, oI x3, oI x4, oI x5, oI x6] [] s (cvV q) := by
  exact rg_step 1 (G' := fun f => evT f 390 88 [oR 549 0, oI x1, oI x2, oI x3, oI x4, oI x5, oI x6] [vI x5] s) (fun _ => rfl) ((t_fM_lay_b88 hk15 hk41) h)
theorem t_fM_lay_b174 {k15 : ev_M → Int32 → Int32 → Int32 → Int32 → Option ev_M} (hk15 : ∀ {s : ev_M} {x1 : Int32} {x2 : Int32} {x3 : Int32} {x4 : Int32} {j5 : Option ev_V} {j6 : Option ev_V} {q : ev_M}, k15 s x1 x2 x3 x4 = some q → RR 390 15 [oR 549 0, oI x1, oI x2, oI x3, oI x4, j5, j6] [] s (cvV q)) {s : ev_M} {x1 : Int32} {x2 : Int32} {x3 : Int32} {x4 : Int32} {j5 : Option ev_V} {j6 : Option ev_V} {q : ev_M} (h : fM_lay_b174 k15 s x1 x2 x3 x4 = some q) : RR 390 174 [oR 549 0, oI x1, oI x2, oI x3, oI x4, j5, j6] [] s (cvV q) := by
  exact rg_step 2 (G' := fun f => evT f 390 15 [oR 549 0, oI x1, oI x2, oI x3, oI (x4 + cI 1), nn, nn] [] s) (fun _ => rfl) (hk15 h)
theorem ti_fM_lay_h41 {k15 : ev_M → Int32 → Int32 → Int32 → Int32 → Option ev_M} (hk15 : ∀ {s : ev_M} {x1 : Int32} {x2 : Int32} {x3 : Int32} {x4 : Int32} {j5 : Option ev_V} {j6 : Option ev_V} {q : ev_M}, k15 s x1 x2 x3 x4 = some q → RR 390 15 [oR 549 0, oI x1, oI x2, oI x3, oI x4, j5, j6] [] s (cvV q)) : ∀ (n : Nat) (s : ev_M) (x1 : Int32) (x2 : Int32) (x3 : Int32) (x4 : Int32) (x5 : Int32) (x6 : Int32) (q : ev_M), fM_lay_h41 k15 n s x1 x2 x3 x4 x5 x6 = some q → RR 390 41 [oR 549 0, oI x1, oI x2, oI x3, oI x4, oI x5, oI x6] [] s (cvV q) := by
  intro n
  induction n with
  | zero => intro s x1 x2 x3 x4 x5 x6 q h; cases h
  | succ n ih =>
    have hk41 : ∀ {s : ev_M} {x1 : Int32} {x2 : Int32} {x3 : Int32} {x4 : Int32} {x5 : Int32} {x6 : Int32} {q : ev_M}, fM_lay_h41 k15 n s x1 x2 x3 x4 x5 x6 = some q → RR 390 41 [oR 549 0, oI x1, oI x2, oI x3, oI x4, oI x5, oI x6] [] s (cvV q) := fun h => ih _ _ _ _ _ _ _ _ h
    intro s x1 x2 x3 x4 x5 x6 q h
    refine rg_step 4 (G' := fun f => if x6 < (s.1 549 146) then evT f 390 50 [oR 549 0, oI x1, oI x2, oI x3, oI x4, oI x5, oI x6] [] s else evT f 390 96 [oR 549 0, oI x1, oI x2, oI x3, oI x4, oI x5, oI x6] [] s) (fun _ => rfl) (rg_if h (fun h => ?_) fun h => ?_)
    · refine rg_step 4 (G' := fun f => if inb x6 200 = true then evT f 390 57 [oR 549 0, oI x1, oI x2, oI x3, oI x4, oI x5, oI x6] [vI (s.1 656 (ix x6))] s else none) (fun _ => rfl) (rg_gd h fun h => ?_)
      refine rg_step 2 (G' := fun f => if (s.1 656 (ix x6)) = x1 then evT f 390 61 [oR 549 0, oI x1, oI x2, oI x3, oI x4, oI x5, oI x6] [] s else evT f 390 86 [oR 549 0, oI x1, oI x2, oI x3, oI x4, oI x5, oI x6] [] s) (fun _ => rfl) (rg_if h (fun h => ?_) fun h => ?_)
      · refine rg_step 3 (G' := fun f => if x6 = x4 then evT f 390 86 [oR 549 0, oI x1, oI x2, oI x3, oI x4, oI x5, oI x6] [] s else evT f 390 68 [oR 549 0, oI x1, oI x2, oI x3, oI x4, oI x5, oI x6] [] s) (fun _ => rfl) (rg_if h (fun h => ?_) fun h => ?_)
        · exact (t_fM_lay_b86 hk15 hk41) h
        · refine rg_step 4 (G' := fun f => ev_after (evT f 389 0 [oR 549 0, oI x6, oI x4] [] s) (fun q => evT f 390 76 [oR 549 0, oI x1, oI x2, oI x3, oI x4, oI x5, oI x6] (q.2 ++ []) q.1)) (fun _ => rfl) (rg_bd1 h fun v1 hc h => rg_call (q := cvP s v1) (T_fM_isBefore hc) ?_)
          refine rg_step 1 (G' := fun f => if v1 = 0 then evT f 390 86 [oR 549 0, oI x1, oI x2, oI x3, oI x4, oI x5, oI x6] [] s else evT f 390 79 [oR 549 0, oI x1, oI x2, oI x3, oI x4, oI x5, oI x6] [] s) (fun _ => rfl) (rg_if h (fun h => ?_) fun h => ?_)
          · exact (t_fM_lay_b86 hk15 hk41) h
          · exact rg_step 4 (G' := fun f => evT f 390 88 [oR 549 0, oI x1, oI x2, oI x3, oI x4, oI x5, oI x6] [vI (x5 + (cI 1))] s) (fun _ => rfl) ((t_fM_lay_b88 hk15 hk41) h)
      · exact (t_fM_lay_b86 hk15 hk41) h
    · refine rg_step 4 (G' := fun f => evT f 390 102 [oR 549 0, oI x1, oI x2, oI x3, oI x4, oI x5, oI (x2 + x5)] [] s) (fun _ => rfl) (rg_ltI (P := fun v2 => RG (fun f => evT f 390 102 [oR 549 0, oI x1, oI x2, oI x3, oI x4, oI x5, oI v2] [] s) (cvV q)) h fun v2 h => ?_)
      refine rg_step 7 (G' := fun f => if inb x4 200 = true then evT f 390 115 [oR 549 0, oI x1, oI x2, oI x3, oI x4, oI x5, oI v2] [vI (s.1 652 (ix x4)), vI v2, vR 578 0] s else none) (fun _ => rfl) (rg_gd h fun h => ?_)
      refine rg_step 1 (G' := fun f => if inb v2 200 = true then evT f 390 116 [oR 549 0, oI x1, oI x2, oI x3, oI x4, oI x5, oI v2] [] (wI s 578 (ix v2) (s.1 652 (ix x4))) else none) (fun _ => rfl) (rg_gd h fun h => rg_ltM h fun s3 h => ?_)
      refine rg_step 7 (G' := fun f => if inb x4 200 = true then evT f 390 129 [oR 549 0, oI x1, oI x2, oI x3, oI x4, oI x5, oI v2] [vI (s3.1 653 (ix x4)), vI v2, vR 579 0] s3 else none) (fun _ => rfl) (rg_gd h fun h => ?_)
      refine rg_step 1 (G' := fun f => if inb v2 200 = true then evT f 390 130 [oR 549 0, oI x1, oI x2, oI x3, oI x4, oI x5, oI v2] [] (wI s3 579 (ix v2) (s3.1 653 (ix x4))) else none) (fun _ => rfl) (rg_gd h fun h => rg_ltM h fun s4 h => ?_)
      refine rg_step 7 (G' := fun f => if inb x4 200 = true then evT f 390 143 [oR 549 0, oI x1, oI x2, oI x3, oI x4, oI x5, oI v2] [vI (s4.1 654 (ix x4)), vI v2, vR 580 0] s4 else none) (fun _ => rfl) (rg_gd h fun h => ?_)
      refine rg_step 1 (G' := fun f => if inb v2 200 = true then evT f 390 144 [oR 549 0, oI x1, oI x2, oI x3, oI x4, oI x5, oI v2] [] (wI s4 580 (ix v2) (s4.1 654 (ix x4))) else none) (fun _ => rfl) (rg_gd h fun h => rg_ltM h fun s5 h => ?_)
      refine rg_step 7 (G' := fun f => if inb x4 200 = true then evT f 390 157 [oR 549 0, oI x1, oI x2, oI x3, oI x4, oI x5, oI v2] [vI (s5.1 655 (ix x4)), vI v2, vR 581 0] s5 else none) (fun _ => rfl) (rg_gd h fun h => ?_)
      refine rg_step 1 (G' := fun f => if inb v2 200 = true then evT f 390 158 [oR 549 0, oI x1, oI x2, oI x3, oI x4, oI x5, oI v2] [] (wI s5 581 (ix v2) (s5.1 655 (ix x4))) else none) (fun _ => rfl) (rg_gd h fun h => rg_ltM h fun s6 h => ?_)
      refine rg_step 6 (G' := fun f => ev_after (evT f 388 0 [oR 549 0, oI x4, nn, nn, nn, nn, nn, nn, nn, nn] [] s6) (fun q => evT f 390 170 [oR 549 0, oI x1, oI x2, oI x3, oI x4, oI x5, oI v2] (q.2 ++ [vI v2, vR 582 0]) q.1)) (fun _ => rfl) (rg_bd1 h fun v7 hc h => rg_call (q := cvP s6 v7) (T_fM_cellsOf hc) ?_)
      refine rg_step 1 (G' := fun f => if inb v2 200 = true then evT f 390 171 [oR 549 0, oI x1, oI x2, oI x3, oI x4, oI x5, oI v2] [] (wI s6 582 (ix v2) v7) else none) (fun _ => rfl) (rg_gd h fun h => rg_ltM h fun s8 h => ?_)
      exact rg_step 1 (G' := fun f => evT f 390 174 [oR 549 0, oI x1, oI x2, oI (x3 + cI 1), oI x4, oI x5, oI v2] [] s8) (fun _ => rfl) ((t_fM_lay_b174 hk15) h)
theorem t_fM_lay_h41 {k15 : ev_M → Int32 → Int32 → Int32 → Int32 → Option ev_M} (hk15 : ∀ {s : ev_M} {x1 : Int32} {x2 : Int32} {x3 : Int32} {x4 : Int32} {j5 : Option ev_V} {j6 : Option ev_V} {q : ev_M}, k15 s x1 x2 x3 x4 = some q → RR 390 15 [oR 549 0, oI x1, oI x2, oI x3, oI x4, j5, j6] [] s (cvV q)) {n : Nat} {s : ev_M} {x1 : Int32} {x2 : Int32} {x3 : Int32} {x4 : Int32} {x5 : Int32} {x6 : Int32} {q : ev_M} (h : fM_lay_h41 k15 n s x1 x2 x3 x4 x5 x6 = some q) : RR 390 41 [oR 549 0, oI x1, oI x2, oI x3, oI x4, oI x5, oI x6] [] s (cvV q) := ti_fM_lay_h41 hk15 n s x1 x2 x3 x4 x5 x6 q h
theorem ti_fM_lay_h15 : ∀ (n : Nat) (s : ev_M) (x1 : Int32) (x2 : Int32) (x3 : Int32) (x4 : Int32) (j5 : Option ev_V) (j6 : Option ev_V) (q : ev_M), fM_lay_h15 n s x1 x2 x3 x4 = some q → RR 390 15 [oR 549 0, oI x1, oI x2, oI x3, oI x4, j5, j6] [] s (cvV q) := by
  intro n
  induction n with
  | zero => intro s x1 x2 x3 x4 j5 j6 q h; cases h
  | succ n ih =>
    have hk15 : ∀ {s : ev_M} {x1 : Int32} {x2 : Int32} {x3 : Int32} {x4 : Int32} {j5 : Option ev_V} {j6 : Option ev_V} {q : ev_M}, fM_lay_h15 n s x1 x2 x3 x4 = some q → RR 390 15 [oR 549 0, oI x1, oI x2, oI x3, oI x4, j5, j6] [] s (cvV q) := fun h => ih _ _ _ _ _ _ _ _ h
    intro s x1 x2 x3 x4 j5 j6 q h
    refine rg_step 4 (G' := fun f => if x4 < (s.1 549 146) then evT f 390 24 [oR 549 0, oI x1, oI x2, oI x3, oI x4, nn, nn] [] s else evT f 390 180 [oR 549 0, oI x1, oI x2, oI x3, oI x4, nn, nn] [] s) (fun _ => rfl) (rg_if h (fun h => ?_) fun h => ?_)
    · refine rg_step 4 (G' := fun f => if inb x4 200 = true then evT f 390 31 [oR 549 0, oI x1, oI x2, oI x3, oI x4, nn, nn] [vI (s.1 656 (ix x4))] s else none) (fun _ => rfl) (rg_gd h fun h => ?_)
      refine rg_step 2 (G' := fun f => if (s.1 656 (ix x4)) = x1 then evT f 390 35 [oR 549 0, oI x1, oI x2, oI x3, oI x4, nn, nn] [] s else evT f 390 174 [oR 549 0, oI x1, oI x2, oI x3, oI x4, nn, nn] [] s) (fun _ => rfl) (rg_if h (fun h => ?_) fun h => ?_)
      · exact rg_step 4 (G' := fun f => evT f 390 41 [oR 549 0, oI x1, oI x2, oI x3, oI x4, oI (cI 0), oI (cI 0)] [] s) (fun _ => rfl) ((t_fM_lay_h41 hk15) h)
      · exact (t_fM_lay_b174 hk15) h
    · refine rg_step 6 (G' := fun f => evT f 390 190 [oR 549 0, oI x1, oI x2, oI x3, oI x4, nn, nn] [] (wI s 549 51 ((s.1 549 51) + (cI 1)))) (fun _ => rfl) (rg_ltM h fun s9 h => ?_)
      refine rg_step 8 (G' := fun f => if inb (s9.1 549 51) 11 = true then evT f 390 202 [oR 549 0, oI x1, oI x2, oI x3, oI x4, nn, nn] [] (wI s9 577 (ix (s9.1 549 51)) (x2 + x3)) else none) (fun _ => rfl) (rg_gd h fun h => rg_ltM h fun s10 h => ?_)
      exact rg_end 1 (fun _ => rfl) (by cases h; rfl)
theorem t_fM_lay_h15 {n : Nat} {s : ev_M} {x1 : Int32} {x2 : Int32} {x3 : Int32} {x4 : Int32} {j5 : Option ev_V} {j6 : Option ev_V} {q : ev_M} (h : fM_lay_h15 n s x1 x2 x3 x4 = some q) : RR 390 15 [oR 549 0, oI x1, oI x2, oI x3, oI x4, j5, j6] [] s (cvV q) := ti_fM_lay_h15 n s x1 x2 x3 x4 j5 j6 q h
theorem T_fM_lay {s : ev_M} {a1 : Int32} {q : ev_M} (h : fM_lay s a1 = some q) : RR 390 0 [oR 549 0, oI a1, nn, nn, nn, nn, nn] [] s (cvV q) := by
  refine rg_step 5 (G' := fun f => if inb (s.1 549 51) 11 = true then evT f 390 9 [oR 549 0, oI a1, nn, nn, nn, nn, nn] [vI (s.1 577 (ix (s.1 549 51)))] s else none) (fun _ => rfl) (rg_gd h fun h => ?_)
  refine rg_step 1 (G' := fun f => evT f 390 10 [oR 549 0, oI a1, oI (s.1 577 (ix (s.1 549 51))), nn, nn, nn, nn] [] s) (fun _ => rfl) (rg_ltI (P := fun v11 => RG (fun f => evT f 390 10 [oR 549 0, oI a1, oI v11, nn, nn, nn, nn] [] s) (cvV q)) h fun v11 h => ?_)
  exact rg_step 4 (G' := fun f => evT f 390 15 [oR 549 0, oI a1, oI v11, oI (cI 0), oI (cI 0), nn, nn] [] s) (fun _ => rfl) ((t_fM_lay_h15) h)
theorem t_fM_findLines_b102 {k16 : ev_M → Int32 → Int32 → Option ev_M} {k34 : ev_M → Int32 → Int32 → Int32 → Option ev_M} (hk16 : ∀ {s : ev_M} {x1 : Int32} {x2 : Int32} {j3 : Option ev_V} {j4 : Option ev_V} {j5 : Option ev_V} {q : ev_M}, k16 s x1 x2 = some q → RR 391 16 [oR 549 0, oI x1, oI x2, j3, j4, j5] [] s (cvV q)) (hk34 : ∀ {s : ev_M} {x1 : Int32} {x3 : Int32} {x4 : Int32} {j2 : Option ev_V} {j5 : Option ev_V} {q : ev_M}, k34 s x1 x3 x4 = some q → RR 391 34 [oR 549 0, oI x1, j2, oI x3, oI x4, j5] [] s (cvV q)) {s : ev_M} {x1 : Int32} {x4 : Int32} {y0 : Int32} {j2 : Option ev_V} {j3 : Option ev_V} {j5 : Option ev_V} {q : ev_M} (h : fM_findLines_b102 k16 k34 s x1 x4 y0 = some q) : RR 391 102 [oR 549 0, oI x1, j2, j3, oI x4, j5] [vI y0] s (cvV q) := by
  exact rg_step 3 (G' := fun f => evT f 391 34 [oR 549 0, oI x1, nn, oI y0, oI (x4 + cI 1), nn] [] s) (fun _ => rfl) (hk34 h)
theorem t_fM_findLines_b96 {k16 : ev_M → Int32 → Int32 → Option ev_M} {k34 : ev_M → Int32 → Int32 → Int32 → Option ev_M} (hk16 : ∀ {s : ev_M} {x1 : Int32} {x2 : Int32} {j3 : Option ev_V} {j4 : Option ev_V} {j5 : Option ev_V} {q : ev_M}, k16 s x1 x2 = some q → RR 391 16 [oR 549 0, oI x1, oI x2, j3, j4, j5] [] s (cvV q)) (hk34 : ∀ {s : ev_M} {x1 : Int32} {x3 : Int32} {x4 : Int32} {j2 : Option ev_V} {j5 : Option ev_V} {q : ev_M}, k34 s x1 x3 x4 = some q → RR 391 34 [oR 549 0, oI x1, j2, oI x3, oI x4, j5] [] s (cvV q)) {s : ev_M} {x1 : Int32} {x4 : Int32} {j2 : Option ev_V} {j3 : Option ev_V} {j5 : Option ev_V} {q : ev_M} (h : fM_findLines_b96 k16 k34 s x1 x4 = some q) : RR 391 96 [oR 549 0, oI x1, j2, j3, oI x4, j5] [] s (cvV q) := by
  exact rg_step 2 (G' := fun f => evT f 391 102 [oR 549 0, oI x1, nn, nn, oI x4, nn] [vI x4] s) (fun _ => rfl) ((t_fM_findLines_b102 hk16 hk34) h)
theorem t_fM_findLines_b101 {k16 : ev_M → Int32 → Int32 → Option ev_M} {k34 : ev_M → Int32 → Int32 → Int32 → Option ev_M} (hk16 : ∀ {s : ev_M} {x1 : Int32} {x2 : Int32} {j3 : Option ev_V} {j4 : Option ev_V} {j5 : Option ev_V} {q : ev_M}, k16 s x1 x2 = some q → RR 391 16 [oR 549 0, oI x1, oI x2, j3, j4, j5] [] s (cvV q)) (hk34 : ∀ {s : ev_M} {x1 : Int32} {x3 : Int32} {x4 : Int32} {j2 : Option ev_V} {j5 : Option ev_V} {q : ev_M}, k34 s x1 x3 x4 = some q → RR 391 34 [oR 549 0, oI x1, j2, oI x3, oI x4, j5] [] s (cvV q)) {s : ev_M} {x1 : Int32} {x3 : Int32} {x4 : Int32} {j2 : Option ev_V} {j5 : Option ev_V} {q : ev_M} (h : fM_findLines_b101 k16 k34 s x1 x3 x4 = some q) : RR 391 101 [oR 549 0, oI x1, j2, oI x3, oI x4, j5] [] s (cvV q) := by
  exact rg_step 1 (G' := fun f => evT f 391 102 [oR 549 0, oI x1, nn, oI x3, oI x4, nn] [vI x3] s) (fun _ => rfl) ((t_fM_findLines_b102 hk16 hk34) h)
theorem t_fM_findLines_b70 {k16 : ev_M → Int32 → Int32 → Option ev_M} {k34 : ev_M → Int32 → Int32 → Int32 → Option ev_M} (hk16 : ∀ {s : ev_M} {x1 : Int32} {x2 : Int32} {j3 : Option ev_V} {j4 : Option ev_V} {j5 : Option ev_V} {q : ev_M}, k16 s x1 x2 = some q → RR 391 16 [oR 549 0, oI x1, oI x2, j3, j4, j5] [] s (cvV q)) (hk34 : ∀ {s : ev_M} {x1 : Int32} {x3 : Int32} {x4 : Int32} {j2 : Option ev_V} {j5 : Option ev_V} {q : ev_M}, k34 s x1 x3 x4 = some q → RR 391 34 [oR 549 0, oI x1, j2, oI x3, oI x4, j5] [] s (cvV q)) {s : ev_M} {x1 : Int32} {x3 : Int32} {x4 : Int32} {y0 : Int32} {j2 : Option ev_V} {j5 : Option ev_V} {q : ev_M} (h : fM_findLines_b70 k16 k34 s x1 x3 x4 y0 = some q) : RR 391 70 [oR 549 0, oI x1, j2, oI x3, oI x4, j5] [vI y0] s (cvV q) := by
  refine rg_step 3 (G' := fun f => if y0 = 0 then evT f 391 101 [oR 549 0, oI x1, nn, oI x3, oI x4, oI y0] [] s else evT f 391 77 [oR 549 0, oI x1, nn, oI x3, oI x4, oI y0] [] s) (fun _ => rfl) (rg_if h (fun h => ?_) fun h => ?_)
  · exact (t_fM_findLines_b101 hk16 hk34) h
  · refine rg_step 3 (G' := fun f => if x3 = (cI (-1)) then evT f 391 96 [oR 549 0, oI x1, nn, oI x3, oI x4, oI y0] [] s else evT f 391 82 [oR 549 0, oI x1, nn, oI x3, oI x4, oI y0] [] s) (fun _ => rfl) (rg_if h (fun h => ?_) fun h => ?_)
    · exact (t_fM_findLines_b96 hk16 hk34) h
    · refine rg_step 3 (G' := fun f => ev_after (evT f 387 0 [oR 549 0, oI x4, nn, nn] [] s) (fun q => evT f 391 88 [oR 549 0, oI x1, nn, oI x3, oI x4, oI y0] (q.2 ++ []) q.1)) (fun _ => rfl) (rg_bd1 h fun v1 hc h => rg_call (q := cvP s v1) (T_fM_topOf hc) ?_)
      refine rg_step 3 (G' := fun f => ev_after (evT f 387 0 [oR 549 0, oI x3, nn, nn] [] s) (fun q => evT f 391 93 [oR 549 0, oI x1, nn, oI x3, oI x4, oI y0] (q.2 ++ [vI v1]) q.1)) (fun _ => rfl) (rg_bd1 h fun v2 hc h => rg_call (q := cvP s v2) (T_fM_topOf hc) ?_)
      refine rg_step 1 (G' := fun f => if v1 < v2 then evT f 391 96 [oR 549 0, oI x1, nn, oI x3, oI x4, oI y0] [] s else evT f 391 101 [oR 549 0, oI x1, nn, oI x3, oI x4, oI y0] [] s) (fun _ => rfl) (rg_if h (fun h => ?_) fun h => ?_)
      · exact (t_fM_findLines_b96 hk16 hk34) h
      · exact (t_fM_findLines_b101 hk16 hk34) h
theorem t_fM_findLines_b69 {k16 : ev_M → Int32 → Int32 → Option ev_M} {k34 : ev_M → Int32 → Int32 → Int32 → Option ev_M} (hk16 : ∀ {s : ev_M} {x1 : Int32} {x2 : Int32} {j3 : Option ev_V} {j4 : Option ev_V} {j5 : Option ev_V} {q : ev_M}, k16 s x1 x2 = some q → RR 391 16 [oR 549 0, oI x1, oI x2, j3, j4, j5] [] s (cvV q)) (hk34 : ∀ {s : ev_M} {x1 : Int32} {x3 : Int32} {x4 : Int32} {j2 : Option ev_V} {j5 : Option ev_V} {q : ev_M}, k34 s x1 x3 x4 = some q → RR 391 34 [oR 549 0, oI x1, j2, oI x3, oI x4, j5] [] s (cvV q)) {s : ev_M} {x1 : Int32} {x3 : Int32} {x4 : Int32} {j2 : Option ev_V} {j5 : Option ev_V} {q : ev_M} (h : fM_findLines_b69 k16 k34 s x1 x3 x4 = some q) : RR 391 69 [oR 549 0, oI x1, j2, oI x3, oI x4, j5] [] s (cvV q) := by
  exact rg_step 1 (G' := fun f => evT f 391 70 [oR 549 0, oI x1, nn, oI x3, oI x4, nn] [vI (cI 0)] s) (fun _ => rfl) ((t_fM_findLines_b70 hk16 hk34) h)
theorem t_fM_findLines_b135 {k16 : ev_M → Int32 → Int32 → Option ev_M} (hk16 : ∀ {s : ev_M} {x1 : Int32} {x2 : Int32} {j3 : Option ev_V} {j4 : Option ev_V} {j5 : Option ev_V} {q : ev_M}, k16 s x1 x2 = some q → RR 391 16 [oR 549 0, oI x1, oI x2, j3, j4, j5] [] s (cvV q)) {s : ev_M} {x1 : Int32} {x2 : Int32} {j3 : Option ev_V} {j4 : Option ev_V} {j5 : Option ev_V} {q : ev_M} (h : fM_findLines_b135 k16 s x1 x2 = some q) : RR 391 135 [oR 549 0, oI x1, oI x2, j3, j4, j5] [] s (cvV q) := by
  exact rg_step 1 (G' := fun f => evT f 391 16 [oR 549 0, oI x1, oI x2, nn, nn, nn] [] s) (fun _ => rfl) (hk16 h)
theorem t_fM_findLines_b119 {k16 : ev_M → Int32 → Int32 → Option ev_M} (hk16 : ∀ {s : ev_M} {x1 : Int32} {x2 : Int32} {j3 : Option ev_V} {j4 : Option ev_V} {j5 : Option ev_V} {q : ev_M}, k16 s x1 x2 = some q → RR 391 16 [oR 549 0, oI x1, oI x2, j3, j4, j5] [] s (cvV q)) {s : ev_M} {x1 : Int32} {x3 : Int32} {y0 : Int32} {j2 : Option ev_V} {j4 : Option ev_V} {j5 : Option ev_V} {q : ev_M} (h : fM_findLines_b119 k16 s x1 x3 y0 = some q) : RR 391 119 [oR 549 0, oI x1, j2, oI x3, j4, j5] [vI y0] s (cvV q) := by
  refine rg_step 3 (G' := fun f => if y0 = 0 then evT f 391 135 [oR 549 0, oI x1, oI y0, oI x3, nn, nn] [] s else evT f 391 124 [oR 549 0, oI x1, oI y0, oI x3, nn, nn] [] s) (fun _ => rfl) (rg_if h (fun h => ?_) fun h => ?_)
  · exact (t_fM_findLines_b135 hk16) h
  · refine rg_step 3 (G' := fun f => ev_after (evT f 387 0 [oR 549 0, oI x3, nn, nn] [] s) (fun q => evT f 391 129 [oR 549 0, oI x1, oI y0, oI x3, nn, nn] (q.2 ++ []) q.1)) (fun _ => rfl) (rg_bd1 h fun v3 hc h => rg_call (q := cvP s v3) (T_fM_topOf hc) ?_)
    refine rg_step 4 (G' := fun f => ev_after (evT f 390 0 [oR 549 0, oI x3, nn, nn, nn, nn, nn] [] s) (fun q => evT f 391 135 [oR 549 0, oI v3, oI y0, oI x3, nn, nn] (q.2 ++ []) q.1)) (fun _ => rfl) (rg_bd1 h fun s4 hc h => rg_call (q := cvV s4) (T_fM_lay hc) ?_)
    exact (t_fM_findLines_b135 hk16) h
theorem ti_fM_findLines_h34 {k16 : ev_M → Int32 → Int32 → Option ev_M} (hk16 : ∀ {s : ev_M} {x1 : Int32} {x2 : Int32} {j3 : Option ev_V} {j4 : Option ev_V} {j5 : Option ev_V} {q : ev_M}, k16 s x1 x2 = some q → RR 391 16 [oR 549 0, oI x1, oI x2, j3, j4, j5] [] s (cvV q)) : ∀ (n : Nat) (s : ev_M) (x1 : Int32) (x3 : Int32) (x4 : Int32) (j2 : Option ev_V) (j5 : Option ev_V) (q : ev_M), fM_findLines_h34 k16 n s x1 x3 x4 = some q → RR 391 34 [oR 549 0, oI x1, j2, oI x3, oI x4, j5] [] s (cvV q) := by
  intro n
  induction n with
  | zero => intro s x1 x3 x4 j2 j5 q h; cases h
  | succ n ih =>
    have hk34 : ∀ {s : ev_M} {x1 : Int32} {x3 : Int32} {x4 : Int32} {j2 : Option ev_V} {j5 : Option ev_V} {q : ev_M}, fM_findLines_h34 k16 n s x1 x3 x4 = some q → RR 391 34 [oR 549 0, oI x1, j2, oI x3, oI x4, j5] [] s (cvV q) := fun h => ih _ _ _ _ _ _ _ h
    intro s x1 x3 x4 j2 j5 q h
    refine rg_step 4 (G' := fun f => if x4 < (s.1 549 146) then evT f 391 43 [oR 549 0, oI x1, nn, oI x3, oI x4, nn] [] s else evT f 391 109 [oR 549 0, oI x1, nn, oI x3, oI x4, nn] [] s) (fun _ => rfl) (rg_if h (fun h => ?_) fun h => ?_)
    · refine rg_step 4 (G' := fun f => if inb x4 200 = true then evT f 391 50 [oR 549 0, oI x1, nn, oI x3, oI x4, nn] [vI (s.1 656 (ix x4))] s else none) (fun _ => rfl) (rg_gd h fun h => ?_)
      refine rg_step 2 (G' := fun f => if (s.1 656 (ix x4)) = x4 then evT f 391 55 [oR 549 0, oI x1, nn, oI x3, oI x4, nn] [] s else evT f 391 69 [oR 549 0, oI x1, nn, oI x3, oI x4, nn] [] s) (fun _ => rfl) (rg_if h (fun h => ?_) fun h => ?_)
      · refine rg_step 3 (G' := fun f => ev_after (evT f 387 0 [oR 549 0, oI x4, nn, nn] [] s) (fun q => evT f 391 61 [oR 549 0, oI x1, nn, oI x3, oI x4, nn] (q.2 ++ []) q.1)) (fun _ => rfl) (rg_bd1 h fun v5 hc h => rg_call (q := cvP s v5) (T_fM_topOf hc) ?_)
        refine rg_step 2 (G' := fun f => if v5 ≤ x1 then evT f 391 69 [oR 549 0, oI x1, nn, oI x3, oI x4, nn] [] s else evT f 391 65 [oR 549 0, oI x1, nn, oI x3, oI x4, nn] [] s) (fun _ => rfl) (rg_if h (fun h => ?_) fun h => ?_)
        · exact (t_fM_findLines_b69 hk16 hk34) h
        · exact rg_step 2 (G' := fun f => evT f 391 70 [oR 549 0, oI x1, nn, oI x3, oI x4, nn] [vI (cI 1)] s) (fun _ => rfl) ((t_fM_findLines_b70 hk16 hk34) h)
      · exact (t_fM_findLines_b69 hk16 hk34) h
    · refine rg_step 3 (G' := fun f => if x3 = (cI (-1)) then evT f 391 118 [oR 549 0, oI x1, nn, oI x3, oI x4, nn] [] s else evT f 391 114 [oR 549 0, oI x1, nn, oI x3, oI x4, nn] [] s) (fun _ => rfl) (rg_if h (fun h => ?_) fun h => ?_)
      · exact rg_step 1 (G' := fun f => evT f 391 119 [oR 549 0, oI x1, nn, oI x3, oI x4, nn] [vI (cI 0)] s) (fun _ => rfl) ((t_fM_findLines_b119 hk16) h)
      · exact rg_step 2 (G' := fun f => evT f 391 119 [oR 549 0, oI x1, nn, oI x3, oI x4, nn] [vI (cI 1)] s) (fun _ => rfl) ((t_fM_findLines_b119 hk16) h)
theorem t_fM_findLines_h34 {k16 : ev_M → Int32 → Int32 → Option ev_M} (hk16 : ∀ {s : ev_M} {x1 : Int32} {x2 : Int32} {j3 : Option ev_V} {j4 : Option ev_V} {j5 : Option ev_V} {q : ev_M}, k16 s x1 x2 = some q → RR 391 16 [oR 549 0, oI x1, oI x2, j3, j4, j5] [] s (cvV q)) {n : Nat} {s : ev_M} {x1 : Int32} {x3 : Int32} {x4 : Int32} {j2 : Option ev_V} {j5 : Option ev_V} {q : ev_M} (h : fM_findLines_h34 k16 n s x1 x3 x4 = some q) : RR 391 34 [oR 549 0, oI x1, j2, oI x3, oI x4, j5] [] s (cvV q) := ti_fM_findLines_h34 hk16 n s x1 x3 x4 j2 j5 q h
theorem ti_fM_findLines_h16 : ∀ (n : Nat) (s : ev_M) (x1 : Int32) (x2 : Int32) (j3 : Option ev_V) (j4 : Option ev_V) (j5 : Option ev_V) (q : ev_M), fM_findLines_h16 n s x1 x2 = some q → RR 391 16 [oR 549 0, oI x1, oI x2, j3, j4, j5] [] s (cvV q) := by
  intro n
  induction n with
  | zero => intro s x1 x2 j3 j4 j5 q h; cases h
  | succ n ih =>
    have hk16 : ∀ {s : ev_M} {x1 : Int32} {x2 : Int32} {j3 : Option ev_V} {j4 : Option ev_V} {j5 : Option ev_V} {q : ev_M}, fM_findLines_h16 n s x1 x2 = some q → RR 391 16 [oR 549 0, oI x1, oI x2, j3, j4, j5] [] s (cvV q) := fun h => ih _ _ _ _ _ _ _ h
    intro s x1 x2 j3 j4 j5 q h
    refine rg_step 2 (G' := fun f => if x2 = 0 then evT f 391 138 [oR 549 0, oI x1, oI x2, nn, nn, nn] [] s else evT f 391 20 [oR 549 0, oI x1, oI x2, nn, nn, nn] [] s) (fun _ => rfl) (rg_if h (fun h => ?_) fun h => ?_)
    · exact rg_end 1 (fun _ => rfl) (by cases h; rfl)
    · refine rg_step 4 (G' := fun f => if (s.1 549 51) < (cI 10) then evT f 391 29 [oR 549 0, oI x1, oI x2, nn, nn, nn] [] s else evT f 391 138 [oR 549 0, oI x1, oI x2, nn, nn, nn] [] s) (fun _ => rfl) (rg_if h (fun h => ?_) fun h => ?_)
      · exact rg_step 4 (G' := fun f => evT f 391 34 [oR 549 0, oI x1, oI x2, oI (cI (-1)), oI (cI 0), nn] [] s) (fun _ => rfl) ((t_fM_findLines_h34 hk16) h)
      · exact rg_end 1 (fun _ => rfl) (by cases h; rfl)
theorem t_fM_findLines_h16 {n : Nat} {s : ev_M} {x1 : Int32} {x2 : Int32} {j3 : Option ev_V} {j4 : Option ev_V} {j5 : Option ev_V} {q : ev_M} (h : fM_findLines_h16 n s x1 x2 = some q) : RR 391 16 [oR 549 0, oI x1, oI x2, j3, j4, j5] [] s (cvV q) := ti_fM_findLines_h16 n s x1 x2 j3 j4 j5 q h
theorem T_fM_findLines {s : ev_M} {q : ev_M} (h : fM_findLines s = some q) : RR 391 0 [oR 549 0, nn, nn, nn, nn, nn] [] s (cvV q) := by
  refine rg_step 3 (G' := fun f => evT f 391 5 [oR 549 0, nn, nn, nn, nn, nn] [] (wI s 549 51 (cI 0))) (fun _ => rfl) (rg_ltM h fun s6 h => ?_)
  refine rg_step 5 (G' := fun f => evT f 391 12 [oR 549 0, nn, nn, nn, nn, nn] [] (wI s6 577 (ix (cI 0)) (cI 0))) (fun _ => rfl) (rg_ltM h fun s7 h => ?_)
  exact rg_step 4 (G' := fun f => evT f 391 16 [oR 549 0, oI (cI (-1)), oI (cI 1), nn, nn, nn] [] s7) (fun _ => rfl) ((t_fM_findLines_h16) h)
theorem t_fM_nearest_b119 {s : ev_M} {k13 : Int32 → Int32 → Int32 → Int32 → Int32 → Int32 → Int32 → Option Int32} (hk13 : ∀ {x1 : Int32} {x2 : Int32} {x3 : Int32} {x4 : Int32} {x5 : Int32} {x6 : Int32} {x7 : Int32} {j8 : Option ev_V} {j9 : Option ev_V} {j10 : Option ev_V} {q : Int32}, k13 x1 x2 x3 x4 x5 x6 x7 = some q → RR 392 13 [oR 549 0, oI x1, oI x2, oI x3, oI x4, oI x5, oI x6, oI x7, j8, j9, j10] [] s (cvP s q)) {x1 : Int32} {x2 : Int32} {x3 : Int32} {x5 : Int32} {x6 : Int32} {x7 : Int32} {y0 : Int32} {j4 : Option ev_V} {j8 : Option ev_V} {j9 : Option ev_V} {j10 : Option ev_V} {q : Int32} (h : fM_nearest_b119 s k13 x1 x2 x3 x5 x6 x7 y0 = some q) : RR 392 119 [oR 549 0, oI x1, oI x2, oI x3, j4, oI x5, oI x6, oI x7, j8, j9, j10] [vI y0] s (cvP s q) := by
  exact rg_step 3 (G' := fun f => evT f 392 13 [oR 549 0, oI x1, oI x2, oI x3, oI y0, oI x5, oI x6, oI (x7 + cI 1), nn, nn, nn] [] s) (fun _ => rfl) (hk13 h)
theorem t_fM_nearest_b103 {s : ev_M} {k13 : Int32 → Int32 → Int32 → Int32 → Int32 → Int32 → Int32 → Option Int32} (hk13 : ∀ {x1 : Int32} {x2 : Int32} {x3 : Int32} {x4 : Int32} {x5 : Int32} {x6 : Int32} {x7 : Int32} {j8 : Option ev_V} {j9 : Option ev_V} {j10 : Option ev_V} {q : Int32}, k13 x1 x2 x3 x4 x5 x6 x7 = some q → RR 392 13 [oR 549 0, oI x1, oI x2, oI x3, oI x4, oI x5, oI x6, oI x7, j8, j9, j10] [] s (cvP s q)) {x1 : Int32} {x2 : Int32} {x3 : Int32} {x4 : Int32} {x6 : Int32} {x7 : Int32} {x9 : Int32} {y0 : Int32} {j5 : Option ev_V} {j8 : Option ev_V} {j10 : Option ev_V} {q : Int32} (h : fM_nearest_b103 s k13 x1 x2 x3 x4 x6 x7 x9 y0 = some q) : RR 392 103 [oR 549 0, oI x1, oI x2, oI x3, oI x4, j5, oI x6, oI x7, j8, oI x9, j10] [vI y0] s (cvP s q) := by
  refine rg_step 4 (G' := fun f => if x9 < x4 then evT f 392 112 [oR 549 0, oI x1, oI x2, oI x3, oI x4, oI y0, oI x6, oI x7, nn, oI x9, nn] [] s else evT f 392 117 [oR 549 0, oI x1, oI x2, oI x3, oI x4, oI y0, oI x6, oI x7, nn, oI x9, nn] [] s) (fun _ => rfl) (rg_if h (fun h => ?_) fun h => ?_)
  · exact rg_step 2 (G' := fun f => evT f 392 119 [oR 549 0, oI x1, oI x2, oI x3, oI x4, oI y0, oI x6, oI x7, nn, oI x9, nn] [vI x9] s) (fun _ => rfl) ((t_fM_nearest_b119 hk13) h)
  · exact rg_step 1 (G' := fun f => evT f 392 119 [oR 549 0, oI x1, oI x2, oI x3, oI x4, oI y0, oI x6, oI x7, nn, oI x9, nn] [vI x4] s) (fun _ => rfl) ((t_fM_nearest_b119 hk13) h)
theorem t_fM_nearest_b85 {s : ev_M} {k13 : Int32 → Int32 → Int32 → Int32 → Int32 → Int32 → Int32 → Option Int32} (hk13 : ∀ {x1 : Int32} {x2 : Int32} {x3 : Int32} {x4 : Int32} {x5 : Int32} {x6 : Int32} {x7 : Int32} {j8 : Option ev_V} {j9 : Option ev_V} {j10 : Option ev_V} {q : Int32}, k13 x1 x2 x3 x4 x5 x6 x7 = some q → RR 392 13 [oR 549 0, oI x1, oI x2, oI x3, oI x4, oI x5, oI x6, oI x7, j8, j9, j10] [] s (cvP s q)) {x1 : Int32} {x2 : Int32} {x3 : Int32} {x4 : Int32} {x5 : Int32} {x7 : Int32} {x9 : Int32} {y0 : Int32} {j6 : Option ev_V} {j8 : Option ev_V} {j10 : Option ev_V} {q : Int32} (h : fM_nearest_b85 s k13 x1 x2 x3 x4 x5 x7 x9 y0 = some q) : RR 392 85 [oR 549 0, oI x1, oI x2, oI x3, oI x4, oI x5, j6, oI x7, j8, oI x9, j10] [vI y0] s (cvP s q) := by
  refine rg_step 4 (G' := fun f => if x9 < x4 then evT f 392 94 [oR 549 0, oI x1, oI x2, oI x3, oI x4, oI x5, oI y0, oI x7, nn, oI x9, nn] [] s else evT f 392 101 [oR 549 0, oI x1, oI x2, oI x3, oI x4, oI x5, oI y0, oI x7, nn, oI x9, nn] [] s) (fun _ => rfl) (rg_if h (fun h => ?_) fun h => ?_)
  · exact rg_step 4 (G' := fun f => evT f 392 103 [oR 549 0, oI x1, oI x2, oI x3, oI x4, oI x5, oI y0, oI x7, nn, oI x9, nn] [vI (x7 - x2)] s) (fun _ => rfl) ((t_fM_nearest_b103 hk13) h)
  · exact rg_step 1 (G' := fun f => evT f 392 103 [oR 549 0, oI x1, oI x2, oI x3, oI x4, oI x5, oI y0, oI x7, nn, oI x9, nn] [vI x5] s) (fun _ => rfl) ((t_fM_nearest_b103 hk13) h)
theorem t_fM_nearest_b80 {s : ev_M} {k13 : Int32 → Int32 → Int32 → Int32 → Int32 → Int32 → Int32 → Option Int32} (hk13 : ∀ {x1 : Int32} {x2 : Int32} {x3 : Int32} {x4 : Int32} {x5 : Int32} {x6 : Int32} {x7 : Int32} {j8 : Option ev_V} {j9 : Option ev_V} {j10 : Option ev_V} {q : Int32}, k13 x1 x2 x3 x4 x5 x6 x7 = some q → RR 392 13 [oR 549 0, oI x1, oI x2, oI x3, oI x4, oI x5, oI x6, oI x7, j8, j9, j10] [] s (cvP s q)) {x1 : Int32} {x2 : Int32} {x3 : Int32} {x4 : Int32} {x5 : Int32} {x7 : Int32} {x9 : Int32} {j6 : Option ev_V} {j8 : Option ev_V} {j10 : Option ev_V} {q : Int32} (h : fM_nearest_b80 s k13 x1 x2 x3 x4 x5 x7 x9 = some q) : RR 392 80 [oR 549 0, oI x1, oI x2, oI x3, oI x4, oI x5, j6, oI x7, j8, oI x9, j10] [] s (cvP s q) := by
  exact rg_step 2 (G' := fun f => evT f 392 85 [oR 549 0, oI x1, oI x2, oI x3, oI x4, oI x5, nn, oI x7, nn, oI x9, nn] [vI (cI 1)] s) (fun _ => rfl) ((t_fM_nearest_b85 hk13) h)
theorem t_fM_nearest_b84 {s : ev_M} {k13 : Int32 → Int32 → Int32 → Int32 → Int32 → Int32 → Int32 → Option Int32} (hk13 : ∀ {x1 : Int32} {x2 : Int32} {x3 : Int32} {x4 : Int32} {x5 : Int32} {x6 : Int32} {x7 : Int32} {j8 : Option ev_V} {j9 : Option ev_V} {j10 : Option ev_V} {q : Int32}, k13 x1 x2 x3 x4 x5 x6 x7 = some q → RR 392 13 [oR 549 0, oI x1, oI x2, oI x3, oI x4, oI x5, oI x6, oI x7, j8, j9, j10] [] s (cvP s q)) {x1 : Int32} {x2 : Int32} {x3 : Int32} {x4 : Int32} {x5 : Int32} {x7 : Int32} {x9 : Int32} {j6 : Option ev_V} {j8 : Option ev_V} {j10 : Option ev_V} {q : Int32} (h : fM_nearest_b84 s k13 x1 x2 x3 x4 x5 x7 x9 = some q) : RR 392 84 [oR 549 0, oI x1, oI x2, oI x3, oI x4, oI x5, j6, oI x7, j8, oI x9, j10] [] s (cvP s q) := by
  exact rg_step 1 (G' := fun f => evT f 392 85 [oR 549 0, oI x1, oI x2, oI x3, oI x4, oI x5, nn, oI x7, nn, oI x9, nn] [vI (cI 0)] s) (fun _ => rfl) ((t_fM_nearest_b85 hk13) h)
theorem ti_fM_nearest_h36 {s : ev_M} {k13 : Int32 → Int32 → Int32 → Int32 → Int32 → Int32 → Int32 → Option Int32} (hk13 : ∀ {x1 : Int32} {x2 : Int32} {x3 : Int32} {x4 : Int32} {x5 : Int32} {x6 : Int32} {x7 : Int32} {j8 : Option ev_V} {j9 : Option ev_V} {j10 : Option ev_V} {q : Int32}, k13 x1 x2 x3 x4 x5 x6 x7 = some q → RR 392 13 [oR 549 0, oI x1, oI x2, oI x3, oI x4, oI x5, oI x6, oI x7, j8, j9, j10] [] s (cvP s q)) : ∀ (n : Nat) (x1 : Int32) (x2 : Int32) (x3 : Int32) (x4 : Int32) (x5 : Int32) (x6 : Int32) (x7 : Int32) (x8 : Int32) (x9 : Int32) (x10 : Int32) (q : Int32), fM_nearest_h36 s k13 n x1 x2 x3 x4 x5 x6 x7 x8 x9 x10 = some q → RR 392 36 [oR 549 0, oI x1, oI x2, oI x3, oI x4, oI x5, oI x6, oI x7, oI x8, oI x9, oI x10] [] s (cvP s q) := by
  intro n
  induction n with
  | zero => intro x1 x2 x3 x4 x5 x6 x7 x8 x9 x10 q h; cases h
  | succ n ih =>
    have hk36 : ∀ {x1 : Int32} {x2 : Int32} {x3 : Int32} {x4 : Int32} {x5 : Int32} {x6 : Int32} {x7 : Int32} {x8 : Int32} {x9 : Int32} {x10 : Int32} {q : Int32}, fM_nearest_h36 s k13 n x1 x2 x3 x4 x5 x6 x7 x8 x9 x10 = some q → RR 392 36 [oR 549 0, oI x1, oI x2, oI x3, oI x4, oI x5, oI x6, oI x7, oI x8, oI x9, oI x10] [] s (cvP s q) := fun h => ih _ _ _ _ _ _ _ _ _ _ _ h
    intro x1 x2 x3 x4 x5 x6 x7 x8 x9 x10 q h
    refine rg_step 3 (G' := fun f => if x10 < (cI 15) then evT f 392 43 [oR 549 0, oI x1, oI x2, oI x3, oI x4, oI x5, oI x6, oI x7, oI x8, oI x9, oI x10] [] s else evT f 392 61 [oR 549 0, oI x1, oI x2, oI x3, oI x4, oI x5, oI x6, oI x7, oI x8, oI x9, oI x10] [] s) (fun _ => rfl) (rg_if h (fun h => ?_) fun h => ?_)
    · refine rg_step 8 (G' := fun f => evT f 392 55 [oR 549 0, oI x1, oI x2, oI x3, oI x4, oI x5, oI x6, oI x7, oI x8, oI (x9 + ((x8 >>> (x10 &&& 31)) &&& (cI 1))), oI x10] [] s) (fun _ => rfl) (rg_ltI (P := fun v1 => RG (fun f => evT f 392 55 [oR 549 0, oI x1, oI x2, oI x3, oI x4, oI x5, oI x6, oI x7, oI x8, oI v1, oI x10] [] s) (cvP s q)) h fun v1 h => ?_)
      exact rg_step 2 (G' := fun f => evT f 392 36 [oR 549 0, oI x1, oI x2, oI x3, oI x4, oI x5, oI x6, oI x7, oI x8, oI v1, oI (x10 + cI 1)] [] s) (fun _ => rfl) (hk36 h)
    · refine rg_step 3 (G' := fun f => if x9 = x4 then evT f 392 80 [oR 549 0, oI x1, oI x2, oI x3, oI x4, oI x5, oI x6, oI x7, oI x8, oI x9, oI x10] [] s else evT f 392 68 [oR 549 0, oI x1, oI x2, oI x3, oI x4, oI x5, oI x6, oI x7, oI x8, oI x9, oI x10] [] s) (fun _ => rfl) (rg_if h (fun h => ?_) fun h => ?_)
      · exact (t_fM_nearest_b80 hk13) h
      · refine rg_step 2 (G' := fun f => if x6 = 0 then evT f 392 84 [oR 549 0, oI x1, oI x2, oI x3, oI x4, oI x5, oI x6, oI x7, oI x8, oI x9, oI x10] [] s else evT f 392 73 [oR 549 0, oI x1, oI x2, oI x3, oI x4, oI x5, oI x6, oI x7, oI x8, oI x9, oI x10] [] s) (fun _ => rfl) (rg_if h (fun h => ?_) fun h => ?_)
        · exact (t_fM_nearest_b84 hk13) h
        · refine rg_step 3 (G' := fun f => if x9 ≤ x4 then evT f 392 84 [oR 549 0, oI x1, oI x2, oI x3, oI x4, oI x5, oI x6, oI x7, oI x8, oI x9, oI x10] [] s else evT f 392 80 [oR 549 0, oI x1, oI x2, oI x3, oI x4, oI x5, oI x6, oI x7, oI x8, oI x9, oI x10] [] s) (fun _ => rfl) (rg_if h (fun h => ?_) fun h => ?_)
          · exact (t_fM_nearest_b84 hk13) h
          · exact (t_fM_nearest_b80 hk13) h
theorem t_fM_nearest_h36 {s : ev_M} {k13 : Int32 → Int32 → Int32 → Int32 → Int32 → Int32 → Int32 → Option Int32} (hk13 : ∀ {x1 : Int32} {x2 : Int32} {x3 : Int32} {x4 : Int32} {x5 : Int32} {x6 : Int32} {x7 : Int32} {j8 : Option ev_V} {j9 : Option ev_V} {j10 : Option ev_V} {q : Int32}, k13 x1 x2 x3 x4 x5 x6 x7 = some q → RR 392 13 [oR 549 0, oI x1, oI x2, oI x3, oI x4, oI x5, oI x6, oI x7, j8, j9, j10] [] s (cvP s q)) {n : Nat} {x1 : Int32} {x2 : Int32} {x3 : Int32} {x4 : Int32} {x5 : Int32} {x6 : Int32} {x7 : Int32} {x8 : Int32} {x9 : Int32} {x10 : Int32} {q : Int32} (h : fM_nearest_h36 s k13 n x1 x2 x3 x4 x5 x6 x7 x8 x9 x10 = some q) : RR 392 36 [oR 549 0, oI x1, oI x2, oI x3, oI x4, oI x5, oI x6, oI x7, oI x8, oI x9, oI x10] [] s (cvP s q) := ti_fM_nearest_h36 hk13 n x1 x2 x3 x4 x5 x6 x7 x8 x9 x10 q h
theorem t_fM_nearest_b138 {s : ev_M} {j0 : Option ev_V} {j1 : Option ev_V} {j2 : Option ev_V} {j3 : Option ev_V} {j4 : Option ev_V} {j5 : Option ev_V} {j6 : Option ev_V} {j7 : Option ev_V} {j8 : Option ev_V} {j9 : Option ev_V} {j10 : Option ev_V} {q : Int32} (h : fM_nearest_b138 s = some q) : RR 392 138 [j0, j1, j2, j3, j4, j5, j6, j7, j8, j9, j10] [] s (cvP s q) := by
  exact rg_end 3 (fun _ => rfl) (by cases h; rfl)
theorem ti_fM_nearest_h13 {s : ev_M} : ∀ (n : Nat) (x1 : Int32) (x2 : Int32) (x3 : Int32) (x4 : Int32) (x5 : Int32) (x6 : Int32) (x7 : Int32) (j8 : Option ev_V) (j9 : Option ev_V) (j10 : Option ev_V) (q : Int32), fM_nearest_h13 s n x1 x2 x3 x4 x5 x6 x7 = some q → RR 392 13 [oR 549 0, oI x1, oI x2, oI x3, oI x4, oI x5, oI x6, oI x7, j8, j9, j10] [] s (cvP s q) := by
  intro n
  induction n with
  | zero => intro x1 x2 x3 x4 x5 x6 x7 j8 j9 j10 q h; cases h
  | succ n ih =>
    have hk13 : ∀ {x1 : Int32} {x2 : Int32} {x3 : Int32} {x4 : Int32} {x5 : Int32} {x6 : Int32} {x7 : Int32} {j8 : Option ev_V} {j9 : Option ev_V} {j10 : Option ev_V} {q : Int32}, fM_nearest_h13 s n x1 x2 x3 x4 x5 x6 x7 = some q → RR 392 13 [oR 549 0, oI x1, oI x2, oI x3, oI x4, oI x5, oI x6, oI x7, j8, j9, j10] [] s (cvP s q) := fun h => ih _ _ _ _ _ _ _ _ _ _ _ h
    intro x1 x2 x3 x4 x5 x6 x7 j8 j9 j10 q h
    refine rg_step 3 (G' := fun f => if x7 < x3 then evT f 392 19 [oR 549 0, oI x1, oI x2, oI x3, oI x4, oI x5, oI x6, oI x7, nn, nn, nn] [] s else evT f 392 127 [oR 549 0, oI x1, oI x2, oI x3, oI x4, oI x5, oI x6, oI x7, nn, nn, nn] [] s) (fun _ => rfl) (rg_if h (fun h => ?_) fun h => ?_)
    · refine rg_step 4 (G' := fun f => if inb x7 36 = true then evT f 392 26 [oR 549 0, oI x1, oI x2, oI x3, oI x4, oI x5, oI x6, oI x7, nn, nn, nn] [vI (s.1 657 (ix x7))] s else none) (fun _ => rfl) (rg_gd h fun h => ?_)
      refine rg_step 3 (G' := fun f => evT f 392 30 [oR 549 0, oI x1, oI x2, oI x3, oI x4, oI x5, oI x6, oI x7, oI ((s.1 657 (ix x7)) ^^^ x1), nn, nn] [] s) (fun _ => rfl) (rg_ltI (P := fun v2 => RG (fun f => evT f 392 30 [oR 549 0, oI x1, oI x2, oI x3, oI x4, oI x5, oI x6, oI x7, oI v2, nn, nn] [] s) (cvP s q)) h fun v2 h => ?_)
      exact rg_step 4 (G' := fun f => evT f 392 36 [oR 549 0, oI x1, oI x2, oI x3, oI x4, oI x5, oI x6, oI x7, oI v2, oI (cI 0), oI (cI 0)] [] s) (fun _ => rfl) ((t_fM_nearest_h36 hk13) h)
    · refine rg_step 3 (G' := fun f => if x4 ≤ (cI 3) then evT f 392 133 [oR 549 0, oI x1, oI x2, oI x3, oI x4, oI x5, oI x6, oI x7, nn, nn, nn] [] s else evT f 392 138 [oR 549 0, oI x1, oI x2, oI x3, oI x4, oI x5, oI x6, oI x7, nn, nn, nn] [] s) (fun _ => rfl) (rg_if h (fun h => ?_) fun h => ?_)
      · refine rg_step 2 (G' := fun f => if x6 = 0 then evT f 392 142 [oR 549 0, oI x1, oI x2, oI x3, oI x4, oI x5, oI x6, oI x7, nn, nn, nn] [] s else evT f 392 138 [oR 549 0, oI x1, oI x2, oI x3, oI x4, oI x5, oI x6, oI x7, nn, nn, nn] [] s) (fun _ => rfl) (rg_if h (fun h => ?_) fun h => ?_)
        · exact rg_end 2 (fun _ => rfl) (by cases h; rfl)
        · exact (t_fM_nearest_b138) h
      · exact (t_fM_nearest_b138) h
theorem t_fM_nearest_h13 {s : ev_M} {n : Nat} {x1 : Int32} {x2 : Int32} {x3 : Int32} {x4 : Int32} {x5 : Int32} {x6 : Int32} {x7 : Int32} {j8 : Option ev_V} {j9 : Option ev_V} {j10 : Option ev_V} {q : Int32} (h : fM_nearest_h13 s n x1 x2 x3 x4 x5 x6 x7 = some q) : RR 392 13 [oR 549 0, oI x1, oI x2, oI x3, oI x4, oI x5, oI x6, oI x7, j8, j9, j10] [] s (cvP s q) := ti_fM_nearest_h13 n x1 x2 x3 x4 x5 x6 x7 j8 j9 j10 q h
theorem T_fM_nearest {s : ev_M} {a1 : Int32} {a2 : Int32} {a3 : Int32} {q : Int32} (h : fM_nearest s a1 a2 a3 = some q) : RR 392 0 [oR 549 0, oI a1, oI a2, oI a3, nn, nn, nn, nn, nn, nn, nn] [] s (cvP s q) := by
  exact rg_step 8 (G' := fun f => evT f 392 13 [oR 549 0, oI a1, oI a2, oI a3, oI (cI 16), oI (cI (-1)), oI (cI 0), oI a2, nn, nn, nn] [] s) (fun _ => rfl) ((t_fM_nearest_h13) h)
theorem t_fM_changes_b239 {k99 : ev_M → Int32 → Int32 → Int32 → Int32 → Option (ev_M × Int32)} {k146 : ev_M → Int32 → Int32 → Int32 → Int32 → Int32 → Int32 → Int32 → Option (ev_M × Int32)} (hk99 : ∀ {s : ev_M} {x3 : Int32} {x4 : Int32} {x5 : Int32} {x8 : Int32} {j1 : Option ev_V} {j2 : Option ev_V} {j6 : Option ev_V} {j7 : Option ev_V} {j9 : Option ev_V} {j10 : Option ev_V} {j11 : Option ev_V} {j12 : Option ev_V} {q : ev_M × Int32}, k99 s x3 x4 x5 x8 = some q → RR 395 99 [oR 549 0, j1, j2, oI x3, oI x4, oI x5, j6, j7, oI x8, j9, j10, j11, j12] [] s (cvI q)) (hk146 : ∀ {s : ev_M} {x3 : Int32} {x4 : Int32} {x5 : Int32} {x8 : Int32} {x9 : Int32} {x10 : Int32} {x11 : Int32} {j1 : Option ev_V} {j2 : Option ev_V} {j6 : Option ev_V} {j7 : Option ev_V} {j12 : Option ev_V} {q : ev_M × Int32}, k146 s x3 x4 x5 x8 x9 x10 x11 = some q → RR 395 146 [oR 549 0, j1, j2, oI x3, oI x4, oI x5, j6, j7, oI x8, oI x9, oI x10, oI x11, j12] [] s (cvI q)) {s : ev_M} {x3 : Int32} {x4 : Int32} {x5 : Int32} {x8 : Int32} {x9 : Int32} {x11 : Int32} {y0 : Int32} {j1 : Option ev_V} {j2 : Option ev_V} {j6 : Option ev_V} {j7 : Option ev_V} {j10 : Option ev_V} {j12 : Option ev_V} {q : ev_M × Int32} (h : fM_changes_b239 k99 k146 s x3 x4 x5 x8 x9 x11 y0 = some q) : RR 395 239 [oR 549 0, j1, j2, oI x3, oI x4, oI x5, j6, j7, oI x8, oI x9, j10, oI x11, j12] [vI y0] s (cvI q) := by
  refine rg_step 5 (G' := fun f => if inb x11 11 = true then evT f 395 248 [oR 549 0, nn, nn, oI x3, oI x4, oI x5, nn, nn, oI x8, oI x9, nn, oI x11, oI y0] [vI (s.1 659 (ix x11))] s else none) (fun _ => rfl) (rg_gd h fun h => ?_)
  refine rg_step 1 (G' := fun f => evT f 395 250 [oR 549 0, nn, nn, oI x3, oI x4, oI x5, nn, nn, oI x8, oI x9, oI (s.1 659 (ix x11)), oI x11, oI y0] [] s) (fun _ => rfl) (rg_ltI (P := fun v1 => RG (fun f => evT f 395 250 [oR 549 0, nn, nn, oI x3, oI x4, oI x5, nn, nn, oI x8, oI x9, oI v1, oI x11, oI y0] [] s) (cvI q)) h fun v1 h => ?_)
  refine rg_step 5 (G' := fun f => if inb x11 11 = true then evT f 395 259 [oR 549 0, nn, nn, oI x3, oI x4, oI x5, nn, nn, oI x8, oI x9, oI v1, oI x11, oI y0] [] (wI s 659 (ix x11) y0) else none) (fun _ => rfl) (rg_gd h fun h => rg_ltM h fun s2 h => ?_)
  exact rg_step 2 (G' := fun f => evT f 395 146 [oR 549 0, nn, nn, oI x3, oI x4, oI x5, nn, nn, oI x8, oI x9, oI v1, oI (x11 + cI 1), oI y0] [] s2) (fun _ => rfl) (hk146 h)
theorem t_fM_changes_b205 {k99 : ev_M → Int32 → Int32 → Int32 → Int32 → Option (ev_M × Int32)} {k146 : ev_M → Int32 → Int32 → Int32 → Int32 → Int32 → Int32 → Int32 → Option (ev_M × Int32)} (hk99 : ∀ {s : ev_M} {x3 : Int32} {x4 : Int32} {x5 : Int32} {x8 : Int32} {j1 : Option ev_V} {j2 : Option ev_V} {j6 : Option ev_V} {j7 : Option ev_V} {j9 : Option ev_V} {j10 : Option ev_V} {j11 : Option ev_V} {j12 : Option ev_V} {q : ev_M × Int32}, k99 s x3 x4 x5 x8 = some q → RR 395 99 [oR 549 0, j1, j2, oI x3, oI x4, oI x5, j6, j7, oI x8, j9, j10, j11, j12] [] s (cvI q)) (hk146 : ∀ {s : ev_M} {x3 : Int32} {x4 : Int32} {x5 : Int32} {x8 : Int32} {x9 : Int32} {x10 : Int32} {x11 : Int32} {j1 : Option ev_V} {j2 : Option ev_V} {j6 : Option ev_V} {j7 : Option ev_V} {j12 : Option ev_V} {q : ev_M × Int32}, k146 s x3 x4 x5 x8 x9 x10 x11 = some q → RR 395 146 [oR 549 0, j1, j2, oI x3, oI x4, oI x5, j6, j7, oI x8, oI x9, oI x10, oI x11, j12] [] s (cvI q)) {s : ev_M} {x3 : Int32} {x4 : Int32} {x5 : Int32} {x8 : Int32} {x9 : Int32} {x11 : Int32} {y0 : Int32} {j1 : Option ev_V} {j2 : Option ev_V} {j6 : Option ev_V} {j7 : Option ev_V} {j10 : Option ev_V} {j12 : Option ev_V} {q : ev_M × Int32} (h : fM_changes_b205 k99 k146 s x3 x4 x5 x8 x9 x11 y0 = some q) : RR 395 205 [oR 549 0, j1, j2, oI x3, oI x4, oI x5, j6, j7, oI x8, oI x9, j10, oI x11, j12] [vI y0] s (cvI q) := by
  refine rg_step 7 (G' := fun f => if inb (x11 - (cI 1)) 11 = true then evT f 395 216 [oR 549 0, nn, nn, oI x3, oI x4, oI x5, nn, nn, oI x8, oI x9, nn, oI x11, oI y0] [vI (s.1 659 (ix (x11 - (cI 1))))] s else none) (fun _ => rfl) (rg_gd h fun h => ?_)
  refine rg_step 4 (G' := fun f => if ((s.1 659 (ix (x11 - (cI 1)))) + (cI 1)) < y0 then evT f 395 223 [oR 549 0, nn, nn, oI x3, oI x4, oI x5, nn, nn, oI x8, oI x9, nn, oI x11, oI y0] [] s else evT f 395 237 [oR 549 0, nn, nn, oI x3, oI x4, oI x5, nn, nn, oI x8, oI x9, nn, oI x11, oI y0] [] s) (fun _ => rfl) (rg_if h (fun h => ?_) fun h => ?_)
  · refine rg_step 6 (G' := fun f => if inb (x11 - (cI 1)) 11 = true then evT f 395 232 [oR 549 0, nn, nn, oI x3, oI x4, oI x5, nn, nn, oI x8, oI x9, nn, oI x11, oI y0] [vI (s.1 659 (ix (x11 - (cI 1))))] s else none) (fun _ => rfl) (rg_gd h fun h => ?_)
    exact rg_step 3 (G' := fun f => evT f 395 239 [oR 549 0, nn, nn, oI x3, oI x4, oI x5, nn, nn, oI x8, oI x9, nn, oI x11, oI y0] [vI ((s.1 659 (ix (x11 - (cI 1)))) + (cI 1))] s) (fun _ => rfl) ((t_fM_changes_b239 hk99 hk146) h)
  · exact rg_step 1 (G' := fun f => evT f 395 239 [oR 549 0, nn, nn, oI x3, oI x4, oI x5, nn, nn, oI x8, oI x9, nn, oI x11, oI y0] [vI y0] s) (fun _ => rfl) ((t_fM_changes_b239 hk99 hk146) h)
theorem t_fM_changes_b174 {k99 : ev_M → Int32 → Int32 → Int32 → Int32 → Option (ev_M × Int32)} {k146 : ev_M → Int32 → Int32 → Int32 → Int32 → Int32 → Int32 → Int32 → Option (ev_M × Int32)} (hk99 : ∀ {s : ev_M} {x3 : Int32} {x4 : Int32} {x5 : Int32} {x8 : Int32} {j1 : Option ev_V} {j2 : Option ev_V} {j6 : Option ev_V} {j7 : Option ev_V} {j9 : Option ev_V} {j10 : Option ev_V} {j11 : Option ev_V} {j12 : Option ev_V} {q : ev_M × Int32}, k99 s x3 x4 x5 x8 = some q → RR 395 99 [oR 549 0, j1, j2, oI x3, oI x4, oI x5, j6, j7, oI x8, j9, j10, j11, j12] [] s (cvI q)) (hk146 : ∀ {s : ev_M} {x3 : Int32} {x4 : Int32} {x5 : Int32} {x8 : Int32} {x9 : Int32} {x10 : Int32} {x11 : Int32} {j1 : Option ev_V} {j2 : Option ev_V} {j6 : Option ev_V} {j7 : Option ev_V} {j12 : Option ev_V} {q : ev_M × Int32}, k146 s x3 x4 x5 x8 x9 x10 x11 = some q → RR 395 146 [oR 549 0, j1, j2, oI x3, oI x4, oI x5, j6, j7, oI x8, oI x9, oI x10, oI x11, j12] [] s (cvI q)) {s : ev_M} {x3 : Int32} {x4 : Int32} {x5 : Int32} {x8 : Int32} {x9 : Int32} {x11 : Int32} {y0 : Int32} {y1 : Int32} {j1 : Option ev_V} {j2 : Option ev_V} {j6 : Option ev_V} {j7 : Option ev_V} {j10 : Option ev_V} {j12 : Option ev_V} {q : ev_M × Int32} (h : fM_changes_b174 k99 k146 s x3 x4 x5 x8 x9 x11 y0 y1 = some q) : RR 395 174 [oR 549 0, j1, j2, oI x3, oI x4, oI x5, j6, j7, oI x8, oI x9, j10, oI x11, j12] [vI y1, vI y0] s (cvI q) := by
  refine rg_step 2 (G' := fun f => evT f 395 177 [oR 549 0, nn, nn, oI x3, oI x4, oI x5, nn, nn, oI x8, oI x9, nn, oI x11, oI (y0 + y1)] [] s) (fun _ => rfl) (rg_ltI (P := fun v3 => RG (fun f => evT f 395 177 [oR 549 0, nn, nn, oI x3, oI x4, oI x5, nn, nn, oI x8, oI x9, nn, oI x11, oI v3] [] s) (cvI q)) h fun v3 h => ?_)
  refine rg_step 4 (G' := fun f => if inb x11 11 = true then evT f 395 184 [oR 549 0, nn, nn, oI x3, oI x4, oI x5, nn, nn, oI x8, oI x9, nn, oI x11, oI v3] [vI (s.1 659 (ix x11))] s else none) (fun _ => rfl) (rg_gd h fun h => ?_)
  refine rg_step 4 (G' := fun f => if ((s.1 659 (ix x11)) + (cI 1)) < v3 then evT f 395 191 [oR 549 0, nn, nn, oI x3, oI x4, oI x5, nn, nn, oI x8, oI x9, nn, oI x11, oI v3] [] s else evT f 395 203 [oR 549 0, nn, nn, oI x3, oI x4, oI x5, nn, nn, oI x8, oI x9, nn, oI x11, oI v3] [] s) (fun _ => rfl) (rg_if h (fun h => ?_) fun h => ?_)
  · refine rg_step 4 (G' := fun f => if inb x11 11 = true then evT f 395 198 [oR 549 0, nn, nn, oI x3, oI x4, oI x5, nn, nn, oI x8, oI x9, nn, oI x11, oI v3] [vI (s.1 659 (ix x11))] s else none) (fun _ => rfl) (rg_gd h fun h => ?_)
    exact rg_step 3 (G' := fun f => evT f 395 205 [oR 549 0, nn, nn, oI x3, oI x4, oI x5, nn, nn, oI x8, oI x9, nn, oI x11, oI v3] [vI ((s.1 659 (ix x11)) + (cI 1))] s) (fun _ => rfl) ((t_fM_changes_b205 hk99 hk146) h)
  · exact rg_step 1 (G' := fun f => evT f 395 205 [oR 549 0, nn, nn, oI x3, oI x4, oI x5, nn, nn, oI x8, oI x9, nn, oI x11, oI v3] [vI v3] s) (fun _ => rfl) ((t_fM_changes_b205 hk99 hk146) h)
theorem ti_fM_changes_h146 {k99 : ev_M → Int32 → Int32 → Int32 → Int32 → Option (ev_M × Int32)} (hk99 : ∀ {s : ev_M} {x3 : Int32} {x4 : Int32} {x5 : Int32} {x8 : Int32} {j1 : Option ev_V} {j2 : Option ev_V} {j6 : Option ev_V} {j7 : Option ev_V} {j9 : Option ev_V} {j10 : Option ev_V} {j11 : Option ev_V} {j12 : Option ev_V} {q : ev_M × Int32}, k99 s x3 x4 x5 x8 = some q → RR 395 99 [oR 549 0, j1, j2, oI x3, oI x4, oI x5, j6, j7, oI x8, j9, j10, j11, j12] [] s (cvI q)) : ∀ (n : Nat) (s : ev_M) (x3 : Int32) (x4 : Int32) (x5 : Int32) (x8 : Int32) (x9 : Int32) (x10 : Int32) (x11 : Int32) (j1 : Option ev_V) (j2 : Option ev_V) (j6 : Option ev_V) (j7 : Option ev_V) (j12 : Option ev_V) (q : ev_M × Int32), fM_changes_h146 k99 n s x3 x4 x5 x8 x9 x10 x11 = some q → RR 395 146 [oR 549 0, j1, j2, oI x3, oI x4, oI x5, j6, j7, oI x8, oI x9, oI x10, oI x11, j12] [] s (cvI q) := by
  intro n
  induction n with
  | zero => intro s x3 x4 x5 x8 x9 x10 x11 j1 j2 j6 j7 j12 q h; cases h
  | succ n ih =>
    have hk146 : ∀ {s : ev_M} {x3 : Int32} {x4 : Int32} {x5 : Int32} {x8 : Int32} {x9 : Int32} {x10 : Int32} {x11 : Int32} {j1 : Option ev_V} {j2 : Option ev_V} {j6 : Option ev_V} {j7 : Option ev_V} {j12 : Option ev_V} {q : ev_M × Int32}, fM_changes_h146 k99 n s x3 x4 x5 x8 x9 x10 x11 = some q → RR 395 146 [oR 549 0, j1, j2, oI x3, oI x4, oI x5, j6, j7, oI x8, oI x9, oI x10, oI x11, j12] [] s (cvI q) := fun h => ih _ _ _ _ _ _ _ _ _ _ _ _ _ _ h
    intro s x3 x4 x5 x8 x9 x10 x11 j1 j2 j6 j7 j12 q h
    refine rg_step 3 (G' := fun f => if x11 ≤ x5 then evT f 395 153 [oR 549 0, nn, nn, oI x3, oI x4, oI x5, nn, nn, oI x8, oI x9, oI x10, oI x11, nn] [] s else evT f 395 265 [oR 549 0, nn, nn, oI x3, oI x4, oI x5, nn, nn, oI x8, oI x9, oI x10, oI x11, nn] [] s) (fun _ => rfl) (rg_if h (fun h => ?_) fun h => ?_)
    · refine rg_step 7 (G' := fun f => if inb (x11 - (cI 1)) 10 = true then evT f 395 164 [oR 549 0, nn, nn, oI x3, oI x4, oI x5, nn, nn, oI x8, oI x9, oI x10, oI x11, nn] [vI (s.1 658 (ix (x11 - (cI 1)))), vI x10] s else none) (fun _ => rfl) (rg_gd h fun h => ?_)
      refine rg_step 2 (G' := fun f => if (s.1 658 (ix (x11 - (cI 1)))) = x9 then evT f 395 169 [oR 549 0, nn, nn, oI x3, oI x4, oI x5, nn, nn, oI x8, oI x9, oI x10, oI x11, nn] [vI x10] s else evT f 395 173 [oR 549 0, nn, nn, oI x3, oI x4, oI x5, nn, nn, oI x8, oI x9, oI x10, oI x11, nn] [vI x10] s) (fun _ => rfl) (rg_if h (fun h => ?_) fun h => ?_)
      · exact rg_step 2 (G' := fun f => evT f 395 174 [oR 549 0, nn, nn, oI x3, oI x4, oI x5, nn, nn, oI x8, oI x9, oI x10, oI x11, nn] [vI (cI 0), vI x10] s) (fun _ => rfl) ((t_fM_changes_b174 hk99 hk146) h)
      · exact rg_step 1 (G' := fun f => evT f 395 174 [oR 549 0, nn, nn, oI x3, oI x4, oI x5, nn, nn, oI x8, oI x9, oI x10, oI x11, nn] [vI (cI 1), vI x10] s) (fun _ => rfl) ((t_fM_changes_b174 hk99 hk146) h)
    · exact rg_step 2 (G' := fun f => evT f 395 99 [oR 549 0, nn, nn, oI x3, oI x4, oI x5, nn, nn, oI (x8 + cI 1), oI x9, oI x10, oI x11, nn] [] s) (fun _ => rfl) (hk99 h)
theorem t_fM_changes_h146 {k99 : ev_M → Int32 → Int32 → Int32 → Int32 → Option (ev_M × Int32)} (hk99 : ∀ {s : ev_M} {x3 : Int32} {x4 : Int32} {x5 : Int32} {x8 : Int32} {j1 : Option ev_V} {j2 : Option ev_V} {j6 : Option ev_V} {j7 : Option ev_V} {j9 : Option ev_V} {j10 : Option ev_V} {j11 : Option ev_V} {j12 : Option ev_V} {q : ev_M × Int32}, k99 s x3 x4 x5 x8 = some q → RR 395 99 [oR 549 0, j1, j2, oI x3, oI x4, oI x5, j6, j7, oI x8, j9, j10, j11, j12] [] s (cvI q)) {n : Nat} {s : ev_M} {x3 : Int32} {x4 : Int32} {x5 : Int32} {x8 : Int32} {x9 : Int32} {x10 : Int32} {x11 : Int32} {j1 : Option ev_V} {j2 : Option ev_V} {j6 : Option ev_V} {j7 : Option ev_V} {j12 : Option ev_V} {q : ev_M × Int32} (h : fM_changes_h146 k99 n s x3 x4 x5 x8 x9 x10 x11 = some q) : RR 395 146 [oR 549 0, j1, j2, oI x3, oI x4, oI x5, j6, j7, oI x8, oI x9, oI x10, oI x11, j12] [] s (cvI q) := ti_fM_changes_h146 hk99 n s x3 x4 x5 x8 x9 x10 x11 j1 j2 j6 j7 j12 q h
theorem ti_fM_changes_h99 : ∀ (n : Nat) (s : ev_M) (x3 : Int32) (x4 : Int32) (x5 : Int32) (x8 : Int32) (j1 : Option ev_V) (j2 : Option ev_V) (j6 : Option ev_V) (j7 : Option ev_V) (j9 : Option ev_V) (j10 : Option ev_V) (j11 : Option ev_V) (j12 : Option ev_V) (q : ev_M × Int32), fM_changes_h99 n s x3 x4 x5 x8 = some q → RR 395 99 [oR 549 0, j1, j2, oI x3, oI x4, oI x5, j6, j7, oI x8, j9, j10, j11, j12] [] s (cvI q) := by
  intro n
  induction n with
  | zero => intro s x3 x4 x5 x8 j1 j2 j6 j7 j9 j10 j11 j12 q h; cases h
  | succ n ih =>
    have hk99 : ∀ {s : ev_M} {x3 : Int32} {x4 : Int32} {x5 : Int32} {x8 : Int32} {j1 : Option ev_V} {j2 : Option ev_V} {j6 : Option ev_V} {j7 : Option ev_V} {j9 : Option ev_V} {j10 : Option ev_V} {j11 : Option ev_V} {j12 : Option ev_V} {q : ev_M × Int32}, fM_changes_h99 n s x3 x4 x5 x8 = some q → RR 395 99 [oR 549 0, j1, j2, oI x3, oI x4, oI x5, j6, j7, oI x8, j9, j10, j11, j12] [] s (cvI q) := fun h => ih _ _ _ _ _ _ _ _ _ _ _ _ _ _ h
    intro s x3 x4 x5 x8 j1 j2 j6 j7 j9 j10 j11 j12 q h
    refine rg_step 3 (G' := fun f => if x8 < x4 then evT f 395 106 [oR 549 0, nn, nn, oI x3, oI x4, oI x5, nn, nn, oI x8, nn, nn, nn, nn] [] s else evT f 395 271 [oR 549 0, nn, nn, oI x3, oI x4, oI x5, nn, nn, oI x8, nn, nn, nn, nn] [] s) (fun _ => rfl) (rg_if h (fun h => ?_) fun h => ?_)
    · refine rg_step 5 (G' := fun f => if inb x8 200 = true then evT f 395 114 [oR 549 0, nn, nn, oI x3, oI x4, oI x5, nn, nn, oI x8, nn, nn, nn, nn] [vI (s.1 582 (ix x8)), vR 549 0] s else none) (fun _ => rfl) (rg_gd h fun h => ?_)
      refine rg_step 3 (G' := fun f => ev_after (evT f 392 0 [oR 549 0, oI (s.1 582 (ix x8)), oI (cI 10), oI (cI 36), nn, nn, nn, nn, nn, nn, nn] [] s) (fun q => evT f 395 121 [oR 549 0, nn, nn, oI x3, oI x4, oI x5, nn, nn, oI x8, nn, nn, nn, nn] (q.2 ++ []) q.1)) (fun _ => rfl) (rg_bd1 h fun v4 hc h => rg_call (q := cvP s v4) (T_fM_nearest hc) ?_)
      refine rg_step 6 (G' := fun f => evT f 395 131 [oR 549 0, nn, nn, oI x3, oI x4, oI x5, nn, nn, oI x8, oI v4, oI (s.1 659 (ix (cI 0))), nn, nn] [] s) (fun _ => rfl) (rg_ltI (P := fun v5 => RG (fun f => evT f 395 131 [oR 549 0, nn, nn, oI x3, oI x4, oI x5, nn, nn, oI x8, oI v4, oI v5, nn, nn] [] s) (cvI q)) h fun v5 h => ?_)
      refine rg_step 9 (G' := fun f => evT f 395 143 [oR 549 0, nn, nn, oI x3, oI x4, oI x5, nn, nn, oI x8, oI v4, oI v5, nn, nn] [] (wI s 659 (ix (cI 0)) ((x8 - x3) + (cI 1)))) (fun _ => rfl) (rg_ltM h fun s6 h => ?_)
      exact rg_step 2 (G' := fun f => evT f 395 146 [oR 549 0, nn, nn, oI x3, oI x4, oI x5, nn, nn, oI x8, oI v4, oI v5, oI (cI 1), nn] [] s6) (fun _ => rfl) ((t_fM_changes_h146 hk99) h)
    · refine rg_step 4 (G' := fun f => if inb x5 11 = true then evT f 395 278 [oR 549 0, nn, nn, oI x3, oI x4, oI x5, nn, nn, oI x8, nn, nn, nn, nn] [vI (s.1 659 (ix x5))] s else none) (fun _ => rfl) (rg_gd h fun h => ?_)
      exact rg_end 1 (fun _ => rfl) (by cases h; rfl)
theorem t_fM_changes_h99 {n : Nat} {s : ev_M} {x3 : Int32} {x4 : Int32} {x5 : Int32} {x8 : Int32} {j1 : Option ev_V} {j2 : Option ev_V} {j6 : Option ev_V} {j7 : Option ev_V} {j9 : Option ev_V} {j10 : Option ev_V} {j11 : Option ev_V} {j12 : Option ev_V} {q : ev_M × Int32} (h : fM_changes_h99 n s x3 x4 x5 x8 = some q) : RR 395 99 [oR 549 0, j1, j2, oI x3, oI x4, oI x5, j6, j7, oI x8, j9, j10, j11, j12] [] s (cvI q) := ti_fM_changes_h99 n s x3 x4 x5 x8 j1 j2 j6 j7 j9 j10 j11 j12 q h
theorem ti_fM_changes_h74 : ∀ (n : Nat) (s : ev_M) (x3 : Int32) (x4 : Int32) (x5 : Int32) (x8 : Int32) (j1 : Option ev_V) (j2 : Option ev_V) (j6 : Option ev_V) (j7 : Option ev_V) (j9 : Option ev_V) (j10 : Option ev_V) (j11 : Option ev_V) (j12 : Option ev_V) (q : ev_M × Int32), fM_changes_h74 n s x3 x4 x5 x8 = some q → RR 395 74 [oR 549 0, j1, j2, oI x3, oI x4, oI x5, j6, j7, oI x8, j9, j10, j11, j12] [] s (cvI q) := by
  intro n
  induction n with
  | zero => intro s x3 x4 x5 x8 j1 j2 j6 j7 j9 j10 j11 j12 q h; cases h
  | succ n ih =>
    have hk74 : ∀ {s : ev_M} {x3 : Int32} {x4 : Int32} {x5 : Int32} {x8 : Int32} {j1 : Option ev_V} {j2 : Option ev_V} {j6 : Option ev_V} {j7 : Option ev_V} {j9 : Option ev_V} {j10 : Option ev_V} {j11 : Option ev_V} {j12 : Option ev_V} {q : ev_M × Int32}, fM_changes_h74 n s x3 x4 x5 x8 = some q → RR 395 74 [oR 549 0, j1, j2, oI x3, oI x4, oI x5, j6, j7, oI x8, j9, j10, j11, j12] [] s (cvI q) := fun h => ih _ _ _ _ _ _ _ _ _ _ _ _ _ _ h
    intro s x3 x4 x5 x8 j1 j2 j6 j7 j9 j10 j11 j12 q h
    refine rg_step 3 (G' := fun f => if x8 ≤ x5 then evT f 395 81 [oR 549 0, nn, nn, oI x3, oI x4, oI x5, nn, nn, oI x8, nn, nn, nn, nn] [] s else evT f 395 96 [oR 549 0, nn, nn, oI x3, oI x4, oI x5, nn, nn, oI x8, nn, nn, nn, nn] [] s) (fun _ => rfl) (rg_if h (fun h => ?_) fun h => ?_)
    · refine rg_step 5 (G' := fun f => if inb x8 11 = true then evT f 395 90 [oR 549 0, nn, nn, oI x3, oI x4, oI x5, nn, nn, oI x8, nn, nn, nn, nn] [] (wI s 659 (ix x8) x8) else none) (fun _ => rfl) (rg_gd h fun h => rg_ltM h fun s7 h => ?_)
      exact rg_step 2 (G' := fun f => evT f 395 74 [oR 549 0, nn, nn, oI x3, oI x4, oI x5, nn, nn, oI (x8 + cI 1), nn, nn, nn, nn] [] s7) (fun _ => rfl) (hk74 h)
    · exact rg_step 2 (G' := fun f => evT f 395 99 [oR 549 0, nn, nn, oI x3, oI x4, oI x5, nn, nn, oI x3, nn, nn, nn, nn] [] s) (fun _ => rfl) ((t_fM_changes_h99) h)
theorem t_fM_changes_h74 {n : Nat} {s : ev_M} {x3 : Int32} {x4 : Int32} {x5 : Int32} {x8 : Int32} {j1 : Option ev_V} {j2 : Option ev_V} {j6 : Option ev_V} {j7 : Option ev_V} {j9 : Option ev_V} {j10 : Option ev_V} {j11 : Option ev_V} {j12 : Option ev_V} {q : ev_M × Int32} (h : fM_changes_h74 n s x3 x4 x5 x8 = some q) : RR 395 74 [oR 549 0, j1, j2, oI x3, oI x4, oI x5, j6, j7, oI x8, j9, j10, j11, j12] [] s (cvI q) := ti_fM_changes_h74 n s x3 x4 x5 x8 j1 j2 j6 j7 j9 j10 j11 j12 q h
theorem ti_fM_changes_h36 : ∀ (n : Nat) (s : ev_M) (x3 : Int32) (x4 : Int32) (x5 : Int32) (x6 : Int64) (x8 : Int32) (j1 : Option ev_V) (j2 : Option ev_V) (j7 : Option ev_V) (j9 : Option ev_V) (j10 : Option ev_V) (j11 : Option ev_V) (j12 : Option ev_V) (q : ev_M × Int32), fM_changes_h36 n s x3 x4 x5 x6 x8 = some q → RR 395 36 [oR 549 0, j1, j2, oI x3, oI x4, oI x5, oL x6, j7, oI x8, j9, j10, j11, j12] [] s (cvI q) := by
  intro n
  induction n with
  | zero => intro s x3 x4 x5 x6 x8 j1 j2 j7 j9 j10 j11 j12 q h; cases h
  | succ n ih =>
    have hk36 : ∀ {s : ev_M} {x3 : Int32} {x4 : Int32} {x5 : Int32} {x6 : Int64} {x8 : Int32} {j1 : Option ev_V} {j2 : Option ev_V} {j7 : Option ev_V} {j9 : Option ev_V} {j10 : Option ev_V} {j11 : Option ev_V} {j12 : Option ev_V} {q : ev_M × Int32}, fM_changes_h36 n s x3 x4 x5 x6 x8 = some q → RR 395 36 [oR 549 0, j1, j2, oI x3, oI x4, oI x5, oL x6, j7, oI x8, j9, j10, j11, j12] [] s (cvI q) := fun h => ih _ _ _ _ _ _ _ _ _ _ _ _ _ _ h
    intro s x3 x4 x5 x6 x8 j1 j2 j7 j9 j10 j11 j12 q h
    refine rg_step 2 (G' := fun f => if x8 < 0 then evT f 395 71 [oR 549 0, nn, nn, oI x3, oI x4, oI x5, oL x6, nn, oI x8, nn, nn, nn, nn] [] s else evT f 395 41 [oR 549 0, nn, nn, oI x3, oI x4, oI x5, oL x6, nn, oI x8, nn, nn, nn, nn] [] s) (fun _ => rfl) (rg_if h (fun h => ?_) fun h => ?_)
    · exact rg_step 2 (G' := fun f => evT f 395 74 [oR 549 0, nn, nn, oI x3, oI x4, oI x5, oL x6, nn, oI (cI 0), nn, nn, nn, nn] [] s) (fun _ => rfl) ((t_fM_changes_h74) h)
    · refine rg_step 6 (G' := fun f => if (cL 27) = 0 then none else evT f 395 53 [oR 549 0, nn, nn, oI x3, oI x4, oI x5, oL x6, nn, oI x8, nn, nn, nn, nn] [vL (lrem x6 (cL 27)), vI x8, vR 658 0] s) (fun _ => rfl) (rg_dv h fun h => ?_)
      refine rg_step 4 (G' := fun f => if inb x8 10 = true then evT f 395 57 [oR 549 0, nn, nn, oI x3, oI x4, oI x5, oL x6, nn, oI x8, nn, nn, nn, nn] [] (wI s 658 (ix x8) ((Int64.toInt32 (lrem x6 (cL 27))) - (cI 1))) else none) (fun _ => rfl) (rg_gd h fun h => rg_ltM h fun s8 h => ?_)
      refine rg_step 3 (G' := fun f => if (cL 27) = 0 then none else evT f 395 63 [oR 549 0, nn, nn, oI x3, oI x4, oI x5, oL x6, nn, oI x8, nn, nn, nn, nn] [vL (x6 / (cL 27))] s8) (fun _ => rfl) (rg_dv h fun h => ?_)
      refine rg_step 1 (G' := fun f => evT f 395 65 [oR 549 0, nn, nn, oI x3, oI x4, oI x5, oL (x6 / (cL 27)), nn, oI x8, nn, nn, nn, nn] [] s8) (fun _ => rfl) (rg_ltL (P := fun v9 => RG (fun f => evT f 395 65 [oR 549 0, nn, nn, oI x3, oI x4, oI x5, oL v9, nn, oI x8, nn, nn, nn, nn] [] s8) (cvI q)) h fun v9 h => ?_)
      exact rg_step 2 (G' := fun f => evT f 395 36 [oR 549 0, nn, nn, oI x3, oI x4, oI x5, oL v9, nn, oI (x8 + cI (-1)), nn, nn, nn, nn] [] s8) (fun f => Eq.trans (b := evT (f + 1 + 1) 395 65 [oR 549 0, nn, nn, oI x3, oI x4, oI x5, oL v9, nn, oI x8, nn, nn, nn, nn] [] s8) rfl ((ev_inc (f := f + 1) (M := 395) (pc := 65) (i := 8) (n := 3) (c := (-1)) (r := 0) (dl := []) (L := [oR 549 0, nn, nn, oI x3, oI x4, oI x5, oL v9, nn, oI x8, nn, nn, nn, nn]) (L' := [oR 549 0, nn, nn, oI x3, oI x4, oI x5, oL v9, nn, oI (x8 + cI (-1)), nn, nn, nn, nn]) (s := s8) (y := x8) rfl rfl rfl).trans rfl)) (hk36 h)
theorem t_fM_changes_h36 {n : Nat} {s : ev_M} {x3 : Int32} {x4 : Int32} {x5 : Int32} {x6 : Int64} {x8 : Int32} {j1 : Option ev_V} {j2 : Option ev_V} {j7 : Option ev_V} {j9 : Option ev_V} {j10 : Option ev_V} {j11 : Option ev_V} {j12 : Option ev_V} {q : ev_M × Int32} (h : fM_changes_h36 n s x3 x4 x5 x6 x8 = some q) : RR 395 36 [oR 549 0, j1, j2, oI x3, oI x4, oI x5, oL x6, j7, oI x8, j9, j10, j11, j12] [] s (cvI q) := ti_fM_changes_h36 n s x3 x4 x5 x6 x8 j1 j2 j7 j9 j10 j11 j12 q h
theorem ti_fM_changes_h6 : ∀ (n : Nat) (s : ev_M) (x1 : Int64) (x3 : Int32) (x4 : Int32) (x5 : Int32) (x6 : Int64) (j2 : Option ev_V) (j7 : Option ev_V) (j8 : Option ev_V) (j9 : Option ev_V) (j10 : Option ev_V) (j11 : Option ev_V) (j12 : Option ev_V) (q : ev_M × Int32), fM_changes_h6 n s x1 x3 x4 x5 x6 = some q → RR 395 6 [oR 549 0, oL x1, j2, oI x3, oI x4, oI x5, oL x6, j7, j8, j9, j10, j11, j12] [] s (cvI q) := by
  intro n
  induction n with
  | zero => intro s x1 x3 x4 x5 x6 j2 j7 j8 j9 j10 j11 j12 q h; cases h
  | succ n ih =>
    have hk6 : ∀ {s : ev_M} {x1 : Int64} {x3 : Int32} {x4 : Int32} {x5 : Int32} {x6 : Int64} {j2 : Option ev_V} {j7 : Option ev_V} {j8 : Option ev_V} {j9 : Option ev_V} {j10 : Option ev_V} {j11 : Option ev_V} {j12 : Option ev_V} {q : ev_M × Int32}, fM_changes_h6 n s x1 x3 x4 x5 x6 = some q → RR 395 6 [oR 549 0, oL x1, j2, oI x3, oI x4, oI x5, oL x6, j7, j8, j9, j10, j11, j12] [] s (cvI q) := fun h => ih _ _ _ _ _ _ _ _ _ _ _ _ _ _ h
    intro s x1 x3 x4 x5 x6 j2 j7 j8 j9 j10 j11 j12 q h
    refine rg_step 4 (G' := fun f => if (lg_cmp x6 (cL 0)) ≤ 0 then evT f 395 27 [oR 549 0, oL x1, nn, oI x3, oI x4, oI x5, oL x6, nn, nn, nn, nn, nn, nn] [] s else evT f 395 13 [oR 549 0, oL x1, nn, oI x3, oI x4, oI x5, oL x6, nn, nn, nn, nn, nn, nn] [] s) (fun _ => rfl) (rg_if h (fun h => ?_) fun h => ?_)
    · refine rg_step 6 (G' := fun f => evT f 395 36 [oR 549 0, oL x1, nn, oI x3, oI x4, oI x5, oL x1, nn, oI (x5 - (cI 1)), nn, nn, nn, nn] [] s) (fun _ => rfl) (rg_ltI (P := fun v10 => RG (fun f => evT f 395 36 [oR 549 0, oL x1, nn, oI x3, oI x4, oI x5, oL x1, nn, oI v10, nn, nn, nn, nn] [] s) (cvI q)) h fun v10 h => ?_)
      exact (t_fM_changes_h36) h
    · refine rg_step 4 (G' := fun f => if (cL 27) = 0 then none else evT f 395 22 [oR 549 0, oL x1, nn, oI x3, oI x4, oI (x5 + cI 1), oL x6, nn, nn, nn, nn, nn, nn] [vL (x6 / (cL 27))] s) (fun _ => rfl) (rg_dv h fun h => ?_)
      refine rg_step 1 (G' := fun f => evT f 395 24 [oR 549 0, oL x1, nn, oI x3, oI x4, oI (x5 + cI 1), oL (x6 / (cL 27)), nn, nn, nn, nn, nn, nn] [] s) (fun _ => rfl) (rg_ltL (P := fun v11 => RG (fun f => evT f 395 24 [oR 549 0, oL x1, nn, oI x3, oI x4, oI (x5 + cI 1), oL v11, nn, nn, nn, nn, nn, nn] [] s) (cvI q)) h fun v11 h => ?_)
      exact rg_step 1 (G' := fun f => evT f 395 6 [oR 549 0, oL x1, nn, oI x3, oI x4, oI (x5 + cI 1), oL v11, nn, nn, nn, nn, nn, nn] [] s) (fun _ => rfl) (hk6 h)
theorem t_fM_changes_h6 {n : Nat} {s : ev_M} {x1 : Int64} {x3 : Int32} {x4 : Int32} {x5 : Int32} {x6 : Int64} {j2 : Option ev_V} {j7 : Option ev_V} {j8 : Option ev_V} {j9 : Option ev_V} {j10 : Option ev_V} {j11 : Option ev_V} {j12 : Option ev_V} {q : ev_M × Int32} (h : fM_changes_h6 n s x1 x3 x4 x5 x6 = some q) : RR 395 6 [oR 549 0, oL x1, j2, oI x3, oI x4, oI x5, oL x6, j7, j8, j9, j10, j11, j12] [] s (cvI q) := ti_fM_changes_h6 n s x1 x3 x4 x5 x6 j2 j7 j8 j9 j10 j11 j12 q h
theorem T_fM_changes {s : ev_M} {a1 : Int64} {a2 : Int32} {a3 : Int32} {q : ev_M × Int32} (h : fM_changes s a1 a2 a3 = some q) : RR 395 0 [oR 549 0, oL a1, nn, oI a2, oI a3, nn, nn, nn, nn, nn, nn, nn, nn] [] s (cvI q) := by
  exact rg_step 4 (G' := fun f => evT f 395 6 [oR 549 0, oL a1, nn, oI a2, oI a3, oI (cI 0), oL a1, nn, nn, nn, nn, nn, nn] [] s) (fun _ => rfl) ((t_fM_changes_h6) h)
theorem t_fM_nearestStreet_b105 {k12 : ev_M → Int32 → Int32 → Int32 → Int32 → Int32 → Int32 → Int32 → Option (ev_M × Int32)} (hk12 : ∀ {s : ev_M} {x1 : Int32} {x2 : Int32} {x3 : Int32} {x4 : Int32} {x5 : Int32} {x6 : Int32} {x7 : Int32} {j8 : Option ev_V} {q : ev_M × Int32}, k12 s x1 x2 x3 x4 x5 x6 x7 = some q → RR 396 12 [oR 549 0, oI x1, oI x2, oI x3, oI x4, oI x5, oI x6, oI x7, j8] [] s (cvI q)) {s : ev_M} {x1 : Int32} {x2 : Int32} {x3 : Int32} {x4 : Int32} {x5 : Int32} {x6 : Int32} {x7 : Int32} {j8 : Option ev_V} {q : ev_M × Int32} (h : fM_nearestStreet_b105 k12 s x1 x2 x3 x4 x5 x6 x7 = some q) : RR 396 105 [oR 549 0, oI x1, oI x2, oI x3, oI x4, oI x5, oI x6, oI x7, j8] [] s (cvI q) := by
  exact rg_step 2 (G' := fun f => evT f 396 12 [oR 549 0, oI x1, oI x2, oI x3, oI x4, oI x5, oI x6, oI (x7 + cI 1), nn] [] s) (fun _ => rfl) (hk12 h)
theorem t_fM_nearestStreet_b103 {k12 : ev_M → Int32 → Int32 → Int32 → Int32 → Int32 → Int32 → Int32 → Option (ev_M × Int32)} (hk12 : ∀ {s : ev_M} {x1 : Int32} {x2 : Int32} {x3 : Int32} {x4 : Int32} {x5 : Int32} {x6 : Int32} {x7 : Int32} {j8 : Option ev_V} {q : ev_M × Int32}, k12 s x1 x2 x3 x4 x5 x6 x7 = some q → RR 396 12 [oR 549 0, oI x1, oI x2, oI x3, oI x4, oI x5, oI x6, oI x7, j8] [] s (cvI q)) {s : ev_M} {x1 : Int32} {x2 : Int32} {x3 : Int32} {x5 : Int32} {x6 : Int32} {x7 : Int32} {y0 : Int32} {j4 : Option ev_V} {j8 : Option ev_V} {q : ev_M × Int32} (h : fM_nearestStreet_b103 k12 s x1 x2 x3 x5 x6 x7 y0 = some q) : RR 396 103 [oR 549 0, oI x1, oI x2, oI x3, j4, oI x5, oI x6, oI x7, j8] [vI y0] s (cvI q) := by
  exact rg_step 1 (G' := fun f => evT f 396 105 [oR 549 0, oI x1, oI x2, oI x3, oI y0, oI x5, oI x6, oI x7, nn] [] s) (fun _ => rfl) ((t_fM_nearestStreet_b105 hk12) h)
theorem t_fM_nearestStreet_b87 {k12 : ev_M → Int32 → Int32 → Int32 → Int32 → Int32 → Int32 → Int32 → Option (ev_M × Int32)} (hk12 : ∀ {s : ev_M} {x1 : Int32} {x2 : Int32} {x3 : Int32} {x4 : Int32} {x5 : Int32} {x6 : Int32} {x7 : Int32} {j8 : Option ev_V} {q : ev_M × Int32}, k12 s x1 x2 x3 x4 x5 x6 x7 = some q → RR 396 12 [oR 549 0, oI x1, oI x2, oI x3, oI x4, oI x5, oI x6, oI x7, j8] [] s (cvI q)) {s : ev_M} {x1 : Int32} {x2 : Int32} {x3 : Int32} {x4 : Int32} {x6 : Int32} {x7 : Int32} {x8 : Int32} {y0 : Int32} {j5 : Option ev_V} {q : ev_M × Int32} (h : fM_nearestStreet_b87 k12 s x1 x2 x3 x4 x6 x7 x8 y0 = some q) : RR 396 87 [oR 549 0, oI x1, oI x2, oI x3, oI x4, j5, oI x6, oI x7, oI x8] [vI y0] s (cvI q) := by
  refine rg_step 4 (G' := fun f => if x8 < x4 then evT f 396 96 [oR 549 0, oI x1, oI x2, oI x3, oI x4, oI y0, oI x6, oI x7, oI x8] [] s else evT f 396 101 [oR 549 0, oI x1, oI x2, oI x3, oI x4, oI y0, oI x6, oI x7, oI x8] [] s) (fun _ => rfl) (rg_if h (fun h => ?_) fun h => ?_)
  · exact rg_step 2 (G' := fun f => evT f 396 103 [oR 549 0, oI x1, oI x2, oI x3, oI x4, oI y0, oI x6, oI x7, oI x8] [vI x8] s) (fun _ => rfl) ((t_fM_nearestStreet_b103 hk12) h)
  · exact rg_step 1 (G' := fun f => evT f 396 103 [oR 549 0, oI x1, oI x2, oI x3, oI x4, oI y0, oI x6, oI x7, oI x8] [vI x4] s) (fun _ => rfl) ((t_fM_nearestStreet_b103 hk12) h)
theorem t_fM_nearestStreet_b71 {k12 : ev_M → Int32 → Int32 → Int32 → Int32 → Int32 → Int32 → Int32 → Option (ev_M × Int32)} (hk12 : ∀ {s : ev_M} {x1 : Int32} {x2 : Int32} {x3 : Int32} {x4 : Int32} {x5 : Int32} {x6 : Int32} {x7 : Int32} {j8 : Option ev_V} {q : ev_M × Int32}, k12 s x1 x2 x3 x4 x5 x6 x7 = some q → RR 396 12 [oR 549 0, oI x1, oI x2, oI x3, oI x4, oI x5, oI x6, oI x7, j8] [] s (cvI q)) {s : ev_M} {x1 : Int32} {x2 : Int32} {x3 : Int32} {x4 : Int32} {x5 : Int32} {x7 : Int32} {x8 : Int32} {y0 : Int32} {j6 : Option ev_V} {q : ev_M × Int32} (h : fM_nearestStreet_b71 k12 s x1 x2 x3 x4 x5 x7 x8 y0 = some q) : RR 396 71 [oR 549 0, oI x1, oI x2, oI x3, oI x4, oI x5, j6, oI x7, oI x8] [vI y0] s (cvI q) := by
  refine rg_step 4 (G' := fun f => if x8 < x4 then evT f 396 80 [oR 549 0, oI x1, oI x2, oI x3, oI x4, oI x5, oI y0, oI x7, oI x8] [] s else evT f 396 85 [oR 549 0, oI x1, oI x2, oI x3, oI x4, oI x5, oI y0, oI x7, oI x8] [] s) (fun _ => rfl) (rg_if h (fun h => ?_) fun h => ?_)
  · exact rg_step 2 (G' := fun f => evT f 396 87 [oR 549 0, oI x1, oI x2, oI x3, oI x4, oI x5, oI y0, oI x7, oI x8] [vI x7] s) (fun _ => rfl) ((t_fM_nearestStreet_b87 hk12) h)
  · exact rg_step 1 (G' := fun f => evT f 396 87 [oR 549 0, oI x1, oI x2, oI x3, oI x4, oI x5, oI y0, oI x7, oI x8] [vI x5] s) (fun _ => rfl) ((t_fM_nearestStreet_b87 hk12) h)
theorem t_fM_nearestStreet_b66 {k12 : ev_M → Int32 → Int32 → Int32 → Int32 → Int32 → Int32 → Int32 → Option (ev_M × Int32)} (hk12 : ∀ {s : ev_M} {x1 : Int32} {x2 : Int32} {x3 : Int32} {x4 : Int32} {x5 : Int32} {x6 : Int32} {x7 : Int32} {j8 : Option ev_V} {q : ev_M × Int32}, k12 s x1 x2 x3 x4 x5 x6 x7 = some q → RR 396 12 [oR 549 0, oI x1, oI x2, oI x3, oI x4, oI x5, oI x6, oI x7, j8] [] s (cvI q)) {s : ev_M} {x1 : Int32} {x2 : Int32} {x3 : Int32} {x4 : Int32} {x5 : Int32} {x7 : Int32} {x8 : Int32} {j6 : Option ev_V} {q : ev_M × Int32} (h : fM_nearestStreet_b66 k12 s x1 x2 x3 x4 x5 x7 x8 = some q) : RR 396 66 [oR 549 0, oI x1, oI x2, oI x3, oI x4, oI x5, j6, oI x7, oI x8] [] s (cvI q) := by
  exact rg_step 2 (G' := fun f => evT f 396 71 [oR 549 0, oI x1, oI x2, oI x3, oI x4, oI x5, nn, oI x7, oI x8] [vI (cI 1)] s) (fun _ => rfl) ((t_fM_nearestStreet_b71 hk12) h)
theorem t_fM_nearestStreet_b70 {k12 : ev_M → Int32 → Int32 → Int32 → Int32 → Int32 → Int32 → Int32 → Option (ev_M × Int32)} (hk12 : ∀ {s : ev_M} {x1 : Int32} {x2 : Int32} {x3 : Int32} {x4 : Int32} {x5 : Int32} {x6 : Int32} {x7 : Int32} {j8 : Option ev_V} {q : ev_M × Int32}, k12 s x1 x2 x3 x4 x5 x6 x7 = some q → RR 396 12 [oR 549 0, oI x1, oI x2, oI x3, oI x4, oI x5, oI x6, oI x7, j8] [] s (cvI q)) {s : ev_M} {x1 : Int32} {x2 : Int32} {x3 : Int32} {x4 : Int32} {x5 : Int32} {x7 : Int32} {x8 : Int32} {j6 : Option ev_V} {q : ev_M × Int32} (h : fM_nearestStreet_b70 k12 s x1 x2 x3 x4 x5 x7 x8 = some q) : RR 396 70 [oR 549 0, oI x1, oI x2, oI x3, oI x4, oI x5, j6, oI x7, oI x8] [] s (cvI q) := by
  exact rg_step 1 (G' := fun f => evT f 396 71 [oR 549 0, oI x1, oI x2, oI x3, oI x4, oI x5, nn, oI x7, oI x8] [vI (cI 0)] s) (fun _ => rfl) ((t_fM_nearestStreet_b71 hk12) h)
theorem ti_fM_nearestStreet_h12 : ∀ (n : Nat) (s : ev_M) (x1 : Int32) (x2 : Int32) (x3 : Int32) (x4 : Int32) (x5 : Int32) (x6 : Int32) (x7 : Int32) (j8 : Option ev_V) (q : ev_M × Int32), fM_nearestStreet_h12 n s x1 x2 x3 x4 x5 x6 x7 = some q → RR 396 12 [oR 549 0, oI x1, oI x2, oI x3, oI x4, oI x5, oI x6, oI x7, j8] [] s (cvI q) := by
  intro n
  induction n with
  | zero => intro s x1 x2 x3 x4 x5 x6 x7 j8 q h; cases h
  | succ n ih =>
    have hk12 : ∀ {s : ev_M} {x1 : Int32} {x2 : Int32} {x3 : Int32} {x4 : Int32} {x5 : Int32} {x6 : Int32} {x7 : Int32} {j8 : Option ev_V} {q : ev_M × Int32}, fM_nearestStreet_h12 n s x1 x2 x3 x4 x5 x6 x7 = some q → RR 396 12 [oR 549 0, oI x1, oI x2, oI x3, oI x4, oI x5, oI x6, oI x7, j8] [] s (cvI q) := fun h => ih _ _ _ _ _ _ _ _ _ _ h
    intro s x1 x2 x3 x4 x5 x6 x7 j8 q h
    refine rg_step 4 (G' := fun f => if x7 < (s.1 549 27) then evT f 396 21 [oR 549 0, oI x1, oI x2, oI x3, oI x4, oI x5, oI x6, oI x7, nn] [] s else evT f 396 111 [oR 549 0, oI x1, oI x2, oI x3, oI x4, oI x5, oI x6, oI x7, nn] [] s) (fun _ => rfl) (rg_if h (fun h => ?_) fun h => ?_)
    · refine rg_step 4 (G' := fun f => if inb x7 30 = true then evT f 396 28 [oR 549 0, oI x1, oI x2, oI x3, oI x4, oI x5, oI x6, oI x7, nn] [vI (s.1 560 (ix x7))] s else none) (fun _ => rfl) (rg_gd h fun h => ?_)
      refine rg_step 2 (G' := fun f => if (s.1 560 (ix x7)) = x1 then evT f 396 32 [oR 549 0, oI x1, oI x2, oI x3, oI x4, oI x5, oI x6, oI x7, nn] [] s else evT f 396 105 [oR 549 0, oI x1, oI x2, oI x3, oI x4, oI x5, oI x6, oI x7, nn] [] s) (fun _ => rfl) (rg_if h (fun h => ?_) fun h => ?_)
      · refine rg_step 5 (G' := fun f => if inb x7 30 = true then evT f 396 40 [oR 549 0, oI x1, oI x2, oI x3, oI x4, oI x5, oI x6, oI x7, nn] [vL (s.2.1 561 (ix x7)), vR 549 0] s else none) (fun _ => rfl) (rg_gd h fun h => ?_)
        refine rg_step 3 (G' := fun f => ev_after (evT f 395 0 [oR 549 0, oL (s.2.1 561 (ix x7)), nn, oI x2, oI x3, nn, nn, nn, nn, nn, nn, nn, nn] [] s) (fun q => evT f 396 45 [oR 549 0, oI x1, oI x2, oI x3, oI x4, oI x5, oI x6, oI x7, nn] (q.2 ++ []) q.1)) (fun _ => rfl) (rg_bd2 h fun s1 v2 hc h => rg_call (q := cvI (s1, v2)) (T_fM_changes hc) ?_)
        refine rg_step 4 (G' := fun f => if v2 = x4 then evT f 396 66 [oR 549 0, oI x1, oI x2, oI x3, oI x4, oI x5, oI x6, oI x7, oI v2] [] s1 else evT f 396 54 [oR 549 0, oI x1, oI x2, oI x3, oI x4, oI x5, oI x6, oI x7, oI v2] [] s1) (fun _ => rfl) (rg_if h (fun h => ?_) fun h => ?_)
        · exact (t_fM_nearestStreet_b66 hk12) h
        · refine rg_step 2 (G' := fun f => if x6 = 0 then evT f 396 70 [oR 549 0, oI x1, oI x2, oI x3, oI x4, oI x5, oI x6, oI x7, oI v2] [] s1 else evT f 396 59 [oR 549 0, oI x1, oI x2, oI x3, oI x4, oI x5, oI x6, oI x7, oI v2] [] s1) (fun _ => rfl) (rg_if h (fun h => ?_) fun h => ?_)
          · exact (t_fM_nearestStreet_b70 hk12) h
          · refine rg_step 3 (G' := fun f => if v2 ≤ x4 then evT f 396 70 [oR 549 0, oI x1, oI x2, oI x3, oI x4, oI x5, oI x6, oI x7, oI v2] [] s1 else evT f 396 66 [oR 549 0, oI x1, oI x2, oI x3, oI x4, oI x5, oI x6, oI x7, oI v2] [] s1) (fun _ => rfl) (rg_if h (fun h => ?_) fun h => ?_)
            · exact (t_fM_nearestStreet_b70 hk12) h
            · exact (t_fM_nearestStreet_b66 hk12) h
      · exact (t_fM_nearestStreet_b105 hk12) h
    · refine rg_step 2 (G' := fun f => if x6 = 0 then evT f 396 120 [oR 549 0, oI x1, oI x2, oI x3, oI x4, oI x5, oI x6, oI x7, nn] [] s else evT f 396 116 [oR 549 0, oI x1, oI x2, oI x3, oI x4, oI x5, oI x6, oI x7, nn] [] s) (fun _ => rfl) (rg_if h (fun h => ?_) fun h => ?_)
      · exact rg_end 2 (fun _ => rfl) (by cases h; rfl)
      · exact rg_end 3 (fun _ => rfl) (by cases h; rfl)
theorem t_fM_nearestStreet_h12 {n : Nat} {s : ev_M} {x1 : Int32} {x2 : Int32} {x3 : Int32} {x4 : Int32} {x5 : Int32} {x6 : Int32} {x7 : Int32} {j8 : Option ev_V} {q : ev_M × Int32} (h : fM_nearestStreet_h12 n s x1 x2 x3 x4 x5 x6 x7 = some q) : RR 396 12 [oR 549 0, oI x1, oI x2, oI x3, oI x4, oI x5, oI x6, oI x7, j8] [] s (cvI q) := ti_fM_nearestStreet_h12 n s x1 x2 x3 x4 x5 x6 x7 j8 q h
theorem T_fM_nearestStreet {s : ev_M} {a1 : Int32} {a2 : Int32} {a3 : Int32} {q : ev_M × Int32} (h : fM_nearestStreet s a1 a2 a3 = some q) : RR 396 0 [oR 549 0, oI a1, oI a2, oI a3, nn, nn, nn, nn, nn] [] s (cvI q) := by
  exact rg_step 8 (G' := fun f => evT f 396 12 [oR 549 0, oI a1, oI a2, oI a3, oI (cI 3), oI (cI (-1)), oI (cI 0), oI (cI 0), nn] [] s) (fun _ => rfl) ((t_fM_nearestStreet_h12) h)
theorem t_fM_beginsWord_b44 {s : ev_M} {j0 : Option ev_V} {j1 : Option ev_V} {j2 : Option ev_V} {q : Int32} (h : fM_beginsWord_b44 s = some q) : RR 393 44 [j0, j1, j2] [] s (cvP s q) := by
  exact rg_end 3 (fun _ => rfl) (by cases h; rfl)
theorem T_fM_beginsWord {s : ev_M} {a1 : Int32} {a2 : Int32} {q : Int32} (h : fM_beginsWord s a1 a2 = some q) : RR 393 0 [oR 549 0, oI a1, oI a2] [] s (cvP s q) := by
  refine rg_step 3 (G' := fun f => if a1 = a2 then evT f 393 44 [oR 549 0, oI a1, oI a2] [] s else evT f 393 5 [oR 549 0, oI a1, oI a2] [] s) (fun _ => rfl) (rg_if h (fun h => ?_) fun h => ?_)
  · exact (t_fM_beginsWord_b44) h
  · refine rg_step 5 (G' := fun f => if inb a1 200 = true then evT f 393 12 [oR 549 0, oI a1, oI a2] [vI (s.1 578 (ix a1)), vI (cI 5)] s else none) (fun _ => rfl) (rg_gd h fun h => ?_)
    refine rg_step 6 (G' := fun f => if inb (a1 - (cI 1)) 200 = true then evT f 393 20 [oR 549 0, oI a1, oI a2] [vI (s.1 578 (ix (a1 - (cI 1)))), vI (s.1 578 (ix a1)), vI (cI 5)] s else none) (fun _ => rfl) (rg_gd h fun h => ?_)
    refine rg_step 7 (G' := fun f => if inb (a1 - (cI 1)) 200 = true then evT f 393 29 [oR 549 0, oI a1, oI a2] [vI (s.1 580 (ix (a1 - (cI 1)))), vI ((s.1 578 (ix a1)) - (s.1 578 (ix (a1 - (cI 1))))), vI (cI 5)] s else none) (fun _ => rfl) (rg_gd h fun h => ?_)
    refine rg_step 9 (G' := fun f => if inb (a1 - (cI 1)) 200 = true then evT f 393 40 [oR 549 0, oI a1, oI a2] [vI (s.1 581 (ix (a1 - (cI 1)))), vI (cI 2), vI ((cI 5) * (((s.1 578 (ix a1)) - (s.1 578 (ix (a1 - (cI 1))))) - (s.1 580 (ix (a1 - (cI 1))))))] s else none) (fun _ => rfl) (rg_gd h fun h => ?_)
    refine rg_step 2 (G' := fun f => if ((cI 5) * (((s.1 578 (ix a1)) - (s.1 578 (ix (a1 - (cI 1))))) - (s.1 580 (ix (a1 - (cI 1)))))) < ((cI 2) * (s.1 581 (ix (a1 - (cI 1))))) then evT f 393 48 [oR 549 0, oI a1, oI a2] [] s else evT f 393 44 [oR 549 0, oI a1, oI a2] [] s) (fun _ => rfl) (rg_if h (fun h => ?_) fun h => ?_)
    · exact rg_end 2 (fun _ => rfl) (by cases h; rfl)
    · exact (t_fM_beginsWord_b44) h
theorem t_fM_numberOf_b59 {s : ev_M} {k6 : Int32 → Int32 → Int32 → Int32 → Int32 → Option Int32} (hk6 : ∀ {x1 : Int32} {x2 : Int32} {x3 : Int32} {x4 : Int32} {x5 : Int32} {j6 : Option ev_V} {q : Int32}, k6 x1 x2 x3 x4 x5 = some q → RR 394 6 [oR 549 0, oI x1, oI x2, oI x3, oI x4, oI x5, j6] [] s (cvP s q)) {x1 : Int32} {x2 : Int32} {x3 : Int32} {x5 : Int32} {y0 : Int32} {j4 : Option ev_V} {j6 : Option ev_V} {q : Int32} (h : fM_numberOf_b59 s k6 x1 x2 x3 x5 y0 = some q) : RR 394 59 [oR 549 0, oI x1, oI x2, oI x3, j4, oI x5, j6] [vI y0] s (cvP s q) := by
  exact rg_step 3 (G' := fun f => evT f 394 6 [oR 549 0, oI x1, oI x2, oI x3, oI y0, oI (x5 + cI 1), nn] [] s) (fun _ => rfl) (hk6 h)
theorem t_fM_numberOf_b47 {s : ev_M} {k6 : Int32 → Int32 → Int32 → Int32 → Int32 → Option Int32} (hk6 : ∀ {x1 : Int32} {x2 : Int32} {x3 : Int32} {x4 : Int32} {x5 : Int32} {j6 : Option ev_V} {q : Int32}, k6 x1 x2 x3 x4 x5 = some q → RR 394 6 [oR 549 0, oI x1, oI x2, oI x3, oI x4, oI x5, j6] [] s (cvP s q)) {x1 : Int32} {x2 : Int32} {x3 : Int32} {x5 : Int32} {j4 : Option ev_V} {j6 : Option ev_V} {q : Int32} (h : fM_numberOf_b47 s k6 x1 x2 x3 x5 = some q) : RR 394 47 [oR 549 0, oI x1, oI x2, oI x3, j4, oI x5, j6] [] s (cvP s q) := by
  exact rg_step 2 (G' := fun f => evT f 394 59 [oR 549 0, oI x1, oI x2, oI x3, nn, oI x5, nn] [vI (cI (-1))] s) (fun _ => rfl) ((t_fM_numberOf_b59 hk6) h)
theorem ti_fM_numberOf_h6 {s : ev_M} : ∀ (n : Nat) (x1 : Int32) (x2 : Int32) (x3 : Int32) (x4 : Int32) (x5 : Int32) (j6 : Option ev_V) (q : Int32), fM_numberOf_h6 s n x1 x2 x3 x4 x5 = some q → RR 394 6 [oR 549 0, oI x1, oI x2, oI x3, oI x4, oI x5, j6] [] s (cvP s q) := by
  intro n
  induction n with
  | zero => intro x1 x2 x3 x4 x5 j6 q h; cases h
  | succ n ih =>
    have hk6 : ∀ {x1 : Int32} {x2 : Int32} {x3 : Int32} {x4 : Int32} {x5 : Int32} {j6 : Option ev_V} {q : Int32}, fM_numberOf_h6 s n x1 x2 x3 x4 x5 = some q → RR 394 6 [oR 549 0, oI x1, oI x2, oI x3, oI x4, oI x5, j6] [] s (cvP s q) := fun h => ih _ _ _ _ _ _ _ h
    intro x1 x2 x3 x4 x5 j6 q h
    refine rg_step 3 (G' := fun f => if x5 < x2 then evT f 394 12 [oR 549 0, oI x1, oI x2, oI x3, oI x4, oI x5, nn] [] s else evT f 394 67 [oR 549 0, oI x1, oI x2, oI x3, oI x4, oI x5, nn] [] s) (fun _ => rfl) (rg_if h (fun h => ?_) fun h => ?_)
    · refine rg_step 5 (G' := fun f => if inb x5 200 = true then evT f 394 20 [oR 549 0, oI x1, oI x2, oI x3, oI x4, oI x5, nn] [vI (s.1 582 (ix x5)), vR 549 0] s else none) (fun _ => rfl) (rg_gd h fun h => ?_)
      refine rg_step 3 (G' := fun f => ev_after (evT f 392 0 [oR 549 0, oI (s.1 582 (ix x5)), oI (cI 0), oI (cI 10), nn, nn, nn, nn, nn, nn, nn] [] s) (fun q => evT f 394 26 [oR 549 0, oI x1, oI x2, oI x3, oI x4, oI x5, nn] (q.2 ++ []) q.1)) (fun _ => rfl) (rg_bd1 h fun v1 hc h => rg_call (q := cvP s v1) (T_fM_nearest hc) ?_)
      refine rg_step 4 (G' := fun f => if v1 = (cI (-1)) then evT f 394 47 [oR 549 0, oI x1, oI x2, oI x3, oI x4, oI x5, oI v1] [] s else evT f 394 34 [oR 549 0, oI x1, oI x2, oI x3, oI x4, oI x5, oI v1] [] s) (fun _ => rfl) (rg_if h (fun h => ?_) fun h => ?_)
      · exact (t_fM_numberOf_b47 hk6) h
      · refine rg_step 3 (G' := fun f => if x4 = (cI (-1)) then evT f 394 47 [oR 549 0, oI x1, oI x2, oI x3, oI x4, oI x5, oI v1] [] s else evT f 394 40 [oR 549 0, oI x1, oI x2, oI x3, oI x4, oI x5, oI v1] [] s) (fun _ => rfl) (rg_if h (fun h => ?_) fun h => ?_)
        · exact (t_fM_numberOf_b47 hk6) h
        · refine rg_step 5 (G' := fun f => if (x2 - x1) ≤ x3 then evT f 394 51 [oR 549 0, oI x1, oI x2, oI x3, oI x4, oI x5, oI v1] [] s else evT f 394 47 [oR 549 0, oI x1, oI x2, oI x3, oI x4, oI x5, oI v1] [] s) (fun _ => rfl) (rg_if h (fun h => ?_) fun h => ?_)
          · exact rg_step 5 (G' := fun f => evT f 394 59 [oR 549 0, oI x1, oI x2, oI x3, oI x4, oI x5, oI v1] [vI (((cI 10) * x4) + v1)] s) (fun _ => rfl) ((t_fM_numberOf_b59 hk6) h)
          · exact (t_fM_numberOf_b47 hk6) h
    · exact rg_end 2 (fun _ => rfl) (by cases h; rfl)
theorem t_fM_numberOf_h6 {s : ev_M} {n : Nat} {x1 : Int32} {x2 : Int32} {x3 : Int32} {x4 : Int32} {x5 : Int32} {j6 : Option ev_V} {q : Int32} (h : fM_numberOf_h6 s n x1 x2 x3 x4 x5 = some q) : RR 394 6 [oR 549 0, oI x1, oI x2, oI x3, oI x4, oI x5, j6] [] s (cvP s q) := ti_fM_numberOf_h6 n x1 x2 x3 x4 x5 j6 q h
theorem T_fM_numberOf {s : ev_M} {a1 : Int32} {a2 : Int32} {a3 : Int32} {q : Int32} (h : fM_numberOf s a1 a2 a3 = some q) : RR 394 0 [oR 549 0, oI a1, oI a2, oI a3, nn, nn, nn] [] s (cvP s q) := by
  exact rg_step 4 (G' := fun f => evT f 394 6 [oR 549 0, oI a1, oI a2, oI a3, oI (cI 0), oI a1, nn] [] s) (fun _ => rfl) ((t_fM_numberOf_h6) h)
theorem t_fM_readAddress_b143 {s : ev_M} {x4 : Int32} {x5 : Int32} {x6 : Int32} {y0 : Int32} {j1 : Option ev_V} {j2 : Option ev_V} {j3 : Option ev_V} {j7 : Option ev_V} {j8 : Option ev_V} {q : ev_M × Int32} (h : fM_readAddress_b143 s x4 x5 x6 y0 = some q) : RR 397 143 [oR 549 0, j1, j2, j3, oI x4, oI x5, oI x6, j7, j8] [vI y0] s (cvI q) := by
  refine rg_step 4 (G' := fun f => if y0 = (cI (-1)) then evT f 397 151 [oR 549 0, nn, nn, nn, oI x4, oI x5, oI x6, oI y0, nn] [] s else evT f 397 153 [oR 549 0, nn, nn, nn, oI x4, oI x5, oI x6, oI y0, nn] [] s) (fun _ => rfl) (rg_if h (fun h => ?_) fun h => ?_)
  · exact rg_end 2 (fun _ => rfl) (by cases h; rfl)
  · refine rg_step 5 (G' := fun f => ev_after (evT f 396 0 [oR 549 0, oI x4, oI x5, oI x6, nn, nn, nn, nn, nn] [] s) (fun q => evT f 397 163 [oR 549 0, nn, nn, nn, oI x4, oI x5, oI x6, oI y0, nn] (q.2 ++ []) q.1)) (fun _ => rfl) (rg_bd2 h fun s1 v2 hc h => rg_call (q := cvI (s1, v2)) (T_fM_nearestStreet hc) ?_)
    refine rg_step 4 (G' := fun f => if v2 = (cI (-1)) then evT f 397 171 [oR 549 0, nn, nn, nn, oI x4, oI x5, oI x6, oI y0, oI v2] [] s1 else evT f 397 173 [oR 549 0, nn, nn, nn, oI x4, oI x5, oI x6, oI y0, oI v2] [] s1) (fun _ => rfl) (rg_if h (fun h => ?_) fun h => ?_)
    · exact rg_end 2 (fun _ => rfl) (by cases h; rfl)
    · refine rg_step 5 (G' := fun f => ev_after (evT f 364 0 [oR 549 0, oI v2, oI y0, nn, nn] [] s1) (fun q => evT f 397 182 [oR 549 0, nn, nn, nn, oI x4, oI x5, oI x6, oI y0, oI v2] (q.2 ++ [vR 549 0]) q.1)) (fun _ => rfl) (rg_bd1 h fun v3 hc h => rg_call (q := cvP s1 v3) (T_fM_pointWith hc) ?_)
      refine rg_step 1 (G' := fun f => evT f 397 185 [oR 549 0, nn, nn, nn, oI x4, oI x5, oI x6, oI y0, oI v2] [] (wI s1 549 50 v3)) (fun _ => rfl) (rg_ltM h fun s4 h => ?_)
      refine rg_step 4 (G' := fun f => if (s4.1 549 50) = (cI (-1)) then evT f 397 193 [oR 549 0, nn, nn, nn, oI x4, oI x5, oI x6, oI y0, oI v2] [] s4 else evT f 397 198 [oR 549 0, nn, nn, nn, oI x4, oI x5, oI x6, oI y0, oI v2] [] s4) (fun _ => rfl) (rg_if h (fun h => ?_) fun h => ?_)
      · exact rg_end 3 (fun _ => rfl) (by cases h; rfl)
      · exact rg_end 2 (fun _ => rfl) (by cases h; rfl)
theorem ti_fM_readAddress_h107 : ∀ (n : Nat) (s : ev_M) (x1 : Int32) (x4 : Int32) (x5 : Int32) (x6 : Int32) (j2 : Option ev_V) (j3 : Option ev_V) (j7 : Option ev_V) (j8 : Option ev_V) (q : ev_M × Int32), fM_readAddress_h107 n s x1 x4 x5 x6 = some q → RR 397 107 [oR 549 0, oI x1, j2, j3, oI x4, oI x5, oI x6, j7, j8] [] s (cvI q) := by
  intro n
  induction n with
  | zero => intro s x1 x4 x5 x6 j2 j3 j7 j8 q h; cases h
  | succ n ih =>
    have hk107 : ∀ {s : ev_M} {x1 : Int32} {x4 : Int32} {x5 : Int32} {x6 : Int32} {j2 : Option ev_V} {j3 : Option ev_V} {j7 : Option ev_V} {j8 : Option ev_V} {q : ev_M × Int32}, fM_readAddress_h107 n s x1 x4 x5 x6 = some q → RR 397 107 [oR 549 0, oI x1, j2, j3, oI x4, oI x5, oI x6, j7, j8] [] s (cvI q) := fun h => ih _ _ _ _ _ _ _ _ _ _ h
    intro s x1 x4 x5 x6 j2 j3 j7 j8 q h
    refine rg_step 4 (G' := fun f => ev_after (evT f 393 0 [oR 549 0, oI x6, oI x5] [] s) (fun q => evT f 397 115 [oR 549 0, oI x1, nn, nn, oI x4, oI x5, oI x6, nn, nn] (q.2 ++ []) q.1)) (fun _ => rfl) (rg_bd1 h fun v5 hc h => rg_call (q := cvP s v5) (T_fM_beginsWord hc) ?_)
    refine rg_step 1 (G' := fun f => if v5 = 0 then evT f 397 118 [oR 549 0, oI x1, nn, nn, oI x4, oI x5, oI x6, nn, nn] [] s else evT f 397 124 [oR 549 0, oI x1, nn, nn, oI x4, oI x5, oI x6, nn, nn] [] s) (fun _ => rfl) (rg_if h (fun h => ?_) fun h => ?_)
    · exact rg_step 2 (G' := fun f => evT f 397 107 [oR 549 0, oI x1, nn, nn, oI x4, oI x5, oI (x6 + cI (-1)), nn, nn] [] s) (fun f => Eq.trans (b := evT (f + 1 + 1) 397 118 [oR 549 0, oI x1, nn, nn, oI x4, oI x5, oI x6, nn, nn] [] s) rfl ((ev_inc (f := f + 1) (M := 397) (pc := 118) (i := 6) (n := 3) (c := (-1)) (r := 0) (dl := []) (L := [oR 549 0, oI x1, nn, nn, oI x4, oI x5, oI x6, nn, nn]) (L' := [oR 549 0, oI x1, nn, nn, oI x4, oI x5, oI (x6 + cI (-1)), nn, nn]) (s := s) (y := x6) rfl rfl rfl).trans rfl)) (hk107 h)
    · refine rg_step 3 (G' := fun f => if x6 = x5 then evT f 397 131 [oR 549 0, oI x1, nn, nn, oI x4, oI x5, oI x6, nn, nn] [] s else evT f 397 135 [oR 549 0, oI x1, nn, nn, oI x4, oI x5, oI x6, nn, nn] [] s) (fun _ => rfl) (rg_if h (fun h => ?_) fun h => ?_)
      · exact rg_step 2 (G' := fun f => evT f 397 143 [oR 549 0, oI x1, nn, nn, oI x4, oI x5, oI x6, nn, nn] [vI (cI (-1))] s) (fun _ => rfl) ((t_fM_readAddress_b143) h)
      · refine rg_step 5 (G' := fun f => ev_after (evT f 394 0 [oR 549 0, oI x6, oI x1, oI (cI 3), nn, nn, nn] [] s) (fun q => evT f 397 143 [oR 549 0, oI x1, nn, nn, oI x4, oI x5, oI x6, nn, nn] (q.2 ++ []) q.1)) (fun _ => rfl) (rg_bd1 h fun v6 hc h => rg_call (q := cvP s v6) (T_fM_numberOf hc) ?_)
        exact (t_fM_readAddress_b143) h
theorem t_fM_readAddress_h107 {n : Nat} {s : ev_M} {x1 : Int32} {x4 : Int32} {x5 : Int32} {x6 : Int32} {j2 : Option ev_V} {j3 : Option ev_V} {j7 : Option ev_V} {j8 : Option ev_V} {q : ev_M × Int32} (h : fM_readAddress_h107 n s x1 x4 x5 x6 = some q) : RR 397 107 [oR 549 0, oI x1, j2, j3, oI x4, oI x5, oI x6, j7, j8] [] s (cvI q) := ti_fM_readAddress_h107 n s x1 x4 x5 x6 j2 j3 j7 j8 q h
theorem t_fM_readAddress_b59 {s : ev_M} {x1 : Int32} {x2 : Int32} {j3 : Option ev_V} {j4 : Option ev_V} {j5 : Option ev_V} {j6 : Option ev_V} {j7 : Option ev_V} {j8 : Option ev_V} {q : ev_M × Int32} (h : fM_readAddress_b59 s x1 x2 = some q) : RR 397 59 [oR 549 0, oI x1, oI x2, j3, j4, j5, j6, j7, j8] [] s (cvI q) := by
  refine rg_step 5 (G' := fun f => ev_after (evT f 394 0 [oR 549 0, oI x1, oI x2, oI (cI 5), nn, nn, nn] [] s) (fun q => evT f 397 66 [oR 549 0, oI x1, oI x2, nn, nn, nn, nn, nn, nn] (q.2 ++ []) q.1)) (fun _ => rfl) (rg_bd1 h fun v7 hc h => rg_call (q := cvP s v7) (T_fM_numberOf hc) ?_)
  refine rg_step 4 (G' := fun f => if v7 = (cI (-1)) then evT f 397 72 [oR 549 0, oI x1, oI x2, oI v7, nn, nn, nn, nn, nn] [] s else evT f 397 74 [oR 549 0, oI x1, oI x2, oI v7, nn, nn, nn, nn, nn] [] s) (fun _ => rfl) (rg_if h (fun h => ?_) fun h => ?_)
  · exact rg_end 2 (fun _ => rfl) (by cases h; rfl)
  · refine rg_step 3 (G' := fun f => ev_after (evT f 360 0 [oR 549 0, oI v7, nn, nn] [] s) (fun q => evT f 397 79 [oR 549 0, oI x1, oI x2, oI v7, nn, nn, nn, nn, nn] (q.2 ++ []) q.1)) (fun _ => rfl) (rg_bd1 h fun v8 hc h => rg_call (q := cvP s v8) (T_fM_placeWith hc) ?_)
    refine rg_step 4 (G' := fun f => if v8 = (cI (-1)) then evT f 397 87 [oR 549 0, oI x1, oI x2, oI v7, oI v8, nn, nn, nn, nn] [] s else evT f 397 89 [oR 549 0, oI x1, oI x2, oI v7, oI v8, nn, nn, nn, nn] [] s) (fun _ => rfl) (rg_if h (fun h => ?_) fun h => ?_)
    · exact rg_end 2 (fun _ => rfl) (by cases h; rfl)
    · refine rg_step 7 (G' := fun f => if inb ((s.1 549 51) - (cI 2)) 11 = true then evT f 397 100 [oR 549 0, oI x1, oI x2, oI v7, oI v8, nn, nn, nn, nn] [vI (s.1 577 (ix ((s.1 549 51) - (cI 2))))] s else none) (fun _ => rfl) (rg_gd h fun h => ?_)
      refine rg_step 1 (G' := fun f => evT f 397 102 [oR 549 0, oI x1, oI x2, oI v7, oI v8, oI (s.1 577 (ix ((s.1 549 51) - (cI 2)))), nn, nn, nn] [] s) (fun _ => rfl) (rg_ltI (P := fun v9 => RG (fun f => evT f 397 102 [oR 549 0, oI x1, oI x2, oI v7, oI v8, oI v9, nn, nn, nn] [] s) (cvI q)) h fun v9 h => ?_)
      refine rg_step 4 (G' := fun f => evT f 397 107 [oR 549 0, oI x1, oI x2, oI v7, oI v8, oI v9, oI (x1 - (cI 1)), nn, nn] [] s) (fun _ => rfl) (rg_ltI (P := fun v10 => RG (fun f => evT f 397 107 [oR 549 0, oI x1, oI x2, oI v7, oI v8, oI v9, oI v10, nn, nn] [] s) (cvI q)) h fun v10 h => ?_)
      exact (t_fM_readAddress_h107) h
theorem ti_fM_readAddress_h31 : ∀ (n : Nat) (s : ev_M) (x1 : Int32) (x2 : Int32) (j3 : Option ev_V) (j4 : Option ev_V) (j5 : Option ev_V) (j6 : Option ev_V) (j7 : Option ev_V) (j8 : Option ev_V) (q : ev_M × Int32), fM_readAddress_h31 n s x1 x2 = some q → RR 397 31 [oR 549 0, oI x1, oI x2, j3, j4, j5, j6, j7, j8] [] s (cvI q) := by
  intro n
  induction n with
  | zero => intro s x1 x2 j3 j4 j5 j6 j7 j8 q h; cases h
  | succ n ih =>
    have hk31 : ∀ {s : ev_M} {x1 : Int32} {x2 : Int32} {j3 : Option ev_V} {j4 : Option ev_V} {j5 : Option ev_V} {j6 : Option ev_V} {j7 : Option ev_V} {j8 : Option ev_V} {q : ev_M × Int32}, fM_readAddress_h31 n s x1 x2 = some q → RR 397 31 [oR 549 0, oI x1, oI x2, j3, j4, j5, j6, j7, j8] [] s (cvI q) := fun h => ih _ _ _ _ _ _ _ _ _ _ h
    intro s x1 x2 j3 j4 j5 j6 j7 j8 q h
    refine rg_step 6 (G' := fun f => if inb (s.1 549 51) 11 = true then evT f 397 41 [oR 549 0, oI x1, oI x2, nn, nn, nn, nn, nn, nn] [vI (s.1 577 (ix (s.1 549 51))), vI x2] s else none) (fun _ => rfl) (rg_gd h fun h => ?_)
    refine rg_step 1 (G' := fun f => if x2 < (s.1 577 (ix (s.1 549 51))) then evT f 397 44 [oR 549 0, oI x1, oI x2, nn, nn, nn, nn, nn, nn] [] s else evT f 397 59 [oR 549 0, oI x1, oI x2, nn, nn, nn, nn, nn, nn] [] s) (fun _ => rfl) (rg_if h (fun h => ?_) fun h => ?_)
    · refine rg_step 4 (G' := fun f => ev_after (evT f 393 0 [oR 549 0, oI x2, oI x1] [] s) (fun q => evT f 397 50 [oR 549 0, oI x1, oI x2, nn, nn, nn, nn, nn, nn] (q.2 ++ []) q.1)) (fun _ => rfl) (rg_bd1 h fun v11 hc h => rg_call (q := cvP s v11) (T_fM_beginsWord hc) ?_)
      refine rg_step 1 (G' := fun f => if v11 = 0 then evT f 397 53 [oR 549 0, oI x1, oI x2, nn, nn, nn, nn, nn, nn] [] s else evT f 397 59 [oR 549 0, oI x1, oI x2, nn, nn, nn, nn, nn, nn] [] s) (fun _ => rfl) (rg_if h (fun h => ?_) fun h => ?_)
      · exact rg_step 2 (G' := fun f => evT f 397 31 [oR 549 0, oI x1, oI (x2 + cI 1), nn, nn, nn, nn, nn, nn] [] s) (fun _ => rfl) (hk31 h)
      · exact (t_fM_readAddress_b59) h
    · exact (t_fM_readAddress_b59) h
theorem t_fM_readAddress_h31 {n : Nat} {s : ev_M} {x1 : Int32} {x2 : Int32} {j3 : Option ev_V} {j4 : Option ev_V} {j5 : Option ev_V} {j6 : Option ev_V} {j7 : Option ev_V} {j8 : Option ev_V} {q : ev_M × Int32} (h : fM_readAddress_h31 n s x1 x2 = some q) : RR 397 31 [oR 549 0, oI x1, oI x2, j3, j4, j5, j6, j7, j8] [] s (cvI q) := ti_fM_readAddress_h31 n s x1 x2 j3 j4 j5 j6 j7 j8 q h
theorem T_fM_readAddress {s : ev_M} {q : ev_M × Int32} (h : fM_readAddress s = some q) : RR 397 0 [oR 549 0, nn, nn, nn, nn, nn, nn, nn, nn] [] s (cvI q) := by
  refine rg_step 3 (G' := fun f => evT f 397 5 [oR 549 0, nn, nn, nn, nn, nn, nn, nn, nn] [] (wI s 549 50 (cI (-1)))) (fun _ => rfl) (rg_ltM h fun s12 h => ?_)
  refine rg_step 4 (G' := fun f => if (s12.1 549 51) < (cI 2) then evT f 397 13 [oR 549 0, nn, nn, nn, nn, nn, nn, nn, nn] [] s12 else evT f 397 15 [oR 549 0, nn, nn, nn, nn, nn, nn, nn, nn] [] s12) (fun _ => rfl) (rg_if h (fun h => ?_) fun h => ?_)
  · exact rg_end 2 (fun _ => rfl) (by cases h; rfl)
  · refine rg_step 7 (G' := fun f => if inb ((s12.1 549 51) - (cI 1)) 11 = true then evT f 397 26 [oR 549 0, nn, nn, nn, nn, nn, nn, nn, nn] [vI (s12.1 577 (ix ((s12.1 549 51) - (cI 1))))] s12 else none) (fun _ => rfl) (rg_gd h fun h => ?_)
    refine rg_step 1 (G' := fun f => evT f 397 27 [oR 549 0, oI (s12.1 577 (ix ((s12.1 549 51) - (cI 1)))), nn, nn, nn, nn, nn, nn, nn] [] s12) (fun _ => rfl) (rg_ltI (P := fun v13 => RG (fun f => evT f 397 27 [oR 549 0, oI v13, nn, nn, nn, nn, nn, nn, nn] [] s12) (cvI q)) h fun v13 h => ?_)
    refine rg_step 4 (G' := fun f => evT f 397 31 [oR 549 0, oI v13, oI (v13 + (cI 1)), nn, nn, nn, nn, nn, nn] [] s12) (fun _ => rfl) (rg_ltI (P := fun v14 => RG (fun f => evT f 397 31 [oR 549 0, oI v13, oI v14, nn, nn, nn, nn, nn, nn] [] s12) (cvI q)) h fun v14 h => ?_)
    exact (t_fM_readAddress_h31) h
theorem t_fM_findDark_b53 {k8 : ev_M → Int32 → Int32 → Int32 → Option ev_M} (hk8 : ∀ {s : ev_M} {x1 : Int32} {x2 : Int32} {x3 : Int32} {j4 : Option ev_V} {q : ev_M}, k8 s x1 x2 x3 = some q → RR 383 8 [oR 549 0, oI x1, oI x2, oI x3, j4] [] s (cvV q)) {s : ev_M} {x1 : Int32} {x3 : Int32} {y0 : Int32} {j2 : Option ev_V} {j4 : Option ev_V} {q : ev_M} (h : fM_findDark_b53 k8 s x1 x3 y0 = some q) : RR 383 53 [oR 549 0, oI x1, j2, oI x3, j4] [vI y0] s (cvV q) := by
  exact rg_step 3 (G' := fun f => evT f 383 8 [oR 549 0, oI x1, oI y0, oI (x3 + cI 1), nn] [] s) (fun _ => rfl) (hk8 h)
theorem t_fM_findDark_b40 {k8 : ev_M → Int32 → Int32 → Int32 → Option ev_M} (hk8 : ∀ {s : ev_M} {x1 : Int32} {x2 : Int32} {x3 : Int32} {j4 : Option ev_V} {q : ev_M}, k8 s x1 x2 x3 = some q → RR 383 8 [oR 549 0, oI x1, oI x2, oI x3, j4] [] s (cvV q)) {s : ev_M} {x2 : Int32} {x3 : Int32} {x4 : Int32} {y0 : Int32} {j1 : Option ev_V} {q : ev_M} (h : fM_findDark_b40 k8 s x2 x3 x4 y0 = some q) : RR 383 40 [oR 549 0, j1, oI x2, oI x3, oI x4] [vI y0] s (cvV q) := by
  refine rg_step 4 (G' := fun f => if x4 ≤ x2 then evT f 383 52 [oR 549 0, oI y0, oI x2, oI x3, oI x4] [] s else evT f 383 47 [oR 549 0, oI y0, oI x2, oI x3, oI x4] [] s) (fun _ => rfl) (rg_if h (fun h => ?_) fun h => ?_)
  · exact rg_step 1 (G' := fun f => evT f 383 53 [oR 549 0, oI y0, oI x2, oI x3, oI x4] [vI x2] s) (fun _ => rfl) ((t_fM_findDark_b53 hk8) h)
  · exact rg_step 2 (G' := fun f => evT f 383 53 [oR 549 0, oI y0, oI x2, oI x3, oI x4] [vI x4] s) (fun _ => rfl) ((t_fM_findDark_b53 hk8) h)
theorem t_fM_findDark_b126 {k62 : ev_M → Int32 → Int32 → Int32 → Option ev_M} (hk62 : ∀ {s : ev_M} {x1 : Int32} {x2 : Int32} {x3 : Int32} {j4 : Option ev_V} {q : ev_M}, k62 s x1 x2 x3 = some q → RR 383 62 [oR 549 0, oI x1, oI x2, oI x3, j4] [] s (cvV q)) {s : ev_M} {x1 : Int32} {x2 : Int32} {x3 : Int32} {y1 : Int32} {y2 : Int32} {j4 : Option ev_V} {q : ev_M} (h : fM_findDark_b126 k62 s x1 x2 x3 y1 y2 = some q) : RR 383 126 [oR 549 0, oI x1, oI x2, oI x3, j4] [vI y2, vI y1, vR 650 0] s (cvV q) := by
  refine rg_step 1 (G' := fun f => if inb y1 4096 = true then evT f 383 127 [oR 549 0, oI x1, oI x2, oI x3, nn] [] (wI s 650 (ix y1) (y2 &&& 1)) else none) (fun _ => rfl) (rg_gd h fun h => rg_ltM h fun s1 h => ?_)
  exact rg_step 2 (G' := fun f => evT f 383 62 [oR 549 0, oI x1, oI x2, oI (x3 + cI 1), nn] [] s1) (fun _ => rfl) (hk62 h)
theorem t_fM_findDark_b106 {k62 : ev_M → Int32 → Int32 → Int32 → Option ev_M} (hk62 : ∀ {s : ev_M} {x1 : Int32} {x2 : Int32} {x3 : Int32} {j4 : Option ev_V} {q : ev_M}, k62 s x1 x2 x3 = some q → RR 383 62 [oR 549 0, oI x1, oI x2, oI x3, j4] [] s (cvV q)) {s : ev_M} {x1 : Int32} {x2 : Int32} {x3 : Int32} {y1 : Int32} {y2 : Int32} {j4 : Option ev_V} {q : ev_M} (h : fM_findDark_b106 k62 s x1 x2 x3 y1 y2 = some q) : RR 383 106 [oR 549 0, oI x1, oI x2, oI x3, j4] [vI y2, vI y1, vR 649 0] s (cvV q) := by
  refine rg_step 1 (G' := fun f => if inb y1 4096 = true then evT f 383 107 [oR 549 0, oI x1, oI x2, oI x3, nn] [] (wI s 649 (ix y1) (y2 &&& 1)) else none) (fun _ => rfl) (rg_gd h fun h => rg_ltM h fun s2 h => ?_)
  refine rg_step 7 (G' := fun f => if inb x3 4096 = true then evT f 383 118 [oR 549 0, oI x1, oI x2, oI x3, nn] [vI (s2.1 649 (ix x3)), vI x3, vR 650 0] s2 else none) (fun _ => rfl) (rg_gd h fun h => ?_)
  refine rg_step 1 (G' := fun f => if (s2.1 649 (ix x3)) = 0 then evT f 383 121 [oR 549 0, oI x1, oI x2, oI x3, nn] [vI x3, vR 650 0] s2 else evT f 383 125 [oR 549 0, oI x1, oI x2, oI x3, nn] [vI x3, vR 650 0] s2) (fun _ => rfl) (rg_if h (fun h => ?_) fun h => ?_)
  · exact rg_step 2 (G' := fun f => evT f 383 126 [oR 549 0, oI x1, oI x2, oI x3, nn] [vI (cI 1), vI x3, vR 650 0] s2) (fun _ => rfl) ((t_fM_findDark_b126 hk62) h)
  · exact rg_step 1 (G' := fun f => evT f 383 126 [oR 549 0, oI x1, oI x2, oI x3, nn] [vI (cI 0), vI x3, vR 650 0] s2) (fun _ => rfl) ((t_fM_findDark_b126 hk62) h)
theorem t_fM_findDark_b105 {k62 : ev_M → Int32 → Int32 → Int32 → Option ev_M} (hk62 : ∀ {s : ev_M} {x1 : Int32} {x2 : Int32} {x3 : Int32} {j4 : Option ev_V} {q : ev_M}, k62 s x1 x2 x3 = some q → RR 383 62 [oR 549 0, oI x1, oI x2, oI x3, j4] [] s (cvV q)) {s : ev_M} {x1 : Int32} {x2 : Int32} {x3 : Int32} {y1 : Int32} {j4 : Option ev_V} {q : ev_M} (h : fM_findDark_b105 k62 s x1 x2 x3 y1 = some q) : RR 383 105 [oR 549 0, oI x1, oI x2, oI x3, j4] [vI y1, vR 649 0] s (cvV q) := by
  exact rg_step 1 (G' := fun f => evT f 383 106 [oR 549 0, oI x1, oI x2, oI x3, nn] [vI (cI 0), vI y1, vR 649 0] s) (fun _ => rfl) ((t_fM_findDark_b106 hk62) h)
theorem ti_fM_findDark_h62 : ∀ (n : Nat) (s : ev_M) (x1 : Int32) (x2 : Int32) (x3 : Int32) (j4 : Option ev_V) (q : ev_M), fM_findDark_h62 n s x1 x2 x3 = some q → RR 383 62 [oR 549 0, oI x1, oI x2, oI x3, j4] [] s (cvV q) := by
  intro n
  induction n with
  | zero => intro s x1 x2 x3 j4 q h; cases h
  | succ n ih =>
    have hk62 : ∀ {s : ev_M} {x1 : Int32} {x2 : Int32} {x3 : Int32} {j4 : Option ev_V} {q : ev_M}, fM_findDark_h62 n s x1 x2 x3 = some q → RR 383 62 [oR 549 0, oI x1, oI x2, oI x3, j4] [] s (cvV q) := fun h => ih _ _ _ _ _ _ h
    intro s x1 x2 x3 j4 q h
    refine rg_step 4 (G' := fun f => if x3 < (s.1 549 13) then evT f 383 70 [oR 549 0, oI x1, oI x2, oI x3, nn] [] s else evT f 383 133 [oR 549 0, oI x1, oI x2, oI x3, nn] [] s) (fun _ => rfl) (rg_if h (fun h => ?_) fun h => ?_)
    · refine rg_step 8 (G' := fun f => if (x2 - x1) < (cI 32) then evT f 383 105 [oR 549 0, oI x1, oI x2, oI x3, nn] [vI x3, vR 649 0] s else evT f 383 83 [oR 549 0, oI x1, oI x2, oI x3, nn] [vI x3, vR 649 0] s) (fun _ => rfl) (rg_if h (fun h => ?_) fun h => ?_)
      · exact (t_fM_findDark_b105 hk62) h
      · refine rg_step 5 (G' := fun f => if inb x3 4096 = true then evT f 383 90 [oR 549 0, oI x1, oI x2, oI x3, nn] [vI (s.1 554 (ix x3)), vI (cI 2), vI x3, vR 649 0] s else none) (fun _ => rfl) (rg_gd h fun h => ?_)
        refine rg_step 7 (G' := fun f => if ((cI 2) * ((s.1 554 (ix x3)) &&& (cI 255))) < (x1 + x2) then evT f 383 101 [oR 549 0, oI x1, oI x2, oI x3, nn] [vI x3, vR 649 0] s else evT f 383 105 [oR 549 0, oI x1, oI x2, oI x3, nn] [vI x3, vR 649 0] s) (fun _ => rfl) (rg_if h (fun h => ?_) fun h => ?_)
        · exact rg_step 2 (G' := fun f => evT f 383 106 [oR 549 0, oI x1, oI x2, oI x3, nn] [vI (cI 1), vI x3, vR 649 0] s) (fun _ => rfl) ((t_fM_findDark_b106 hk62) h)
        · exact (t_fM_findDark_b105 hk62) h
    · exact rg_end 1 (fun _ => rfl) (by cases h; rfl)
theorem t_fM_findDark_h62 {n : Nat} {s : ev_M} {x1 : Int32} {x2 : Int32} {x3 : Int32} {j4 : Option ev_V} {q : ev_M} (h : fM_findDark_h62 n s x1 x2 x3 = some q) : RR 383 62 [oR 549 0, oI x1, oI x2, oI x3, j4] [] s (cvV q) := ti_fM_findDark_h62 n s x1 x2 x3 j4 q h
theorem ti_fM_findDark_h8 : ∀ (n : Nat) (s : ev_M) (x1 : Int32) (x2 : Int32) (x3 : Int32) (j4 : Option ev_V) (q : ev_M), fM_findDark_h8 n s x1 x2 x3 = some q → RR 383 8 [oR 549 0, oI x1, oI x2, oI x3, j4] [] s (cvV q) := by
  intro n
  induction n with
  | zero => intro s x1 x2 x3 j4 q h; cases h
  | succ n ih =>
    have hk8 : ∀ {s : ev_M} {x1 : Int32} {x2 : Int32} {x3 : Int32} {j4 : Option ev_V} {q : ev_M}, fM_findDark_h8 n s x1 x2 x3 = some q → RR 383 8 [oR 549 0, oI x1, oI x2, oI x3, j4] [] s (cvV q) := fun h => ih _ _ _ _ _ _ h
    intro s x1 x2 x3 j4 q h
    refine rg_step 4 (G' := fun f => if x3 < (s.1 549 13) then evT f 383 16 [oR 549 0, oI x1, oI x2, oI x3, nn] [] s else evT f 383 60 [oR 549 0, oI x1, oI x2, oI x3, nn] [] s) (fun _ => rfl) (rg_if h (fun h => ?_) fun h => ?_)
    · refine rg_step 4 (G' := fun f => if inb x3 4096 = true then evT f 383 22 [oR 549 0, oI x1, oI x2, oI x3, nn] [vI (s.1 554 (ix x3))] s else none) (fun _ => rfl) (rg_gd h fun h => ?_)
      refine rg_step 3 (G' := fun f => evT f 383 28 [oR 549 0, oI x1, oI x2, oI x3, oI ((s.1 554 (ix x3)) &&& (cI 255))] [] s) (fun _ => rfl) (rg_ltI (P := fun v3 => RG (fun f => evT f 383 28 [oR 549 0, oI x1, oI x2, oI x3, oI v3] [] s) (cvV q)) h fun v3 h => ?_)
      refine rg_step 3 (G' := fun f => if v3 < x1 then evT f 383 34 [oR 549 0, oI x1, oI x2, oI x3, oI v3] [] s else evT f 383 39 [oR 549 0, oI x1, oI x2, oI x3, oI v3] [] s) (fun _ => rfl) (rg_if h (fun h => ?_) fun h => ?_)
      · exact rg_step 2 (G' := fun f => evT f 383 40 [oR 549 0, oI x1, oI x2, oI x3, oI v3] [vI v3] s) (fun _ => rfl) ((t_fM_findDark_b40 hk8) h)
      · exact rg_step 1 (G' := fun f => evT f 383 40 [oR 549 0, oI x1, oI x2, oI x3, oI v3] [vI x1] s) (fun _ => rfl) ((t_fM_findDark_b40 hk8) h)
    · exact rg_step 2 (G' := fun f => evT f 383 62 [oR 549 0, oI x1, oI x2, oI (cI 0), nn] [] s) (fun _ => rfl) ((t_fM_findDark_h62) h)
theorem t_fM_findDark_h8 {n : Nat} {s : ev_M} {x1 : Int32} {x2 : Int32} {x3 : Int32} {j4 : Option ev_V} {q : ev_M} (h : fM_findDark_h8 n s x1 x2 x3 = some q) : RR 383 8 [oR 549 0, oI x1, oI x2, oI x3, j4] [] s (cvV q) := ti_fM_findDark_h8 n s x1 x2 x3 j4 q h
theorem T_fM_findDark {s : ev_M} {q : ev_M} (h : fM_findDark s = some q) : RR 383 0 [oR 549 0, nn, nn, nn, nn] [] s (cvV q) := by
  exact rg_step 6 (G' := fun f => evT f 383 8 [oR 549 0, oI (cI 255), oI (cI 0), oI (cI 0), nn] [] s) (fun _ => rfl) ((t_fM_findDark_h8) h)
theorem t_fM_doSheet_b28 {s : ev_M} {j1 : Option ev_V} {j2 : Option ev_V} {q : ev_M × Int32} (h : fM_doSheet_b28 s = some q) : RR 398 28 [oR 549 0, j1, j2] [] s (cvI q) := by
  refine rg_step 3 (G' := fun f => ev_after (evT f 315 0 [oR 549 0, oI (cI (-102))] [] s) (fun q => evT f 398 34 [oR 549 0, nn, nn] (q.2 ++ []) q.1)) (fun _ => rfl) (rg_bd2 h fun s1 v2 hc h => rg_call (q := cvI (s1, v2)) (T_fM_no hc) ?_)
  exact rg_end 1 (fun _ => rfl) (by cases h; rfl)
theorem t_fM_doSheet_b97 {k75 : ev_M → Int32 → Option (ev_M × Int32)} (hk75 : ∀ {s : ev_M} {x2 : Int32} {j1 : Option ev_V} {q : ev_M × Int32}, k75 s x2 = some q → RR 398 75 [oR 549 0, j1, oI x2] [] s (cvI q)) {s : ev_M} {x2 : Int32} {j1 : Option ev_V} {q : ev_M × Int32} (h : fM_doSheet_b97 k75 s x2 = some q) : RR 398 97 [oR 549 0, j1, oI x2] [] s (cvI q) := by
  exact rg_step 2 (G' := fun f => evT f 398 75 [oR 549 0, nn, oI (x2 + cI 1)] [] s) (fun _ => rfl) (hk75 h)
theorem ti_fM_doSheet_h75 : ∀ (n : Nat) (s : ev_M) (x2 : Int32) (j1 : Option ev_V) (q : ev_M × Int32), fM_doSheet_h75 n s x2 = some q → RR 398 75 [oR 549 0, j1, oI x2] [] s (cvI q) := by
  intro n
  induction n with
  | zero => intro s x2 j1 q h; cases h
  | succ n ih =>
    have hk75 : ∀ {s : ev_M} {x2 : Int32} {j1 : Option ev_V} {q : ev_M × Int32}, fM_doSheet_h75 n s x2 = some q → RR 398 75 [oR 549 0, j1, oI x2] [] s (cvI q) := fun h => ih _ _ _ _ h
    intro s x2 j1 q h
    refine rg_step 4 (G' := fun f => if x2 < (s.1 549 13) then evT f 398 83 [oR 549 0, nn, oI x2] [] s else evT f 398 103 [oR 549 0, nn, oI x2] [] s) (fun _ => rfl) (rg_if h (fun h => ?_) fun h => ?_)
    · refine rg_step 4 (G' := fun f => if inb x2 4096 = true then evT f 398 89 [oR 549 0, nn, oI x2] [vI (s.1 650 (ix x2))] s else none) (fun _ => rfl) (rg_gd h fun h => ?_)
      refine rg_step 1 (G' := fun f => if (s.1 650 (ix x2)) = 0 then evT f 398 92 [oR 549 0, nn, oI x2] [] s else evT f 398 97 [oR 549 0, nn, oI x2] [] s) (fun _ => rfl) (rg_if h (fun h => ?_) fun h => ?_)
      · refine rg_step 3 (G' := fun f => ev_after (evT f 384 0 [oR 549 0, oI x2, nn, nn, nn, nn, nn, nn, nn, nn, nn, nn] [] s) (fun q => evT f 398 97 [oR 549 0, nn, oI x2] (q.2 ++ []) q.1)) (fun _ => rfl) (rg_bd1 h fun s3 hc h => rg_call (q := cvV s3) (T_fM_part hc) ?_)
        exact (t_fM_doSheet_b97 hk75) h
      · exact (t_fM_doSheet_b97 hk75) h
    · refine rg_step 2 (G' := fun f => ev_after (evT f 386 0 [oR 549 0, nn, nn, nn] [] s) (fun q => evT f 398 107 [oR 549 0, nn, oI x2] (q.2 ++ []) q.1)) (fun _ => rfl) (rg_bd1 h fun s4 hc h => rg_call (q := cvV s4) (T_fM_hangTogether hc) ?_)
      refine rg_step 2 (G' := fun f => ev_after (evT f 391 0 [oR 549 0, nn, nn, nn, nn, nn] [] s4) (fun q => evT f 398 111 [oR 549 0, nn, oI x2] (q.2 ++ []) q.1)) (fun _ => rfl) (rg_bd1 h fun s5 hc h => rg_call (q := cvV s5) (T_fM_findLines hc) ?_)
      refine rg_step 3 (G' := fun f => evT f 398 116 [oR 549 0, nn, oI x2] [] (wI s5 549 48 (cI 1))) (fun _ => rfl) (rg_ltM h fun s6 h => ?_)
      refine rg_step 3 (G' := fun f => ev_after (evT f 397 0 [oR 549 0, nn, nn, nn, nn, nn, nn, nn, nn] [] s6) (fun q => evT f 398 121 [oR 549 0, nn, oI x2] (q.2 ++ [vR 549 0]) q.1)) (fun _ => rfl) (rg_bd2 h fun s7 v8 hc h => rg_call (q := cvI (s7, v8)) (T_fM_readAddress hc) ?_)
      refine rg_step 1 (G' := fun f => evT f 398 124 [oR 549 0, nn, oI x2] [] (wI s7 549 49 v8)) (fun _ => rfl) (rg_ltM h fun s9 h => ?_)
      exact rg_end 3 (fun _ => rfl) (by cases h; rfl)
theorem t_fM_doSheet_h75 {n : Nat} {s : ev_M} {x2 : Int32} {j1 : Option ev_V} {q : ev_M × Int32} (h : fM_doSheet_h75 n s x2 = some q) : RR 398 75 [oR 549 0, j1, oI x2] [] s (cvI q) := ti_fM_doSheet_h75 n s x2 j1 q h
theorem T_fM_doSheet {s : ev_M} {a1 : Int32} {q : ev_M × Int32} (h : fM_doSheet s a1 = some q) : RR 398 0 [oR 549 0, oI a1, nn] [] s (cvI q) := by
  refine rg_step 4 (G' := fun f => ev_after (evT f 311 0 [oI a1, oI (cI 8), oI (cI 128)] [] s) (fun q => evT f 398 9 [oR 549 0, oI a1, nn] (q.2 ++ []) q.1)) (fun _ => rfl) (rg_bd1 h fun v10 hc h => rg_call (q := cvP s v10) (T_fM_in hc) ?_)
  refine rg_step 1 (G' := fun f => if v10 = 0 then evT f 398 28 [oR 549 0, oI a1, nn] [] s else evT f 398 12 [oR 549 0, oI a1, nn] [] s) (fun _ => rfl) (rg_if h (fun h => ?_) fun h => ?_)
  · exact (t_fM_doSheet_b28) h
  · refine rg_step 3 (G' := fun f => if (s.1 549 13) = 0 then evT f 398 28 [oR 549 0, oI a1, nn] [] s else evT f 398 19 [oR 549 0, oI a1, nn] [] s) (fun _ => rfl) (rg_if h (fun h => ?_) fun h => ?_)
    · exact (t_fM_doSheet_b28) h
    · refine rg_step 4 (G' := fun f => if a1 = 0 then none else evT f 398 25 [oR 549 0, oI a1, nn] [vI (irem (s.1 549 13) a1)] s) (fun _ => rfl) (rg_dv h fun h => ?_)
      refine rg_step 1 (G' := fun f => if (irem (s.1 549 13) a1) = 0 then evT f 398 35 [oR 549 0, oI a1, nn] [] s else evT f 398 28 [oR 549 0, oI a1, nn] [] s) (fun _ => rfl) (rg_if h (fun h => ?_) fun h => ?_)
      · refine rg_step 2 (G' := fun f => ev_after (evT f 316 0 [oR 549 0, nn] [] s) (fun q => evT f 398 39 [oR 549 0, oI a1, nn] (q.2 ++ []) q.1)) (fun _ => rfl) (rg_bd1 h fun v11 hc h => rg_call (q := cvP s v11) (T_fM_full hc) ?_)
        refine rg_step 1 (G' := fun f => if v11 = 0 then evT f 398 49 [oR 549 0, oI a1, nn] [] s else evT f 398 42 [oR 549 0, oI a1, nn] [] s) (fun _ => rfl) (rg_if h (fun h => ?_) fun h => ?_)
        · refine rg_step 3 (G' := fun f => evT f 398 54 [oR 549 0, oI a1, nn] [] (wI s 549 152 a1)) (fun _ => rfl) (rg_ltM h fun s12 h => ?_)
          refine rg_step 5 (G' := fun f => if a1 = 0 then none else evT f 398 61 [oR 549 0, oI a1, nn] [vI ((s12.1 549 13) / a1), vR 549 0] s12) (fun _ => rfl) (rg_dv h fun h => ?_)
          refine rg_step 1 (G' := fun f => evT f 398 64 [oR 549 0, oI a1, nn] [] (wI s12 549 153 ((s12.1 549 13) / a1))) (fun _ => rfl) (rg_ltM h fun s13 h => ?_)
          refine rg_step 3 (G' := fun f => evT f 398 69 [oR 549 0, oI a1, nn] [] (wI s13 549 146 (cI 0))) (fun _ => rfl) (rg_ltM h fun s14 h => ?_)
          refine rg_step 2 (G' := fun f => ev_after (evT f 383 0 [oR 549 0, nn, nn, nn, nn] [] s14) (fun q => evT f 398 73 [oR 549 0, oI a1, nn] (q.2 ++ []) q.1)) (fun _ => rfl) (rg_bd1 h fun s15 hc h => rg_call (q := cvV s15) (T_fM_findDark hc) ?_)
          exact rg_step 2 (G' := fun f => evT f 398 75 [oR 549 0, oI a1, oI (cI 0)] [] s15) (fun _ => rfl) ((t_fM_doSheet_h75) h)
        · refine rg_step 3 (G' := fun f => ev_after (evT f 315 0 [oR 549 0, oI (cI (-104))] [] s) (fun q => evT f 398 48 [oR 549 0, oI a1, nn] (q.2 ++ []) q.1)) (fun _ => rfl) (rg_bd2 h fun s16 v17 hc h => rg_call (q := cvI (s16, v17)) (T_fM_no hc) ?_)
          exact rg_end 1 (fun _ => rfl) (by cases h; rfl)
      · exact (t_fM_doSheet_b28) h
theorem T_fM_leaves {s : ev_M} {a1 : Int32} {q : ev_M} (h : fM_leaves s a1 = some q) : RR 352 0 [oR 549 0, oI a1] [] s (cvV q) := by
  refine rg_step 5 (G' := fun f => if inb a1 300 = true then evT f 352 7 [oR 549 0, oI a1] [] (wI s 593 (ix a1) (cI (-1))) else none) (fun _ => rfl) (rg_gd h fun h => rg_ltM h fun s1 h => ?_)
  refine rg_step 5 (G' := fun f => if inb a1 300 = true then evT f 352 14 [oR 549 0, oI a1] [] (wI s1 595 (ix a1) (cI (-1))) else none) (fun _ => rfl) (rg_gd h fun h => rg_ltM h fun s2 h => ?_)
  refine rg_step 5 (G' := fun f => if inb a1 300 = true then evT f 352 21 [oR 549 0, oI a1] [] (wI s2 597 (ix a1) (cI (-1))) else none) (fun _ => rfl) (rg_gd h fun h => rg_ltM h fun s3 h => ?_)
  refine rg_step 5 (G' := fun f => if inb a1 300 = true then evT f 352 28 [oR 549 0, oI a1] [] (wI s3 598 (ix a1) (cI (-1))) else none) (fun _ => rfl) (rg_gd h fun h => rg_ltM h fun s4 h => ?_)
  refine rg_step 5 (G' := fun f => if inb a1 300 = true then evT f 352 35 [oR 549 0, oI a1] [] (wI s4 602 (ix a1) (cI (-1))) else none) (fun _ => rfl) (rg_gd h fun h => rg_ltM h fun s5 h => ?_)
  exact rg_end 1 (fun _ => rfl) (by cases h; rfl)
theorem t_fM_event_b51 {s : ev_M} {j1 : Option ev_V} {j2 : Option ev_V} {j3 : Option ev_V} {j4 : Option ev_V} {q : ev_M} (h : fM_event_b51 s = some q) : RR 350 51 [oR 549 0, j1, j2, j3, j4] [] s (cvV q) := by
  refine rg_step 6 (G' := fun f => evT f 350 61 [oR 549 0, nn, nn, nn, nn] [] (wI s 549 129 ((s.1 549 129) + (cI 1)))) (fun _ => rfl) (rg_ltM h fun s1 h => ?_)
  exact rg_end 1 (fun _ => rfl) (by cases h; rfl)
theorem T_fM_event {s : ev_M} {a1 : Int32} {a2 : Int32} {a3 : Int32} {a4 : Int32} {q : ev_M} (h : fM_event s a1 a2 a3 a4 = some q) : RR 350 0 [oR 549 0, oI a1, oI a2, oI a3, oI a4] [] s (cvV q) := by
  refine rg_step 4 (G' := fun f => if (s.1 549 129) < (cI 5000) then evT f 350 10 [oR 549 0, oI a1, oI a2, oI a3, oI a4] [] s else evT f 350 51 [oR 549 0, oI a1, oI a2, oI a3, oI a4] [] s) (fun _ => rfl) (rg_if h (fun h => ?_) fun h => ?_)
  · refine rg_step 6 (G' := fun f => if inb (s.1 549 129) 5000 = true then evT f 350 20 [oR 549 0, oI a1, oI a2, oI a3, oI a4] [] (wI s 640 (ix (s.1 549 129)) a1) else none) (fun _ => rfl) (rg_gd h fun h => rg_ltM h fun s2 h => ?_)
    refine rg_step 6 (G' := fun f => if inb (s2.1 549 129) 5000 = true then evT f 350 30 [oR 549 0, oI a1, oI a2, oI a3, oI a4] [] (wI s2 641 (ix (s2.1 549 129)) a2) else none) (fun _ => rfl) (rg_gd h fun h => rg_ltM h fun s3 h => ?_)
    refine rg_step 6 (G' := fun f => if inb (s3.1 549 129) 5000 = true then evT f 350 40 [oR 549 0, oI a1, oI a2, oI a3, oI a4] [] (wI s3 642 (ix (s3.1 549 129)) a3) else none) (fun _ => rfl) (rg_gd h fun h => rg_ltM h fun s4 h => ?_)
    refine rg_step 6 (G' := fun f => if inb (s4.1 549 129) 5000 = true then evT f 350 51 [oR 549 0, oI a1, oI a2, oI a3, oI a4] [] (wI s4 643 (ix (s4.1 549 129)) a4) else none) (fun _ => rfl) (rg_gd h fun h => rg_ltM h fun s5 h => ?_)
    exact (t_fM_event_b51) h
  · exact (t_fM_event_b51) h
theorem t_fM_comes_b87 {s : ev_M} {j1 : Option ev_V} {j2 : Option ev_V} {q : ev_M} (h : fM_comes_b87 s = some q) : RR 351 87 [oR 549 0, j1, j2] [] s (cvV q) := by
  refine rg_step 6 (G' := fun f => evT f 351 97 [oR 549 0, nn, nn] [] (wI s 549 134 ((s.1 549 134) + (cI 1)))) (fun _ => rfl) (rg_ltM h fun s1 h => ?_)
  exact rg_end 1 (fun _ => rfl) (by cases h; rfl)
theorem T_fM_comes {s : ev_M} {a1 : Int32} {a2 : Int32} {q : ev_M} (h : fM_comes s a1 a2 = some q) : RR 351 0 [oR 549 0, oI a1, oI a2] [] s (cvV q) := by
  refine rg_step 5 (G' := fun f => if inb a1 300 = true then evT f 351 7 [oR 549 0, oI a1, oI a2] [] (wI s 583 (ix a1) a2) else none) (fun _ => rfl) (rg_gd h fun h => rg_ltM h fun s2 h => ?_)
  refine rg_step 7 (G' := fun f => if inb a1 300 = true then evT f 351 16 [oR 549 0, oI a1, oI a2] [vI (s2.1 591 (ix a1)), vI a2, vI a1, vR 549 0] s2 else none) (fun _ => rfl) (rg_gd h fun h => ?_)
  refine rg_step 3 (G' := fun f => ev_after (evT f 350 0 [oR 549 0, oI a1, oI a2, oI (s2.1 591 (ix a1)), oI (s2.1 549 22)] [] s2) (fun q => evT f 351 23 [oR 549 0, oI a1, oI a2] (q.2 ++ []) q.1)) (fun _ => rfl) (rg_bd1 h fun s3 hc h => rg_call (q := cvV s3) (T_fM_event hc) ?_)
  refine rg_step 6 (G' := fun f => if inb a1 300 = true then evT f 351 33 [oR 549 0, oI a1, oI a2] [vI (s3.1 587 (ix a1)), vR 627 0] s3 else none) (fun _ => rfl) (rg_gd h fun h => ?_)
  refine rg_step 3 (G' := fun f => if inb ((s3.1 587 (ix a1)) - (cI 4)) 30 = true then evT f 351 36 [oR 549 0, oI a1, oI a2] [vI (s3.1 627 (ix ((s3.1 587 (ix a1)) - (cI 4))))] s3 else none) (fun _ => rfl) (rg_gd h fun h => ?_)
  refine rg_step 6 (G' := fun f => if (((s3.1 627 (ix ((s3.1 587 (ix a1)) - (cI 4)))) >>> (a2 &&& 31)) &&& (cI 1)) = (cI 1) then evT f 351 44 [oR 549 0, oI a1, oI a2] [] s3 else evT f 351 97 [oR 549 0, oI a1, oI a2] [] s3) (fun _ => rfl) (rg_if h (fun h => ?_) fun h => ?_)
  · refine rg_step 4 (G' := fun f => if (s3.1 549 134) < (cI 3000) then evT f 351 54 [oR 549 0, oI a1, oI a2] [] s3 else evT f 351 87 [oR 549 0, oI a1, oI a2] [] s3) (fun _ => rfl) (rg_if h (fun h => ?_) fun h => ?_)
    · refine rg_step 6 (G' := fun f => if inb (s3.1 549 134) 3000 = true then evT f 351 64 [oR 549 0, oI a1, oI a2] [] (wI s3 644 (ix (s3.1 549 134)) a1) else none) (fun _ => rfl) (rg_gd h fun h => rg_ltM h fun s4 h => ?_)
      refine rg_step 6 (G' := fun f => if inb (s4.1 549 134) 3000 = true then evT f 351 74 [oR 549 0, oI a1, oI a2] [] (wI s4 645 (ix (s4.1 549 134)) a2) else none) (fun _ => rfl) (rg_gd h fun h => rg_ltM h fun s5 h => ?_)
      refine rg_step 7 (G' := fun f => if inb (s5.1 549 134) 3000 = true then evT f 351 87 [oR 549 0, oI a1, oI a2] [] (wI s5 646 (ix (s5.1 549 134)) (s5.1 549 22)) else none) (fun _ => rfl) (rg_gd h fun h => rg_ltM h fun s6 h => ?_)
      exact (t_fM_comes_b87) h
    · exact (t_fM_comes_b87) h
  · exact rg_end 1 (fun _ => rfl) (by cases h; rfl)
theorem t_fM_doItem_b93 {s : ev_M} {j1 : Option ev_V} {j2 : Option ev_V} {j3 : Option ev_V} {j4 : Option ev_V} {j5 : Option ev_V} {j6 : Option ev_V} {j7 : Option ev_V} {j8 : Option ev_V} {q : ev_M × Int32} (h : fM_doItem_b93 s = some q) : RR 403 93 [oR 549 0, j1, j2, j3, j4, j5, j6, j7, j8] [] s (cvI q) := by
  refine rg_step 3 (G' := fun f => ev_after (evT f 315 0 [oR 549 0, oI (cI (-102))] [] s) (fun q => evT f 403 99 [oR 549 0, nn, nn, nn, nn, nn, nn, nn, nn] (q.2 ++ []) q.1)) (fun _ => rfl) (rg_bd2 h fun s1 v2 hc h => rg_call (q := cvI (s1, v2)) (T_fM_no hc) ?_)
  exact rg_end 1 (fun _ => rfl) (by cases h; rfl)
theorem t_fM_doItem_b117 {s : ev_M} {j1 : Option ev_V} {j2 : Option ev_V} {j3 : Option ev_V} {j4 : Option ev_V} {j5 : Option ev_V} {j6 : Option ev_V} {j7 : Option ev_V} {j8 : Option ev_V} {q : ev_M × Int32} (h : fM_doItem_b117 s = some q) : RR 403 117 [oR 549 0, j1, j2, j3, j4, j5, j6, j7, j8] [] s (cvI q) := by
  refine rg_step 3 (G' := fun f => ev_after (evT f 315 0 [oR 549 0, oI (cI (-104))] [] s) (fun q => evT f 403 123 [oR 549 0, nn, nn, nn, nn, nn, nn, nn, nn] (q.2 ++ []) q.1)) (fun _ => rfl) (rg_bd2 h fun s3 v4 hc h => rg_call (q := cvI (s3, v4)) (T_fM_no hc) ?_)
  exact rg_end 1 (fun _ => rfl) (by cases h; rfl)
theorem t_fM_doItem_b45 {s : ev_M} {x1 : Int32} {x2 : Int32} {x3 : Int32} {x4 : Int32} {x5 : Int32} {x6 : Int32} {y0 : Int32} {j7 : Option ev_V} {j8 : Option ev_V} {q : ev_M × Int32} (h : fM_doItem_b45 s x1 x2 x3 x4 x5 x6 y0 = some q) : RR 403 45 [oR 549 0, oI x1, oI x2, oI x3, oI x4, oI x5, oI x6, j7, j8] [vI y0] s (cvI q) := by
  refine rg_step 5 (G' := fun f => ev_after (evT f 311 0 [oI x1, oI (cI 0), oI (cI 3)] [] s) (fun q => evT f 403 53 [oR 549 0, oI x1, oI x2, oI x3, oI x4, oI x5, oI x6, oI y0, nn] (q.2 ++ []) q.1)) (fun _ => rfl) (rg_bd1 h fun v5 hc h => rg_call (q := cvP s v5) (T_fM_in hc) ?_)
  refine rg_step 1 (G' := fun f => if v5 = 0 then evT f 403 93 [oR 549 0, oI x1, oI x2, oI x3, oI x4, oI x5, oI x6, oI y0, nn] [] s else evT f 403 56 [oR 549 0, oI x1, oI x2, oI x3, oI x4, oI x5, oI x6, oI y0, nn] [] s) (fun _ => rfl) (rg_if h (fun h => ?_) fun h => ?_)
  · exact (t_fM_doItem_b93) h
  · refine rg_step 4 (G' := fun f => ev_after (evT f 311 0 [oI x2, oI (cI 1), oI (cI 30000)] [] s) (fun q => evT f 403 64 [oR 549 0, oI x1, oI x2, oI x3, oI x4, oI x5, oI x6, oI y0, nn] (q.2 ++ []) q.1)) (fun _ => rfl) (rg_bd1 h fun v6 hc h => rg_call (q := cvP s v6) (T_fM_in hc) ?_)
    refine rg_step 1 (G' := fun f => if v6 = 0 then evT f 403 93 [oR 549 0, oI x1, oI x2, oI x3, oI x4, oI x5, oI x6, oI y0, nn] [] s else evT f 403 67 [oR 549 0, oI x1, oI x2, oI x3, oI x4, oI x5, oI x6, oI y0, nn] [] s) (fun _ => rfl) (rg_if h (fun h => ?_) fun h => ?_)
    · exact (t_fM_doItem_b93) h
    · refine rg_step 4 (G' := fun f => ev_after (evT f 311 0 [oI x3, oI (cI 0), oI (cI 7)] [] s) (fun q => evT f 403 74 [oR 549 0, oI x1, oI x2, oI x3, oI x4, oI x5, oI x6, oI y0, nn] (q.2 ++ []) q.1)) (fun _ => rfl) (rg_bd1 h fun v7 hc h => rg_call (q := cvP s v7) (T_fM_in hc) ?_)
      refine rg_step 1 (G' := fun f => if v7 = 0 then evT f 403 93 [oR 549 0, oI x1, oI x2, oI x3, oI x4, oI x5, oI x6, oI y0, nn] [] s else evT f 403 77 [oR 549 0, oI x1, oI x2, oI x3, oI x4, oI x5, oI x6, oI y0, nn] [] s) (fun _ => rfl) (rg_if h (fun h => ?_) fun h => ?_)
      · exact (t_fM_doItem_b93) h
      · refine rg_step 4 (G' := fun f => ev_after (evT f 311 0 [oI x5, oI (cI 1), oI (cI 99)] [] s) (fun q => evT f 403 85 [oR 549 0, oI x1, oI x2, oI x3, oI x4, oI x5, oI x6, oI y0, nn] (q.2 ++ []) q.1)) (fun _ => rfl) (rg_bd1 h fun v8 hc h => rg_call (q := cvP s v8) (T_fM_in hc) ?_)
        refine rg_step 1 (G' := fun f => if v8 = 0 then evT f 403 93 [oR 549 0, oI x1, oI x2, oI x3, oI x4, oI x5, oI x6, oI y0, nn] [] s else evT f 403 88 [oR 549 0, oI x1, oI x2, oI x3, oI x4, oI x5, oI x6, oI y0, nn] [] s) (fun _ => rfl) (rg_if h (fun h => ?_) fun h => ?_)
        · exact (t_fM_doItem_b93) h
        · refine rg_step 2 (G' := fun f => if y0 = 0 then evT f 403 93 [oR 549 0, oI x1, oI x2, oI x3, oI x4, oI x5, oI x6, oI y0, nn] [] s else evT f 403 100 [oR 549 0, oI x1, oI x2, oI x3, oI x4, oI x5, oI x6, oI y0, nn] [] s) (fun _ => rfl) (rg_if h (fun h => ?_) fun h => ?_)
          · exact (t_fM_doItem_b93) h
          · refine rg_step 4 (G' := fun f => if (s.1 549 58) = (cI 300) then evT f 403 117 [oR 549 0, oI x1, oI x2, oI x3, oI x4, oI x5, oI x6, oI y0, nn] [] s else evT f 403 110 [oR 549 0, oI x1, oI x2, oI x3, oI x4, oI x5, oI x6, oI y0, nn] [] s) (fun _ => rfl) (rg_if h (fun h => ?_) fun h => ?_)
            · exact (t_fM_doItem_b117) h
            · refine rg_step 2 (G' := fun f => ev_after (evT f 316 0 [oR 549 0, nn] [] s) (fun q => evT f 403 114 [oR 549 0, oI x1, oI x2, oI x3, oI x4, oI x5, oI x6, oI y0, nn] (q.2 ++ []) q.1)) (fun _ => rfl) (rg_bd1 h fun v9 hc h => rg_call (q := cvP s v9) (T_fM_full hc) ?_)
              refine rg_step 1 (G' := fun f => if v9 = 0 then evT f 403 124 [oR 549 0, oI x1, oI x2, oI x3, oI x4, oI x5, oI x6, oI y0, nn] [] s else evT f 403 117 [oR 549 0, oI x1, oI x2, oI x3, oI x4, oI x5, oI x6, oI y0, nn] [] s) (fun _ => rfl) (rg_if h (fun h => ?_) fun h => ?_)
              · refine rg_step 3 (G' := fun f => evT f 403 130 [oR 549 0, oI x1, oI x2, oI x3, oI x4, oI x5, oI x6, oI y0, oI (s.1 549 58)] [] s) (fun _ => rfl) (rg_ltI (P := fun v10 => RG (fun f => evT f 403 130 [oR 549 0, oI x1, oI x2, oI x3, oI x4, oI x5, oI x6, oI y0, oI v10] [] s) (cvI q)) h fun v10 h => ?_)
                refine rg_step 6 (G' := fun f => evT f 403 140 [oR 549 0, oI x1, oI x2, oI x3, oI x4, oI x5, oI x6, oI y0, oI v10] [] (wI s 549 58 ((s.1 549 58) + (cI 1)))) (fun _ => rfl) (rg_ltM h fun s11 h => ?_)
                refine rg_step 5 (G' := fun f => if inb v10 300 = true then evT f 403 148 [oR 549 0, oI x1, oI x2, oI x3, oI x4, oI x5, oI x6, oI y0, oI v10] [] (wI s11 584 (ix v10) x1) else none) (fun _ => rfl) (rg_gd h fun h => rg_ltM h fun s12 h => ?_)
                refine rg_step 5 (G' := fun f => if inb v10 300 = true then evT f 403 156 [oR 549 0, oI x1, oI x2, oI x3, oI x4, oI x5, oI x6, oI y0, oI v10] [] (wI s12 585 (ix v10) x2) else none) (fun _ => rfl) (rg_gd h fun h => rg_ltM h fun s13 h => ?_)
                refine rg_step 5 (G' := fun f => if inb v10 300 = true then evT f 403 164 [oR 549 0, oI x1, oI x2, oI x3, oI x4, oI x5, oI x6, oI y0, oI v10] [] (wI s13 586 (ix v10) x3) else none) (fun _ => rfl) (rg_gd h fun h => rg_ltM h fun s14 h => ?_)
                refine rg_step 5 (G' := fun f => if inb v10 300 = true then evT f 403 173 [oR 549 0, oI x1, oI x2, oI x3, oI x4, oI x5, oI x6, oI y0, oI v10] [] (wI s14 587 (ix v10) x4) else none) (fun _ => rfl) (rg_gd h fun h => rg_ltM h fun s15 h => ?_)
                refine rg_step 5 (G' := fun f => if inb v10 300 = true then evT f 403 182 [oR 549 0, oI x1, oI x2, oI x3, oI x4, oI x5, oI x6, oI y0, oI v10] [] (wI s15 588 (ix v10) x5) else none) (fun _ => rfl) (rg_gd h fun h => rg_ltM h fun s16 h => ?_)
                refine rg_step 5 (G' := fun f => if inb v10 300 = true then evT f 403 191 [oR 549 0, oI x1, oI x2, oI x3, oI x4, oI x5, oI x6, oI y0, oI v10] [] (wI s16 589 (ix v10) x6) else none) (fun _ => rfl) (rg_gd h fun h => rg_ltM h fun s17 h => ?_)
                refine rg_step 5 (G' := fun f => if inb v10 300 = true then evT f 403 199 [oR 549 0, oI x1, oI x2, oI x3, oI x4, oI x5, oI x6, oI y0, oI v10] [] (wI s17 590 (ix v10) (cI (-1))) else none) (fun _ => rfl) (rg_gd h fun h => rg_ltM h fun s18 h => ?_)
                refine rg_step 5 (G' := fun f => if inb v10 300 = true then evT f 403 207 [oR 549 0, oI x1, oI x2, oI x3, oI x4, oI x5, oI x6, oI y0, oI v10] [] (wI s18 591 (ix v10) (cI (-1))) else none) (fun _ => rfl) (rg_gd h fun h => rg_ltM h fun s19 h => ?_)
                refine rg_step 5 (G' := fun f => if inb v10 300 = true then evT f 403 215 [oR 549 0, oI x1, oI x2, oI x3, oI x4, oI x5, oI x6, oI y0, oI v10] [] (wI s19 592 (ix v10) (cI 0)) else none) (fun _ => rfl) (rg_gd h fun h => rg_ltM h fun s20 h => ?_)
                refine rg_step 5 (G' := fun f => if inb v10 300 = true then evT f 403 223 [oR 549 0, oI x1, oI x2, oI x3, oI x4, oI x5, oI x6, oI y0, oI v10] [] (wI s20 599 (ix v10) ((cI 0) &&& 1)) else none) (fun _ => rfl) (rg_gd h fun h => rg_ltM h fun s21 h => ?_)
                refine rg_step 5 (G' := fun f => if inb v10 300 = true then evT f 403 231 [oR 549 0, oI x1, oI x2, oI x3, oI x4, oI x5, oI x6, oI y0, oI v10] [] (wI s21 600 (ix v10) (cI (-1))) else none) (fun _ => rfl) (rg_gd h fun h => rg_ltM h fun s22 h => ?_)
                refine rg_step 5 (G' := fun f => if inb v10 300 = true then evT f 403 239 [oR 549 0, oI x1, oI x2, oI x3, oI x4, oI x5, oI x6, oI y0, oI v10] [] (wI s22 601 (ix v10) (cI 0)) else none) (fun _ => rfl) (rg_gd h fun h => rg_ltM h fun s23 h => ?_)
                refine rg_step 5 (G' := fun f => if inb v10 300 = true then evT f 403 247 [oR 549 0, oI x1, oI x2, oI x3, oI x4, oI x5, oI x6, oI y0, oI v10] [] (wI s23 603 (ix v10) ((cI 0) &&& 1)) else none) (fun _ => rfl) (rg_gd h fun h => rg_ltM h fun s24 h => ?_)
                refine rg_step 5 (G' := fun f => if inb v10 300 = true then evT f 403 255 [oR 549 0, oI x1, oI x2, oI x3, oI x4, oI x5, oI x6, oI y0, oI v10] [] (wI s24 604 (ix v10) (cI 0)) else none) (fun _ => rfl) (rg_gd h fun h => rg_ltM h fun s25 h => ?_)
                refine rg_step 3 (G' := fun f => ev_after (evT f 352 0 [oR 549 0, oI v10] [] s25) (fun q => evT f 403 261 [oR 549 0, oI x1, oI x2, oI x3, oI x4, oI x5, oI x6, oI y0, oI v10] (q.2 ++ []) q.1)) (fun _ => rfl) (rg_bd1 h fun s26 hc h => rg_call (q := cvV s26) (T_fM_leaves hc) ?_)
                refine rg_step 4 (G' := fun f => ev_after (evT f 351 0 [oR 549 0, oI v10, oI (cI 0)] [] s26) (fun q => evT f 403 268 [oR 549 0, oI x1, oI x2, oI x3, oI x4, oI x5, oI x6, oI y0, oI v10] (q.2 ++ []) q.1)) (fun _ => rfl) (rg_bd1 h fun s27 hc h => rg_call (q := cvV s27) (T_fM_comes hc) ?_)
                exact rg_end 2 (fun _ => rfl) (by cases h; rfl)
              · exact (t_fM_doItem_b117) h
theorem T_fM_doItem {s : ev_M} {a1 : Int32} {a2 : Int32} {a3 : Int32} {a4 : Int32} {a5 : Int32} {a6 : Int32} {q : ev_M × Int32} (h : fM_doItem s a1 a2 a3 a4 a5 a6 = some q) : RR 403 0 [oR 549 0, oI a1, oI a2, oI a3, oI a4, oI a5, oI a6, nn, nn] [] s (cvI q) := by
  refine rg_step 3 (G' := fun f => ev_after (evT f 347 0 [oR 549 0, oI a4] [] s) (fun q => evT f 403 6 [oR 549 0, oI a1, oI a2, oI a3, oI a4, oI a5, oI a6, nn, nn] (q.2 ++ []) q.1)) (fun _ => rfl) (rg_bd1 h fun v28 hc h => rg_call (q := cvP s v28) (T_fM_isCustomer hc) ?_)
  refine rg_step 1 (G' := fun f => if v28 = 0 then evT f 403 9 [oR 549 0, oI a1, oI a2, oI a3, oI a4, oI a5, oI a6, nn, nn] [] s else evT f 403 16 [oR 549 0, oI a1, oI a2, oI a3, oI a4, oI a5, oI a6, nn, nn] [] s) (fun _ => rfl) (rg_if h (fun h => ?_) fun h => ?_)
  · refine rg_step 3 (G' := fun f => ev_after (evT f 315 0 [oR 549 0, oI (cI (-101))] [] s) (fun q => evT f 403 15 [oR 549 0, oI a1, oI a2, oI a3, oI a4, oI a5, oI a6, nn, nn] (q.2 ++ []) q.1)) (fun _ => rfl) (rg_bd2 h fun s29 v30 hc h => rg_call (q := cvI (s29, v30)) (T_fM_no hc) ?_)
    exact rg_end 1 (fun _ => rfl) (by cases h; rfl)
  · refine rg_step 5 (G' := fun f => if (a3 &&& (cI 2)) = (cI 2) then evT f 403 23 [oR 549 0, oI a1, oI a2, oI a3, oI a4, oI a5, oI a6, nn, nn] [] s else evT f 403 35 [oR 549 0, oI a1, oI a2, oI a3, oI a4, oI a5, oI a6, nn, nn] [] s) (fun _ => rfl) (rg_if h (fun h => ?_) fun h => ?_)
    · refine rg_step 4 (G' := fun f => ev_after (evT f 311 0 [oI a6, oI (cI 1), oI (cI 100000)] [] s) (fun q => evT f 403 32 [oR 549 0, oI a1, oI a2, oI a3, oI a4, oI a5, oI a6, nn, nn] (q.2 ++ []) q.1)) (fun _ => rfl) (rg_bd1 h fun v31 hc h => rg_call (q := cvP s v31) (T_fM_in hc) ?_)
      exact rg_step 1 (G' := fun f => evT f 403 45 [oR 549 0, oI a1, oI a2, oI a3, oI a4, oI a5, oI a6, nn, nn] [vI v31] s) (fun _ => rfl) ((t_fM_doItem_b45) h)
    · refine rg_step 2 (G' := fun f => if a6 = 0 then evT f 403 40 [oR 549 0, oI a1, oI a2, oI a3, oI a4, oI a5, oI a6, nn, nn] [] s else evT f 403 44 [oR 549 0, oI a1, oI a2, oI a3, oI a4, oI a5, oI a6, nn, nn] [] s) (fun _ => rfl) (rg_if h (fun h => ?_) fun h => ?_)
      · exact rg_step 2 (G' := fun f => evT f 403 45 [oR 549 0, oI a1, oI a2, oI a3, oI a4, oI a5, oI a6, nn, nn] [vI (cI 1)] s) (fun _ => rfl) ((t_fM_doItem_b45) h)
      · exact rg_step 1 (G' := fun f => evT f 403 45 [oR 549 0, oI a1, oI a2, oI a3, oI a4, oI a5, oI a6, nn, nn] [vI (cI 0)] s) (fun _ => rfl) ((t_fM_doItem_b45) h)
theorem T_fM_isItem {s : ev_M} {a1 : Int32} {q : Int32} (h : fM_isItem s a1 = some q) : RR 342 0 [oR 549 0, oI a1] [] s (cvP s q) := by
  refine rg_step 7 (G' := fun f => ev_after (evT f 311 0 [oI a1, oI (cI 0), oI ((s.1 549 58) - (cI 1))] [] s) (fun q => evT f 342 11 [oR 549 0, oI a1] (q.2 ++ []) q.1)) (fun _ => rfl) (rg_bd1 h fun v1 hc h => rg_call (q := cvP s v1) (T_fM_in hc) ?_)
  exact rg_step 1 (G' := fun f => if bz v1 = true then some (s, [vI v1]) else none) (fun _ => rfl) (rg_gd h fun h => rg_end 0 (fun _ => rfl) (by cases h; rfl))
theorem t_fM_isEarly_b19 {s : ev_M} {j0 : Option ev_V} {j1 : Option ev_V} {q : Int32} (h : fM_isEarly_b19 s = some q) : RR 405 19 [j0, j1] [] s (cvP s q) := by
  exact rg_end 3 (fun _ => rfl) (by cases h; rfl)
theorem T_fM_isEarly {s : ev_M} {a1 : Int32} {q : Int32} (h : fM_isEarly s a1 = some q) : RR 405 0 [oR 549 0, oI a1] [] s (cvP s q) := by
  refine rg_step 4 (G' := fun f => if inb a1 300 = true then evT f 405 6 [oR 549 0, oI a1] [vI (s.1 583 (ix a1))] s else none) (fun _ => rfl) (rg_gd h fun h => ?_)
  refine rg_step 1 (G' := fun f => if (s.1 583 (ix a1)) = 0 then evT f 405 19 [oR 549 0, oI a1] [] s else evT f 405 9 [oR 549 0, oI a1] [] s) (fun _ => rfl) (rg_if h (fun h => ?_) fun h => ?_)
  · exact (t_fM_isEarly_b19) h
  · refine rg_step 4 (G' := fun f => if inb a1 300 = true then evT f 405 15 [oR 549 0, oI a1] [vI (s.1 583 (ix a1))] s else none) (fun _ => rfl) (rg_gd h fun h => ?_)
    refine rg_step 2 (G' := fun f => if (s.1 583 (ix a1)) = (cI 1) then evT f 405 19 [oR 549 0, oI a1] [] s else evT f 405 23 [oR 549 0, oI a1] [] s) (fun _ => rfl) (rg_if h (fun h => ?_) fun h => ?_)
    · exact (t_fM_isEarly_b19) h
    · exact rg_end 2 (fun _ => rfl) (by cases h; rfl)
theorem T_fM_settle {s : ev_M} {a1 : Int32} {a2 : Int32} {q : ev_M} (h : fM_settle s a1 a2 = some q) : RR 406 0 [oR 549 0, oI a1, oI a2] [] s (cvV q) := by
  refine rg_step 5 (G' := fun f => if inb a1 300 = true then evT f 406 7 [oR 549 0, oI a1, oI a2] [] (wI s 590 (ix a1) a2) else none) (fun _ => rfl) (rg_gd h fun h => rg_ltM h fun s1 h => ?_)
  refine rg_step 5 (G' := fun f => if inb a1 300 = true then evT f 406 14 [oR 549 0, oI a1, oI a2] [] (wI s1 601 (ix a1) (cI 0)) else none) (fun _ => rfl) (rg_gd h fun h => rg_ltM h fun s2 h => ?_)
  exact rg_end 1 (fun _ => rfl) (by cases h; rfl)
theorem t_fM_doAddress_b16 {s : ev_M} {j1 : Option ev_V} {j2 : Option ev_V} {q : ev_M × Int32} (h : fM_doAddress_b16 s = some q) : RR 407 16 [oR 549 0, j1, j2] [] s (cvI q) := by
  refine rg_step 3 (G' := fun f => ev_after (evT f 315 0 [oR 549 0, oI (cI (-101))] [] s) (fun q => evT f 407 22 [oR 549 0, nn, nn] (q.2 ++ []) q.1)) (fun _ => rfl) (rg_bd2 h fun s1 v2 hc h => rg_call (q := cvI (s1, v2)) (T_fM_no hc) ?_)
  exact rg_end 1 (fun _ => rfl) (by cases h; rfl)
theorem t_fM_doAddress_b41 {s : ev_M} {j1 : Option ev_V} {j2 : Option ev_V} {q : ev_M × Int32} (h : fM_doAddress_b41 s = some q) : RR 407 41 [oR 549 0, j1, j2] [] s (cvI q) := by
  refine rg_step 3 (G' := fun f => ev_after (evT f 315 0 [oR 549 0, oI (cI (-103))] [] s) (fun q => evT f 407 47 [oR 549 0, nn, nn] (q.2 ++ []) q.1)) (fun _ => rfl) (rg_bd2 h fun s3 v4 hc h => rg_call (q := cvI (s3, v4)) (T_fM_no hc) ?_)
  exact rg_end 1 (fun _ => rfl) (by cases h; rfl)
theorem T_fM_doAddress {s : ev_M} {a1 : Int32} {a2 : Int32} {q : ev_M × Int32} (h : fM_doAddress s a1 a2 = some q) : RR 407 0 [oR 549 0, oI a1, oI a2] [] s (cvI q) := by
  refine rg_step 3 (G' := fun f => ev_after (evT f 342 0 [oR 549 0, oI a1] [] s) (fun q => evT f 407 5 [oR 549 0, oI a1, oI a2] (q.2 ++ []) q.1)) (fun _ => rfl) (rg_bd1 h fun v5 hc h => rg_call (q := cvP s v5) (T_fM_isItem hc) ?_)
  refine rg_step 1 (G' := fun f => if v5 = 0 then evT f 407 16 [oR 549 0, oI a1, oI a2] [] s else evT f 407 8 [oR 549 0, oI a1, oI a2] [] s) (fun _ => rfl) (rg_if h (fun h => ?_) fun h => ?_)
  · exact (t_fM_doAddress_b16) h
  · refine rg_step 3 (G' := fun f => ev_after (evT f 341 0 [oR 549 0, oI a2] [] s) (fun q => evT f 407 13 [oR 549 0, oI a1, oI a2] (q.2 ++ []) q.1)) (fun _ => rfl) (rg_bd1 h fun v6 hc h => rg_call (q := cvP s v6) (T_fM_isPoint hc) ?_)
    refine rg_step 1 (G' := fun f => if v6 = 0 then evT f 407 16 [oR 549 0, oI a1, oI a2] [] s else evT f 407 23 [oR 549 0, oI a1, oI a2] [] s) (fun _ => rfl) (rg_if h (fun h => ?_) fun h => ?_)
    · exact (t_fM_doAddress_b16) h
    · refine rg_step 4 (G' := fun f => if inb a1 300 = true then evT f 407 29 [oR 549 0, oI a1, oI a2] [vI (s.1 590 (ix a1))] s else none) (fun _ => rfl) (rg_gd h fun h => ?_)
      refine rg_step 2 (G' := fun f => if (s.1 590 (ix a1)) = (cI (-1)) then evT f 407 33 [oR 549 0, oI a1, oI a2] [] s else evT f 407 41 [oR 549 0, oI a1, oI a2] [] s) (fun _ => rfl) (rg_if h (fun h => ?_) fun h => ?_)
      · refine rg_step 3 (G' := fun f => ev_after (evT f 405 0 [oR 549 0, oI a1] [] s) (fun q => evT f 407 38 [oR 549 0, oI a1, oI a2] (q.2 ++ []) q.1)) (fun _ => rfl) (rg_bd1 h fun v7 hc h => rg_call (q := cvP s v7) (T_fM_isEarly hc) ?_)
        refine rg_step 1 (G' := fun f => if v7 = 0 then evT f 407 41 [oR 549 0, oI a1, oI a2] [] s else evT f 407 48 [oR 549 0, oI a1, oI a2] [] s) (fun _ => rfl) (rg_if h (fun h => ?_) fun h => ?_)
        · exact (t_fM_doAddress_b41) h
        · refine rg_step 2 (G' := fun f => ev_after (evT f 316 0 [oR 549 0, nn] [] s) (fun q => evT f 407 52 [oR 549 0, oI a1, oI a2] (q.2 ++ []) q.1)) (fun _ => rfl) (rg_bd1 h fun v8 hc h => rg_call (q := cvP s v8) (T_fM_full hc) ?_)
          refine rg_step 1 (G' := fun f => if v8 = 0 then evT f 407 62 [oR 549 0, oI a1, oI a2] [] s else evT f 407 55 [oR 549 0, oI a1, oI a2] [] s) (fun _ => rfl) (rg_if h (fun h => ?_) fun h => ?_)
          · refine rg_step 4 (G' := fun f => ev_after (evT f 406 0 [oR 549 0, oI a1, oI a2] [] s) (fun q => evT f 407 68 [oR 549 0, oI a1, oI a2] (q.2 ++ []) q.1)) (fun _ => rfl) (rg_bd1 h fun s9 hc h => rg_call (q := cvV s9) (T_fM_settle hc) ?_)
            exact rg_end 2 (fun _ => rfl) (by cases h; rfl)
          · refine rg_step 3 (G' := fun f => ev_after (evT f 315 0 [oR 549 0, oI (cI (-104))] [] s) (fun q => evT f 407 61 [oR 549 0, oI a1, oI a2] (q.2 ++ []) q.1)) (fun _ => rfl) (rg_bd2 h fun s10 v11 hc h => rg_call (q := cvI (s10, v11)) (T_fM_no hc) ?_)
            exact rg_end 1 (fun _ => rfl) (by cases h; rfl)
      · exact (t_fM_doAddress_b41) h
theorem t_fM_doTake_b49 {s : ev_M} {j1 : Option ev_V} {q : ev_M × Int32} (h : fM_doTake_b49 s = some q) : RR 409 49 [oR 549 0, j1] [] s (cvI q) := by
  refine rg_step 3 (G' := fun f => ev_after (evT f 315 0 [oR 549 0, oI (cI (-103))] [] s) (fun q => evT f 409 55 [oR 549 0, nn] (q.2 ++ []) q.1)) (fun _ => rfl) (rg_bd2 h fun s1 v2 hc h => rg_call (q := cvI (s1, v2)) (T_fM_no hc) ?_)
  exact rg_end 1 (fun _ => rfl) (by cases h; rfl)
theorem T_fM_doTake {s : ev_M} {a1 : Int32} {q : ev_M × Int32} (h : fM_doTake s a1 = some q) : RR 409 0 [oR 549 0, oI a1] [] s (cvI q) := by
  refine rg_step 3 (G' := fun f => ev_after (evT f 342 0 [oR 549 0, oI a1] [] s) (fun q => evT f 409 5 [oR 549 0, oI a1] (q.2 ++ []) q.1)) (fun _ => rfl) (rg_bd1 h fun v3 hc h => rg_call (q := cvP s v3) (T_fM_isItem hc) ?_)
  refine rg_step 1 (G' := fun f => if v3 = 0 then evT f 409 8 [oR 549 0, oI a1] [] s else evT f 409 15 [oR 549 0, oI a1] [] s) (fun _ => rfl) (rg_if h (fun h => ?_) fun h => ?_)
  · refine rg_step 3 (G' := fun f => ev_after (evT f 315 0 [oR 549 0, oI (cI (-101))] [] s) (fun q => evT f 409 14 [oR 549 0, oI a1] (q.2 ++ []) q.1)) (fun _ => rfl) (rg_bd2 h fun s4 v5 hc h => rg_call (q := cvI (s4, v5)) (T_fM_no hc) ?_)
    exact rg_end 1 (fun _ => rfl) (by cases h; rfl)
  · refine rg_step 3 (G' := fun f => if (s.1 549 48) = 0 then evT f 409 49 [oR 549 0, oI a1] [] s else evT f 409 22 [oR 549 0, oI a1] [] s) (fun _ => rfl) (rg_if h (fun h => ?_) fun h => ?_)
    · exact (t_fM_doTake_b49) h
    · refine rg_step 4 (G' := fun f => if inb a1 300 = true then evT f 409 28 [oR 549 0, oI a1] [vI (s.1 590 (ix a1))] s else none) (fun _ => rfl) (rg_gd h fun h => ?_)
      refine rg_step 2 (G' := fun f => if (s.1 590 (ix a1)) = (cI (-1)) then evT f 409 32 [oR 549 0, oI a1] [] s else evT f 409 49 [oR 549 0, oI a1] [] s) (fun _ => rfl) (rg_if h (fun h => ?_) fun h => ?_)
      · refine rg_step 4 (G' := fun f => if inb a1 300 = true then evT f 409 38 [oR 549 0, oI a1] [vI (s.1 601 (ix a1))] s else none) (fun _ => rfl) (rg_gd h fun h => ?_)
        refine rg_step 1 (G' := fun f => if (s.1 601 (ix a1)) ≤ 0 then evT f 409 41 [oR 549 0, oI a1] [] s else evT f 409 49 [oR 549 0, oI a1] [] s) (fun _ => rfl) (rg_if h (fun h => ?_) fun h => ?_)
        · refine rg_step 3 (G' := fun f => ev_after (evT f 405 0 [oR 549 0, oI a1] [] s) (fun q => evT f 409 46 [oR 549 0, oI a1] (q.2 ++ []) q.1)) (fun _ => rfl) (rg_bd1 h fun v6 hc h => rg_call (q := cvP s v6) (T_fM_isEarly hc) ?_)
          refine rg_step 1 (G' := fun f => if v6 = 0 then evT f 409 49 [oR 549 0, oI a1] [] s else evT f 409 56 [oR 549 0, oI a1] [] s) (fun _ => rfl) (rg_if h (fun h => ?_) fun h => ?_)
          · exact (t_fM_doTake_b49) h
          · refine rg_step 2 (G' := fun f => ev_after (evT f 316 0 [oR 549 0, nn] [] s) (fun q => evT f 409 60 [oR 549 0, oI a1] (q.2 ++ []) q.1)) (fun _ => rfl) (rg_bd1 h fun v7 hc h => rg_call (q := cvP s v7) (T_fM_full hc) ?_)
            refine rg_step 1 (G' := fun f => if v7 = 0 then evT f 409 70 [oR 549 0, oI a1] [] s else evT f 409 63 [oR 549 0, oI a1] [] s) (fun _ => rfl) (rg_if h (fun h => ?_) fun h => ?_)
            · refine rg_step 4 (G' := fun f => if (s.1 549 50) = (cI (-1)) then evT f 409 89 [oR 549 0, oI a1] [] s else evT f 409 78 [oR 549 0, oI a1] [] s) (fun _ => rfl) (rg_if h (fun h => ?_) fun h => ?_)
              · refine rg_step 5 (G' := fun f => if inb a1 300 = true then evT f 409 96 [oR 549 0, oI a1] [] (wI s 601 (ix a1) (cI 1)) else none) (fun _ => rfl) (rg_gd h fun h => rg_ltM h fun s8 h => ?_)
                exact rg_end 2 (fun _ => rfl) (by cases h; rfl)
              · refine rg_step 5 (G' := fun f => ev_after (evT f 406 0 [oR 549 0, oI a1, oI (s.1 549 50)] [] s) (fun q => evT f 409 87 [oR 549 0, oI a1] (q.2 ++ []) q.1)) (fun _ => rfl) (rg_bd1 h fun s9 hc h => rg_call (q := cvV s9) (T_fM_settle hc) ?_)
                exact rg_end 2 (fun _ => rfl) (by cases h; rfl)
            · refine rg_step 3 (G' := fun f => ev_after (evT f 315 0 [oR 549 0, oI (cI (-104))] [] s) (fun q => evT f 409 69 [oR 549 0, oI a1] (q.2 ++ []) q.1)) (fun _ => rfl) (rg_bd2 h fun s10 v11 hc h => rg_call (q := cvI (s10, v11)) (T_fM_no hc) ?_)
              exact rg_end 1 (fun _ => rfl) (by cases h; rfl)
        · exact (t_fM_doTake_b49) h
      · exact (t_fM_doTake_b49) h
