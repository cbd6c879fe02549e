/-! ===== the interpreter does what the functions say, 7 ===== -/
theorem ti_fBars_set_h5 : ∀ (n : Nat) (s : ev_M) (x1 : Int32) (x3 : Int32) (x4 : Int32) (j2 : Option ev_V) (q : ev_M), fBars_set_h5 n s x1 x3 x4 = some q → RR 2 5 [oR 7 0, oI x1, j2, oI x3, oI x4] [] s (cvV q) := by
  intro n
  induction n with
  | zero => intro s x1 x3 x4 j2 q h; cases h
  | succ n ih =>
    have hk5 : ∀ {s : ev_M} {x1 : Int32} {x3 : Int32} {x4 : Int32} {j2 : Option ev_V} {q : ev_M}, fBars_set_h5 n s x1 x3 x4 = some q → RR 2 5 [oR 7 0, oI x1, j2, oI x3, oI x4] [] s (cvV q) := fun h => ih _ _ _ _ _ _ h
    intro s x1 x3 x4 j2 q h
    refine rg_step 2 (G' := fun f => if x4 < 0 then evT f 2 45 [oR 7 0, oI x1, nn, oI x3, oI x4] [] s else evT f 2 10 [oR 7 0, oI x1, nn, oI x3, oI x4] [] s) (fun _ => rfl) (rg_if h (fun h => ?_) fun h => ?_)
    · exact rg_end 1 (fun _ => rfl) (by cases h; rfl)
    · refine rg_step 7 (G' := fun f => if (x1 + x4) < (cI 15) then evT f 2 22 [oR 7 0, oI x1, nn, oI x3, oI x4] [] s else evT f 2 45 [oR 7 0, oI x1, nn, oI x3, oI x4] [] s) (fun _ => rfl) (rg_if h (fun h => ?_) fun h => ?_)
      · refine rg_step 9 (G' := fun f => if inb (x1 + x4) 15 = true then evT f 2 35 [oR 7 0, oI x1, nn, oI x3, oI x4] [] (wI s 8 (ix (x1 + x4)) (x3 &&& (cI 15))) else none) (fun _ => rfl) (rg_gd h fun h => rg_ltM h fun s1 h => ?_)
        refine rg_step 4 (G' := fun f => evT f 2 39 [oR 7 0, oI x1, nn, oI (x3 >>> ((cI 4) &&& 31)), oI x4] [] s1) (fun _ => rfl) (rg_ltI (P := fun v2 => RG (fun f => evT f 2 39 [oR 7 0, oI x1, nn, oI v2, oI x4] [] s1) (cvV q)) h fun v2 h => ?_)
        exact rg_step 2 (G' := fun f => evT f 2 5 [oR 7 0, oI x1, nn, oI v2, oI (x4 + cI (-1))] [] s1) (fun f => Eq.trans (b := evT (f + 1 + 1) 2 39 [oR 7 0, oI x1, nn, oI v2, oI x4] [] s1) rfl ((ev_inc (f := f + 1) (M := 2) (pc := 39) (i := 4) (n := 3) (c := (-1)) (r := 0) (dl := []) (L := [oR 7 0, oI x1, nn, oI v2, oI x4]) (L' := [oR 7 0, oI x1, nn, oI v2, oI (x4 + cI (-1))]) (s := s1) (y := x4) rfl rfl rfl).trans rfl)) (hk5 h)
      · exact rg_end 1 (fun _ => rfl) (by cases h; rfl)
theorem t_fBars_set_h5 {n : Nat} {s : ev_M} {x1 : Int32} {x3 : Int32} {x4 : Int32} {j2 : Option ev_V} {q : ev_M} (h : fBars_set_h5 n s x1 x3 x4 = some q) : RR 2 5 [oR 7 0, oI x1, j2, oI x3, oI x4] [] s (cvV q) := ti_fBars_set_h5 n s x1 x3 x4 j2 q h
theorem T_fBars_set {s : ev_M} {a1 : Int32} {a2 : Int32} {a3 : Int32} {q : ev_M} (h : fBars_set s a1 a2 a3 = some q) : RR 2 0 [oR 7 0, oI a1, oI a2, oI a3, nn] [] s (cvV q) := by
  refine rg_step 4 (G' := fun f => evT f 2 5 [oR 7 0, oI a1, oI a2, oI a3, oI (a2 - (cI 1))] [] s) (fun _ => rfl) (rg_ltI (P := fun v3 => RG (fun f => evT f 2 5 [oR 7 0, oI a1, oI a2, oI a3, oI v3] [] s) (cvV q)) h fun v3 h => ?_)
  exact (t_fBars_set_h5) h
theorem t_fBars_times_b8 {s : ev_M} {j0 : Option ev_V} {j1 : Option ev_V} {q : Int32} (h : fBars_times_b8 s = some q) : RR 1 8 [j0, j1] [] s (cvP s q) := by
  exact rg_end 3 (fun _ => rfl) (by cases h; rfl)
theorem T_fBars_times {s : ev_M} {a0 : Int32} {a1 : Int32} {q : Int32} (h : fBars_times s a0 a1 = some q) : RR 1 0 [oI a0, oI a1] [] s (cvP s q) := by
  refine rg_step 2 (G' := fun f => if a0 = 0 then evT f 1 8 [oI a0, oI a1] [] s else evT f 1 4 [oI a0, oI a1] [] s) (fun _ => rfl) (rg_if h (fun h => ?_) fun h => ?_)
  · exact (t_fBars_times_b8) h
  · refine rg_step 2 (G' := fun f => if a1 = 0 then evT f 1 8 [oI a0, oI a1] [] s else evT f 1 12 [oI a0, oI a1] [] s) (fun _ => rfl) (rg_if h (fun h => ?_) fun h => ?_)
    · exact (t_fBars_times_b8) h
    · refine rg_step 6 (G' := fun f => if inb (a0 &&& (cI 15)) 16 = true then evT f 1 23 [oI a0, oI a1] [vI (s.1 1001 (ix (a0 &&& (cI 15)))), vR 1002 0] s else none) (fun _ => rfl) (rg_gd h fun h => ?_)
      refine rg_step 5 (G' := fun f => if inb (a1 &&& (cI 15)) 16 = true then evT f 1 31 [oI a0, oI a1] [vI (s.1 1001 (ix (a1 &&& (cI 15)))), vI (s.1 1001 (ix (a0 &&& (cI 15)))), vR 1002 0] s else none) (fun _ => rfl) (rg_gd h fun h => ?_)
      refine rg_step 3 (G' := fun f => if (cI 15) = 0 then none else evT f 1 35 [oI a0, oI a1] [vI (irem ((s.1 1001 (ix (a0 &&& (cI 15)))) + (s.1 1001 (ix (a1 &&& (cI 15))))) (cI 15)), vR 1002 0] s) (fun _ => rfl) (rg_dv h fun h => ?_)
      refine rg_step 1 (G' := fun f => if inb (irem ((s.1 1001 (ix (a0 &&& (cI 15)))) + (s.1 1001 (ix (a1 &&& (cI 15))))) (cI 15)) 15 = true then evT f 1 36 [oI a0, oI a1] [vI (s.1 1002 (ix (irem ((s.1 1001 (ix (a0 &&& (cI 15)))) + (s.1 1001 (ix (a1 &&& (cI 15))))) (cI 15))))] s else none) (fun _ => rfl) (rg_gd h fun h => ?_)
      exact rg_end 1 (fun _ => rfl) (by cases h; rfl)
theorem t_fBars_close_b80 {k24 : ev_M → Int32 → Option ev_M} {k47 : ev_M → Int32 → Int32 → Int32 → Option ev_M} (hk24 : ∀ {s : ev_M} {x1 : Int32} {j2 : Option ev_V} {j3 : Option ev_V} {j4 : Option ev_V} {q : ev_M}, k24 s x1 = some q → RR 3 24 [oR 7 0, oI x1, j2, j3, j4] [] s (cvV q)) (hk47 : ∀ {s : ev_M} {x1 : Int32} {x2 : Int32} {x3 : Int32} {j4 : Option ev_V} {q : ev_M}, k47 s x1 x2 x3 = some q → RR 3 47 [oR 7 0, oI x1, oI x2, oI x3, j4] [] s (cvV q)) {s : ev_M} {x1 : Int32} {x2 : Int32} {x3 : Int32} {y0 : Int32} {j4 : Option ev_V} {q : ev_M} (h : fBars_close_b80 k24 k47 s x1 x2 x3 y0 = some q) : RR 3 80 [oR 7 0, oI x1, oI x2, oI x3, j4] [vI y0] s (cvV q) := by
  refine rg_step 11 (G' := fun f => if inb x3 4 = true then evT f 3 98 [oR 7 0, oI x1, oI x2, oI x3, oI y0] [vI (s.1 1000 (ix x3)), vI x2, vI y0, vI ((cI 11) + x3), vR 8 0] s else none) (fun _ => rfl) (rg_gd h fun h => ?_)
  refine rg_step 1 (G' := fun f => ev_after (evT f 1 0 [oI x2, oI (s.1 1000 (ix x3))] [] s) (fun q => evT f 3 101 [oR 7 0, oI x1, oI x2, oI x3, oI y0] (q.2 ++ [vI y0, vI ((cI 11) + x3), vR 8 0]) q.1)) (fun _ => rfl) (rg_bd1 h fun v1 hc h => rg_call (q := cvP s v1) (T_fBars_times hc) ?_)
  refine rg_step 2 (G' := fun f => if inb ((cI 11) + x3) 15 = true then evT f 3 103 [oR 7 0, oI x1, oI x2, oI x3, oI y0] [] (wI s 8 (ix ((cI 11) + x3)) (y0 ^^^ v1)) else none) (fun _ => rfl) (rg_gd h fun h => rg_ltM h fun s2 h => ?_)
  exact rg_step 2 (G' := fun f => evT f 3 47 [oR 7 0, oI x1, oI x2, oI (x3 + cI 1), oI y0] [] s2) (fun _ => rfl) (hk47 h)
theorem ti_fBars_close_h47 {k24 : ev_M → Int32 → Option ev_M} (hk24 : ∀ {s : ev_M} {x1 : Int32} {j2 : Option ev_V} {j3 : Option ev_V} {j4 : Option ev_V} {q : ev_M}, k24 s x1 = some q → RR 3 24 [oR 7 0, oI x1, j2, j3, j4] [] s (cvV q)) : ∀ (n : Nat) (s : ev_M) (x1 : Int32) (x2 : Int32) (x3 : Int32) (j4 : Option ev_V) (q : ev_M), fBars_close_h47 k24 n s x1 x2 x3 = some q → RR 3 47 [oR 7 0, oI x1, oI x2, oI x3, j4] [] s (cvV q) := by
  intro n
  induction n with
  | zero => intro s x1 x2 x3 j4 q h; cases h
  | succ n ih =>
    have hk47 : ∀ {s : ev_M} {x1 : Int32} {x2 : Int32} {x3 : Int32} {j4 : Option ev_V} {q : ev_M}, fBars_close_h47 k24 n s x1 x2 x3 = some q → RR 3 47 [oR 7 0, oI x1, oI x2, oI x3, j4] [] s (cvV q) := fun h => ih _ _ _ _ _ _ h
    intro s x1 x2 x3 j4 q h
    refine rg_step 4 (G' := fun f => if x3 < (cI 4) then evT f 3 55 [oR 7 0, oI x1, oI x2, oI x3, nn] [] s else evT f 3 109 [oR 7 0, oI x1, oI x2, oI x3, nn] [] s) (fun _ => rfl) (rg_if h (fun h => ?_) fun h => ?_)
    · refine rg_step 6 (G' := fun f => if (x3 + (cI 1)) < (cI 4) then evT f 3 65 [oR 7 0, oI x1, oI x2, oI x3, nn] [] s else evT f 3 79 [oR 7 0, oI x1, oI x2, oI x3, nn] [] s) (fun _ => rfl) (rg_if h (fun h => ?_) fun h => ?_)
      · refine rg_step 8 (G' := fun f => if inb (((cI 11) + x3) + (cI 1)) 15 = true then evT f 3 76 [oR 7 0, oI x1, oI x2, oI x3, nn] [vI (s.1 8 (ix (((cI 11) + x3) + (cI 1))))] s else none) (fun _ => rfl) (rg_gd h fun h => ?_)
        exact rg_step 1 (G' := fun f => evT f 3 80 [oR 7 0, oI x1, oI x2, oI x3, nn] [vI (s.1 8 (ix (((cI 11) + x3) + (cI 1))))] s) (fun _ => rfl) ((t_fBars_close_b80 hk24 hk47) h)
      · exact rg_step 1 (G' := fun f => evT f 3 80 [oR 7 0, oI x1, oI x2, oI x3, nn] [vI (cI 0)] s) (fun _ => rfl) ((t_fBars_close_b80 hk24 hk47) h)
    · exact rg_step 2 (G' := fun f => evT f 3 24 [oR 7 0, oI (x1 + cI 1), oI x2, oI x3, nn] [] s) (fun _ => rfl) (hk24 h)
theorem t_fBars_close_h47 {k24 : ev_M → Int32 → Option ev_M} (hk24 : ∀ {s : ev_M} {x1 : Int32} {j2 : Option ev_V} {j3 : Option ev_V} {j4 : Option ev_V} {q : ev_M}, k24 s x1 = some q → RR 3 24 [oR 7 0, oI x1, j2, j3, j4] [] s (cvV q)) {n : Nat} {s : ev_M} {x1 : Int32} {x2 : Int32} {x3 : Int32} {j4 : Option ev_V} {q : ev_M} (h : fBars_close_h47 k24 n s x1 x2 x3 = some q) : RR 3 47 [oR 7 0, oI x1, oI x2, oI x3, j4] [] s (cvV q) := ti_fBars_close_h47 hk24 n s x1 x2 x3 j4 q h
theorem ti_fBars_close_h24 : ∀ (n : Nat) (s : ev_M) (x1 : Int32) (j2 : Option ev_V) (j3 : Option ev_V) (j4 : Option ev_V) (q : ev_M), fBars_close_h24 n s x1 = some q → RR 3 24 [oR 7 0, oI x1, j2, j3, j4] [] s (cvV q) := by
  intro n
  induction n with
  | zero => intro s x1 j2 j3 j4 q h; cases h
  | succ n ih =>
    have hk24 : ∀ {s : ev_M} {x1 : Int32} {j2 : Option ev_V} {j3 : Option ev_V} {j4 : Option ev_V} {q : ev_M}, fBars_close_h24 n s x1 = some q → RR 3 24 [oR 7 0, oI x1, j2, j3, j4] [] s (cvV q) := fun h => ih _ _ _ _ _ _ h
    intro s x1 j2 j3 j4 q h
    refine rg_step 3 (G' := fun f => if x1 < (cI 11) then evT f 3 30 [oR 7 0, oI x1, nn, nn, nn] [] s else evT f 3 115 [oR 7 0, oI x1, nn, nn, nn] [] s) (fun _ => rfl) (rg_if h (fun h => ?_) fun h => ?_)
    · refine rg_step 4 (G' := fun f => if inb x1 15 = true then evT f 3 36 [oR 7 0, oI x1, nn, nn, nn] [vI (s.1 8 (ix x1))] s else none) (fun _ => rfl) (rg_gd h fun h => ?_)
      refine rg_step 6 (G' := fun f => evT f 3 45 [oR 7 0, oI x1, oI ((s.1 8 (ix x1)) ^^^ (s.1 8 (ix (cI 11)))), nn, nn] [] s) (fun _ => rfl) (rg_ltI (P := fun v3 => RG (fun f => evT f 3 45 [oR 7 0, oI x1, oI v3, nn, nn] [] s) (cvV q)) h fun v3 h => ?_)
      exact rg_step 2 (G' := fun f => evT f 3 47 [oR 7 0, oI x1, oI v3, oI (cI 0), nn] [] s) (fun _ => rfl) ((t_fBars_close_h47 hk24) h)
    · exact rg_end 1 (fun _ => rfl) (by cases h; rfl)
theorem t_fBars_close_h24 {n : Nat} {s : ev_M} {x1 : Int32} {j2 : Option ev_V} {j3 : Option ev_V} {j4 : Option ev_V} {q : ev_M} (h : fBars_close_h24 n s x1 = some q) : RR 3 24 [oR 7 0, oI x1, j2, j3, j4] [] s (cvV q) := ti_fBars_close_h24 n s x1 j2 j3 j4 q h
theorem ti_fBars_close_h3 : ∀ (n : Nat) (s : ev_M) (x1 : Int32) (j2 : Option ev_V) (j3 : Option ev_V) (j4 : Option ev_V) (q : ev_M), fBars_close_h3 n s x1 = some q → RR 3 3 [oR 7 0, oI x1, j2, j3, j4] [] s (cvV q) := by
  intro n
  induction n with
  | zero => intro s x1 j2 j3 j4 q h; cases h
  | succ n ih =>
    have hk3 : ∀ {s : ev_M} {x1 : Int32} {j2 : Option ev_V} {j3 : Option ev_V} {j4 : Option ev_V} {q : ev_M}, fBars_close_h3 n s x1 = some q → RR 3 3 [oR 7 0, oI x1, j2, j3, j4] [] s (cvV q) := fun h => ih _ _ _ _ _ _ h
    intro s x1 j2 j3 j4 q h
    refine rg_step 3 (G' := fun f => if x1 < (cI 15) then evT f 3 9 [oR 7 0, oI x1, nn, nn, nn] [] s else evT f 3 22 [oR 7 0, oI x1, nn, nn, nn] [] s) (fun _ => rfl) (rg_if h (fun h => ?_) fun h => ?_)
    · refine rg_step 5 (G' := fun f => if inb x1 15 = true then evT f 3 16 [oR 7 0, oI x1, nn, nn, nn] [] (wI s 8 (ix x1) (cI 0)) else none) (fun _ => rfl) (rg_gd h fun h => rg_ltM h fun s4 h => ?_)
      exact rg_step 2 (G' := fun f => evT f 3 3 [oR 7 0, oI (x1 + cI 1), nn, nn, nn] [] s4) (fun _ => rfl) (hk3 h)
    · exact rg_step 2 (G' := fun f => evT f 3 24 [oR 7 0, oI (cI 0), nn, nn, nn] [] s) (fun _ => rfl) ((t_fBars_close_h24) h)
theorem t_fBars_close_h3 {n : Nat} {s : ev_M} {x1 : Int32} {j2 : Option ev_V} {j3 : Option ev_V} {j4 : Option ev_V} {q : ev_M} (h : fBars_close_h3 n s x1 = some q) : RR 3 3 [oR 7 0, oI x1, j2, j3, j4] [] s (cvV q) := ti_fBars_close_h3 n s x1 j2 j3 j4 q h
theorem T_fBars_close {s : ev_M} {q : ev_M} (h : fBars_close s = some q) : RR 3 0 [oR 7 0, nn, nn, nn, nn] [] s (cvV q) := by
  exact rg_step 2 (G' := fun f => evT f 3 3 [oR 7 0, oI (cI 11), nn, nn, nn] [] s) (fun _ => rfl) ((t_fBars_close_h3) h)
theorem T_fItems_drawBars_7 {s : ev_M} {a1 : Int32} {q : ev_M} (h : fItems_drawBars_7 s a1 = some q) : RR 75 0 [oR 100 0, oI a1, oR 7 0] [] s (cvV q) := by
  refine rg_step 5 (G' := fun f => ev_after (evT f 2 0 [oR 7 0, oI (cI 0), oI (cI 3), oI a1, nn] [] s) (fun q => evT f 75 7 [oR 100 0, oI a1, oR 7 0] (q.2 ++ []) q.1)) (fun _ => rfl) (rg_bd1 h fun s1 hc h => rg_call (q := cvV s1) (T_fBars_set hc) ?_)
  refine rg_step 9 (G' := fun f => if inb a1 300 = true then evT f 75 18 [oR 100 0, oI a1, oR 7 0] [vI (s1.1 (102 + (ix (cI 1))) (ix a1)), vI (cI 1), vI (cI 3), vR 7 0] s1 else none) (fun _ => rfl) (rg_gd h fun h => ?_)
  refine rg_step 1 (G' := fun f => ev_after (evT f 2 0 [oR 7 0, oI (cI 3), oI (cI 1), oI (s1.1 (102 + (ix (cI 1))) (ix a1)), nn] [] s1) (fun q => evT f 75 21 [oR 100 0, oI a1, oR 7 0] (q.2 ++ []) q.1)) (fun _ => rfl) (rg_bd1 h fun s2 hc h => rg_call (q := cvV s2) (T_fBars_set hc) ?_)
  refine rg_step 9 (G' := fun f => if inb a1 300 = true then evT f 75 33 [oR 100 0, oI a1, oR 7 0] [vI (s2.1 (102 + (ix (cI 7))) (ix a1)), vI (cI 3), vI (cI 4), vR 7 0] s2 else none) (fun _ => rfl) (rg_gd h fun h => ?_)
  refine rg_step 3 (G' := fun f => ev_after (evT f 2 0 [oR 7 0, oI (cI 4), oI (cI 3), oI ((s2.1 (102 + (ix (cI 7))) (ix a1)) + (cI 1)), nn] [] s2) (fun q => evT f 75 38 [oR 100 0, oI a1, oR 7 0] (q.2 ++ []) q.1)) (fun _ => rfl) (rg_bd1 h fun s3 hc h => rg_call (q := cvV s3) (T_fBars_set hc) ?_)
  refine rg_step 9 (G' := fun f => if inb a1 300 = true then evT f 75 50 [oR 100 0, oI a1, oR 7 0] [vI (s3.1 (102 + (ix (cI 3))) (ix a1)), vI (cI 1), vI (cI 7), vR 7 0] s3 else none) (fun _ => rfl) (rg_gd h fun h => ?_)
  refine rg_step 1 (G' := fun f => ev_after (evT f 2 0 [oR 7 0, oI (cI 7), oI (cI 1), oI (s3.1 (102 + (ix (cI 3))) (ix a1)), nn] [] s3) (fun q => evT f 75 53 [oR 100 0, oI a1, oR 7 0] (q.2 ++ []) q.1)) (fun _ => rfl) (rg_bd1 h fun s4 hc h => rg_call (q := cvV s4) (T_fBars_set hc) ?_)
  refine rg_step 9 (G' := fun f => if inb a1 300 = true then evT f 75 65 [oR 100 0, oI a1, oR 7 0] [vI (s4.1 (102 + (ix (cI 2))) (ix a1)), vI (cI 3), vI (cI 8), vR 7 0] s4 else none) (fun _ => rfl) (rg_gd h fun h => ?_)
  refine rg_step 1 (G' := fun f => ev_after (evT f 2 0 [oR 7 0, oI (cI 8), oI (cI 3), oI (s4.1 (102 + (ix (cI 2))) (ix a1)), nn] [] s4) (fun q => evT f 75 68 [oR 100 0, oI a1, oR 7 0] (q.2 ++ []) q.1)) (fun _ => rfl) (rg_bd1 h fun s5 hc h => rg_call (q := cvV s5) (T_fBars_set hc) ?_)
  refine rg_step 2 (G' := fun f => ev_after (evT f 3 0 [oR 7 0, nn, nn, nn, nn] [] s5) (fun q => evT f 75 72 [oR 100 0, oI a1, oR 7 0] (q.2 ++ []) q.1)) (fun _ => rfl) (rg_bd1 h fun s6 hc h => rg_call (q := cvV s6) (T_fBars_close hc) ?_)
  exact rg_end 1 (fun _ => rfl) (by cases h; rfl)
theorem T_fPH_bar {s : ev_M} {a1 : Int32} {a2 : Int32} {q : ev_M × Int32} (h : fPH_bar s a1 a2 = some q) : RR 253 0 [oR 0 0, oI a1, oI a2] [] s (cvI q) := by
  refine rg_step 4 (G' := fun f => if (s.1 9 9) = 0 then evT f 253 13 [oR 0 0, oI a1, oI a2] [] s else evT f 253 10 [oR 0 0, oI a1, oI a2] [] s) (fun _ => rfl) (rg_if h (fun h => ?_) fun h => ?_)
  · refine rg_step 4 (G' := fun f => ev_after (evT f 51 0 [oR 100 0, oI a1] [] s) (fun q => evT f 253 21 [oR 0 0, oI a1, oI a2] (q.2 ++ []) q.1)) (fun _ => rfl) (rg_bd1 h fun v1 hc h => rg_call (q := cvP s v1) (T_fItems_has hc) ?_)
    refine rg_step 1 (G' := fun f => if v1 = 0 then evT f 253 24 [oR 0 0, oI a1, oI a2] [] s else evT f 253 27 [oR 0 0, oI a1, oI a2] [] s) (fun _ => rfl) (rg_if h (fun h => ?_) fun h => ?_)
    · exact rg_end 2 (fun _ => rfl) (by cases h; rfl)
    · refine rg_step 4 (G' := fun f => ev_after (evT f 308 0 [oI a2, oI (cI 0), oI (cI 14)] [] s) (fun q => evT f 253 34 [oR 0 0, oI a1, oI a2] (q.2 ++ []) q.1)) (fun _ => rfl) (rg_bd1 h fun v2 hc h => rg_call (q := cvP s v2) (T_fPH_outside hc) ?_)
      refine rg_step 1 (G' := fun f => if v2 = 0 then evT f 253 40 [oR 0 0, oI a1, oI a2] [] s else evT f 253 37 [oR 0 0, oI a1, oI a2] [] s) (fun _ => rfl) (rg_if h (fun h => ?_) fun h => ?_)
      · refine rg_step 6 (G' := fun f => ev_after (evT f 75 0 [oR 100 0, oI a1, oR 7 0] [] s) (fun q => evT f 253 52 [oR 0 0, oI a1, oI a2] (q.2 ++ []) q.1)) (fun _ => rfl) (rg_bd1 h fun s3 hc h => rg_call (q := cvV s3) (T_fItems_drawBars_7 hc) ?_)
        refine rg_step 5 (G' := fun f => if inb a2 15 = true then evT f 253 61 [oR 0 0, oI a1, oI a2] [vI (s3.1 8 (ix a2))] s3 else none) (fun _ => rfl) (rg_gd h fun h => ?_)
        exact rg_end 1 (fun _ => rfl) (by cases h; rfl)
      · exact rg_end 2 (fun _ => rfl) (by cases h; rfl)
  · exact rg_end 2 (fun _ => rfl) (by cases h; rfl)
theorem t_fM_times_b43 {s : ev_M} {k4 : Int32 → Int32 → Int32 → Int32 → Option Int32} (hk4 : ∀ {x0 : Int32} {x1 : Int32} {x2 : Int32} {x3 : Int32} {q : Int32}, k4 x0 x1 x2 x3 = some q → RR 420 4 [oI x0, oI x1, oI x2, oI x3] [] s (cvP s q)) {x0 : Int32} {x1 : Int32} {x3 : Int32} {y0 : Int32} {j2 : Option ev_V} {q : Int32} (h : fM_times_b43 s k4 x0 x1 x3 y0 = some q) : RR 420 43 [oI x0, oI x1, j2, oI x3] [vI y0] s (cvP s q) := by
  exact rg_step 3 (G' := fun f => evT f 420 4 [oI x0, oI x1, oI y0, oI (x3 + cI (-1))] [] s) (fun f => Eq.trans (b := evT (f + 1 + 1) 420 44 [oI x0, oI x1, oI y0, oI x3] [] s) rfl ((ev_inc (f := f + 1) (M := 420) (pc := 44) (i := 3) (n := 3) (c := (-1)) (r := 0) (dl := []) (L := [oI x0, oI x1, oI y0, oI x3]) (L' := [oI x0, oI x1, oI y0, oI (x3 + cI (-1))]) (s := s) (y := x3) rfl rfl rfl).trans rfl)) (hk4 h)
theorem t_fM_times_b26 {s : ev_M} {k4 : Int32 → Int32 → Int32 → Int32 → Option Int32} (hk4 : ∀ {x0 : Int32} {x1 : Int32} {x2 : Int32} {x3 : Int32} {q : Int32}, k4 x0 x1 x2 x3 = some q → RR 420 4 [oI x0, oI x1, oI x2, oI x3] [] s (cvP s q)) {x0 : Int32} {x1 : Int32} {x3 : Int32} {y0 : Int32} {j2 : Option ev_V} {q : Int32} (h : fM_times_b26 s k4 x0 x1 x3 y0 = some q) : RR 420 26 [oI x0, oI x1, j2, oI x3] [vI y0] s (cvP s q) := by
  refine rg_step 8 (G' := fun f => if ((x1 >>> (x3 &&& 31)) &&& (cI 1)) = (cI 1) then evT f 420 36 [oI x0, oI x1, oI y0, oI x3] [] s else evT f 420 42 [oI x0, oI x1, oI y0, oI x3] [] s) (fun _ => rfl) (rg_if h (fun h => ?_) fun h => ?_)
  · exact rg_step 4 (G' := fun f => evT f 420 43 [oI x0, oI x1, oI y0, oI x3] [vI (y0 ^^^ x0)] s) (fun _ => rfl) ((t_fM_times_b43 hk4) h)
  · exact rg_step 1 (G' := fun f => evT f 420 43 [oI x0, oI x1, oI y0, oI x3] [vI y0] s) (fun _ => rfl) ((t_fM_times_b43 hk4) h)
theorem ti_fM_times_h4 {s : ev_M} : ∀ (n : Nat) (x0 : Int32) (x1 : Int32) (x2 : Int32) (x3 : Int32) (q : Int32), fM_times_h4 s n x0 x1 x2 x3 = some q → RR 420 4 [oI x0, oI x1, oI x2, oI x3] [] s (cvP s q) := by
  intro n
  induction n with
  | zero => intro x0 x1 x2 x3 q h; cases h
  | succ n ih =>
    have hk4 : ∀ {x0 : Int32} {x1 : Int32} {x2 : Int32} {x3 : Int32} {q : Int32}, fM_times_h4 s n x0 x1 x2 x3 = some q → RR 420 4 [oI x0, oI x1, oI x2, oI x3] [] s (cvP s q) := fun h => ih _ _ _ _ _ h
    intro x0 x1 x2 x3 q h
    refine rg_step 2 (G' := fun f => if x3 < 0 then evT f 420 50 [oI x0, oI x1, oI x2, oI x3] [] s else evT f 420 8 [oI x0, oI x1, oI x2, oI x3] [] s) (fun _ => rfl) (rg_if h (fun h => ?_) fun h => ?_)
    · exact rg_end 2 (fun _ => rfl) (by cases h; rfl)
    · refine rg_step 4 (G' := fun f => evT f 420 12 [oI x0, oI x1, oI (x2 <<< ((cI 1) &&& 31)), oI x3] [] s) (fun _ => rfl) (rg_ltI (P := fun v1 => RG (fun f => evT f 420 12 [oI x0, oI x1, oI v1, oI x3] [] s) (cvP s q)) h fun v1 h => ?_)
      refine rg_step 3 (G' := fun f => if v1 ≤ (cI 15) then evT f 420 25 [oI x0, oI x1, oI v1, oI x3] [] s else evT f 420 18 [oI x0, oI x1, oI v1, oI x3] [] s) (fun _ => rfl) (rg_if h (fun h => ?_) fun h => ?_)
      · exact rg_step 1 (G' := fun f => evT f 420 26 [oI x0, oI x1, oI v1, oI x3] [vI v1] s) (fun _ => rfl) ((t_fM_times_b26 hk4) h)
      · exact rg_step 4 (G' := fun f => evT f 420 26 [oI x0, oI x1, oI v1, oI x3] [vI (v1 ^^^ (cI 19))] s) (fun _ => rfl) ((t_fM_times_b26 hk4) h)
theorem t_fM_times_h4 {s : ev_M} {n : Nat} {x0 : Int32} {x1 : Int32} {x2 : Int32} {x3 : Int32} {q : Int32} (h : fM_times_h4 s n x0 x1 x2 x3 = some q) : RR 420 4 [oI x0, oI x1, oI x2, oI x3] [] s (cvP s q) := ti_fM_times_h4 n x0 x1 x2 x3 q h
theorem T_fM_times {s : ev_M} {a0 : Int32} {a1 : Int32} {q : Int32} (h : fM_times s a0 a1 = some q) : RR 420 0 [oI a0, oI a1, nn, nn] [] s (cvP s q) := by
  exact rg_step 4 (G' := fun f => evT f 420 4 [oI a0, oI a1, oI (cI 0), oI (cI 3)] [] s) (fun _ => rfl) ((t_fM_times_h4) h)
theorem ti_fM_bars_h162 : ∀ (n : Nat) (s : ev_M) (x4 : Int32) (x5 : Int32) (x6 : Int32) (x7 : Int32) (x8 : Int32) (j1 : Option ev_V) (j2 : Option ev_V) (j3 : Option ev_V) (j9 : Option ev_V) (q : ev_M), fM_bars_h162 n s x4 x5 x6 x7 x8 = some q → RR 423 162 [oR 549 0, j1, j2, j3, oI x4, oI x5, oI x6, oI x7, oI x8, j9] [] s (cvV q) := by
  intro n
  induction n with
  | zero => intro s x4 x5 x6 x7 x8 j1 j2 j3 j9 q h; cases h
  | succ n ih =>
    have hk162 : ∀ {s : ev_M} {x4 : Int32} {x5 : Int32} {x6 : Int32} {x7 : Int32} {x8 : Int32} {j1 : Option ev_V} {j2 : Option ev_V} {j3 : Option ev_V} {j9 : Option ev_V} {q : ev_M}, fM_bars_h162 n s x4 x5 x6 x7 x8 = some q → RR 423 162 [oR 549 0, j1, j2, j3, oI x4, oI x5, oI x6, oI x7, oI x8, j9] [] s (cvV q) := fun h => ih _ _ _ _ _ _ _ _ _ _ _ h
    intro s x4 x5 x6 x7 x8 j1 j2 j3 j9 q h
    refine rg_step 3 (G' := fun f => if x8 < (cI 11) then evT f 423 169 [oR 549 0, nn, nn, nn, oI x4, oI x5, oI x6, oI x7, oI x8, nn] [] s else evT f 423 232 [oR 549 0, nn, nn, nn, oI x4, oI x5, oI x6, oI x7, oI x8, nn] [] s) (fun _ => rfl) (rg_if h (fun h => ?_) fun h => ?_)
    · refine rg_step 5 (G' := fun f => if inb x8 15 = true then evT f 423 178 [oR 549 0, nn, nn, nn, oI x4, oI x5, oI x6, oI x7, oI x8, nn] [vI (s.1 660 (ix x8)), vI x4] s else none) (fun _ => rfl) (rg_gd h fun h => ?_)
      refine rg_step 2 (G' := fun f => evT f 423 181 [oR 549 0, nn, nn, nn, oI x4, oI x5, oI x6, oI x7, oI x8, oI (x4 ^^^ (s.1 660 (ix x8)))] [] s) (fun _ => rfl) (rg_ltI (P := fun v1 => RG (fun f => evT f 423 181 [oR 549 0, nn, nn, nn, oI x4, oI x5, oI x6, oI x7, oI x8, oI v1] [] s) (cvV q)) h fun v1 h => ?_)
      refine rg_step 4 (G' := fun f => ev_after (evT f 420 0 [oI v1, oI (cI 13), nn, nn] [] s) (fun q => evT f 423 190 [oR 549 0, nn, nn, nn, oI x4, oI x5, oI x6, oI x7, oI x8, oI v1] (q.2 ++ [vI x5]) q.1)) (fun _ => rfl) (rg_bd1 h fun v2 hc h => rg_call (q := cvP s v2) (T_fM_times hc) ?_)
      refine rg_step 2 (G' := fun f => evT f 423 193 [oR 549 0, nn, nn, nn, oI (x5 ^^^ v2), oI x5, oI x6, oI x7, oI x8, oI v1] [] s) (fun _ => rfl) (rg_ltI (P := fun v3 => RG (fun f => evT f 423 193 [oR 549 0, nn, nn, nn, oI v3, oI x5, oI x6, oI x7, oI x8, oI v1] [] s) (cvV q)) h fun v3 h => ?_)
      refine rg_step 4 (G' := fun f => ev_after (evT f 420 0 [oI v1, oI (cI 12), nn, nn] [] s) (fun q => evT f 423 202 [oR 549 0, nn, nn, nn, oI v3, oI x5, oI x6, oI x7, oI x8, oI v1] (q.2 ++ [vI x6]) q.1)) (fun _ => rfl) (rg_bd1 h fun v4 hc h => rg_call (q := cvP s v4) (T_fM_times hc) ?_)
      refine rg_step 2 (G' := fun f => evT f 423 205 [oR 549 0, nn, nn, nn, oI v3, oI (x6 ^^^ v4), oI x6, oI x7, oI x8, oI v1] [] s) (fun _ => rfl) (rg_ltI (P := fun v5 => RG (fun f => evT f 423 205 [oR 549 0, nn, nn, nn, oI v3, oI v5, oI x6, oI x7, oI x8, oI v1] [] s) (cvV q)) h fun v5 h => ?_)
      refine rg_step 4 (G' := fun f => ev_after (evT f 420 0 [oI v1, oI (cI 8), nn, nn] [] s) (fun q => evT f 423 214 [oR 549 0, nn, nn, nn, oI v3, oI v5, oI x6, oI x7, oI x8, oI v1] (q.2 ++ [vI x7]) q.1)) (fun _ => rfl) (rg_bd1 h fun v6 hc h => rg_call (q := cvP s v6) (T_fM_times hc) ?_)
      refine rg_step 2 (G' := fun f => evT f 423 217 [oR 549 0, nn, nn, nn, oI v3, oI v5, oI (x7 ^^^ v6), oI x7, oI x8, oI v1] [] s) (fun _ => rfl) (rg_ltI (P := fun v7 => RG (fun f => evT f 423 217 [oR 549 0, nn, nn, nn, oI v3, oI v5, oI v7, oI x7, oI x8, oI v1] [] s) (cvV q)) h fun v7 h => ?_)
      refine rg_step 3 (G' := fun f => ev_after (evT f 420 0 [oI v1, oI (cI 7), nn, nn] [] s) (fun q => evT f 423 224 [oR 549 0, nn, nn, nn, oI v3, oI v5, oI v7, oI x7, oI x8, oI v1] (q.2 ++ []) q.1)) (fun _ => rfl) (rg_bd1 h fun v8 hc h => rg_call (q := cvP s v8) (T_fM_times hc) ?_)
      exact rg_step 3 (G' := fun f => evT f 423 162 [oR 549 0, nn, nn, nn, oI v3, oI v5, oI v7, oI v8, oI (x8 + cI 1), oI v1] [] s) (fun _ => rfl) (hk162 h)
    · refine rg_step 5 (G' := fun f => evT f 423 241 [oR 549 0, nn, nn, nn, oI x4, oI x5, oI x6, oI x7, oI x8, nn] [] (wI s 660 (ix (cI 11)) x4)) (fun _ => rfl) (rg_ltM h fun s9 h => ?_)
      refine rg_step 5 (G' := fun f => evT f 423 250 [oR 549 0, nn, nn, nn, oI x4, oI x5, oI x6, oI x7, oI x8, nn] [] (wI s9 660 (ix (cI 12)) x5)) (fun _ => rfl) (rg_ltM h fun s10 h => ?_)
      refine rg_step 5 (G' := fun f => evT f 423 259 [oR 549 0, nn, nn, nn, oI x4, oI x5, oI x6, oI x7, oI x8, nn] [] (wI s10 660 (ix (cI 13)) x6)) (fun _ => rfl) (rg_ltM h fun s11 h => ?_)
      refine rg_step 5 (G' := fun f => evT f 423 268 [oR 549 0, nn, nn, nn, oI x4, oI x5, oI x6, oI x7, oI x8, nn] [] (wI s11 660 (ix (cI 14)) x7)) (fun _ => rfl) (rg_ltM h fun s12 h => ?_)
      exact rg_end 1 (fun _ => rfl) (by cases h; rfl)
theorem t_fM_bars_h162 {n : Nat} {s : ev_M} {x4 : Int32} {x5 : Int32} {x6 : Int32} {x7 : Int32} {x8 : Int32} {j1 : Option ev_V} {j2 : Option ev_V} {j3 : Option ev_V} {j9 : Option ev_V} {q : ev_M} (h : fM_bars_h162 n s x4 x5 x6 x7 x8 = some q) : RR 423 162 [oR 549 0, j1, j2, j3, oI x4, oI x5, oI x6, oI x7, oI x8, j9] [] s (cvV q) := ti_fM_bars_h162 n s x4 x5 x6 x7 x8 j1 j2 j3 j9 q h
theorem ti_fM_bars_h126 : ∀ (n : Nat) (s : ev_M) (x4 : Int32) (j1 : Option ev_V) (j2 : Option ev_V) (j3 : Option ev_V) (j5 : Option ev_V) (j6 : Option ev_V) (j7 : Option ev_V) (j8 : Option ev_V) (j9 : Option ev_V) (q : ev_M), fM_bars_h126 n s x4 = some q → RR 423 126 [oR 549 0, j1, j2, j3, oI x4, j5, j6, j7, j8, j9] [] s (cvV q) := by
  intro n
  induction n with
  | zero => intro s x4 j1 j2 j3 j5 j6 j7 j8 j9 q h; cases h
  | succ n ih =>
    have hk126 : ∀ {s : ev_M} {x4 : Int32} {j1 : Option ev_V} {j2 : Option ev_V} {j3 : Option ev_V} {j5 : Option ev_V} {j6 : Option ev_V} {j7 : Option ev_V} {j8 : Option ev_V} {j9 : Option ev_V} {q : ev_M}, fM_bars_h126 n s x4 = some q → RR 423 126 [oR 549 0, j1, j2, j3, oI x4, j5, j6, j7, j8, j9] [] s (cvV q) := fun h => ih _ _ _ _ _ _ _ _ _ _ _ h
    intro s x4 j1 j2 j3 j5 j6 j7 j8 j9 q h
    refine rg_step 3 (G' := fun f => if x4 < (cI 15) then evT f 423 133 [oR 549 0, nn, nn, nn, oI x4, nn, nn, nn, nn, nn] [] s else evT f 423 147 [oR 549 0, nn, nn, nn, oI x4, nn, nn, nn, nn, nn] [] s) (fun _ => rfl) (rg_if h (fun h => ?_) fun h => ?_)
    · refine rg_step 5 (G' := fun f => if inb x4 15 = true then evT f 423 141 [oR 549 0, nn, nn, nn, oI x4, nn, nn, nn, nn, nn] [] (wI s 660 (ix x4) (cI 0)) else none) (fun _ => rfl) (rg_gd h fun h => rg_ltM h fun s13 h => ?_)
      exact rg_step 2 (G' := fun f => evT f 423 126 [oR 549 0, nn, nn, nn, oI (x4 + cI 1), nn, nn, nn, nn, nn] [] s13) (fun _ => rfl) (hk126 h)
    · exact rg_step 10 (G' := fun f => evT f 423 162 [oR 549 0, nn, nn, nn, oI (cI 0), oI (cI 0), oI (cI 0), oI (cI 0), oI (cI 0), nn] [] s) (fun _ => rfl) ((t_fM_bars_h162) h)
theorem t_fM_bars_h126 {n : Nat} {s : ev_M} {x4 : Int32} {j1 : Option ev_V} {j2 : Option ev_V} {j3 : Option ev_V} {j5 : Option ev_V} {j6 : Option ev_V} {j7 : Option ev_V} {j8 : Option ev_V} {j9 : Option ev_V} {q : ev_M} (h : fM_bars_h126 n s x4 = some q) : RR 423 126 [oR 549 0, j1, j2, j3, oI x4, j5, j6, j7, j8, j9] [] s (cvV q) := ti_fM_bars_h126 n s x4 j1 j2 j3 j5 j6 j7 j8 j9 q h
theorem ti_fM_bars_h23 : ∀ (n : Nat) (s : ev_M) (x1 : Int32) (x2 : Int32) (x3 : Int32) (x4 : Int32) (j5 : Option ev_V) (j6 : Option ev_V) (j7 : Option ev_V) (j8 : Option ev_V) (j9 : Option ev_V) (q : ev_M), fM_bars_h23 n s x1 x2 x3 x4 = some q → RR 423 23 [oR 549 0, oI x1, oI x2, oI x3, oI x4, j5, j6, j7, j8, j9] [] s (cvV q) := by
  intro n
  induction n with
  | zero => intro s x1 x2 x3 x4 j5 j6 j7 j8 j9 q h; cases h
  | succ n ih =>
    have hk23 : ∀ {s : ev_M} {x1 : Int32} {x2 : Int32} {x3 : Int32} {x4 : Int32} {j5 : Option ev_V} {j6 : Option ev_V} {j7 : Option ev_V} {j8 : Option ev_V} {j9 : Option ev_V} {q : ev_M}, fM_bars_h23 n s x1 x2 x3 x4 = some q → RR 423 23 [oR 549 0, oI x1, oI x2, oI x3, oI x4, j5, j6, j7, j8, j9] [] s (cvV q) := fun h => ih _ _ _ _ _ _ _ _ _ _ _ h
    intro s x1 x2 x3 x4 j5 j6 j7 j8 j9 q h
    refine rg_step 3 (G' := fun f => if x4 < (cI 3) then evT f 423 29 [oR 549 0, oI x1, oI x2, oI x3, oI x4, nn, nn, nn, nn, nn] [] s else evT f 423 97 [oR 549 0, oI x1, oI x2, oI x3, oI x4, nn, nn, nn, nn, nn] [] s) (fun _ => rfl) (rg_if h (fun h => ?_) fun h => ?_)
    · refine rg_step 13 (G' := fun f => if inb x4 15 = true then evT f 423 48 [oR 549 0, oI x1, oI x2, oI x3, oI x4, nn, nn, nn, nn, nn] [] (wI s 660 (ix x4) ((x1 >>> (((cI 8) - ((cI 4) * x4)) &&& 31)) &&& (cI 15))) else none) (fun _ => rfl) (rg_gd h fun h => rg_ltM h fun s14 h => ?_)
      refine rg_step 15 (G' := fun f => if inb ((cI 4) + x4) 15 = true then evT f 423 69 [oR 549 0, oI x1, oI x2, oI x3, oI x4, nn, nn, nn, nn, nn] [] (wI s14 660 (ix ((cI 4) + x4)) ((x2 >>> (((cI 8) - ((cI 4) * x4)) &&& 31)) &&& (cI 15))) else none) (fun _ => rfl) (rg_gd h fun h => rg_ltM h fun s15 h => ?_)
      refine rg_step 15 (G' := fun f => if inb ((cI 8) + x4) 15 = true then evT f 423 91 [oR 549 0, oI x1, oI x2, oI x3, oI x4, nn, nn, nn, nn, nn] [] (wI s15 660 (ix ((cI 8) + x4)) ((x3 >>> (((cI 8) - ((cI 4) * x4)) &&& 31)) &&& (cI 15))) else none) (fun _ => rfl) (rg_gd h fun h => rg_ltM h fun s16 h => ?_)
      exact rg_step 2 (G' := fun f => evT f 423 23 [oR 549 0, oI x1, oI x2, oI x3, oI (x4 + cI 1), nn, nn, nn, nn, nn] [] s16) (fun _ => rfl) (hk23 h)
    · refine rg_step 7 (G' := fun f => if inb x1 300 = true then evT f 423 108 [oR 549 0, oI x1, oI x2, oI x3, oI x4, nn, nn, nn, nn, nn] [vI (s.1 584 (ix x1)), vI (cI 3), vR 660 0] s else none) (fun _ => rfl) (rg_gd h fun h => ?_)
      refine rg_step 1 (G' := fun f => evT f 423 109 [oR 549 0, oI x1, oI x2, oI x3, oI x4, nn, nn, nn, nn, nn] [] (wI s 660 (ix (cI 3)) (s.1 584 (ix x1)))) (fun _ => rfl) (rg_ltM h fun s17 h => ?_)
      refine rg_step 7 (G' := fun f => if inb x1 300 = true then evT f 423 121 [oR 549 0, oI x1, oI x2, oI x3, oI x4, nn, nn, nn, nn, nn] [vI (s17.1 586 (ix x1)), vI (cI 7), vR 660 0] s17 else none) (fun _ => rfl) (rg_gd h fun h => ?_)
      refine rg_step 1 (G' := fun f => evT f 423 122 [oR 549 0, oI x1, oI x2, oI x3, oI x4, nn, nn, nn, nn, nn] [] (wI s17 660 (ix (cI 7)) (s17.1 586 (ix x1)))) (fun _ => rfl) (rg_ltM h fun s18 h => ?_)
      exact rg_step 2 (G' := fun f => evT f 423 126 [oR 549 0, oI x1, oI x2, oI x3, oI (cI 11), nn, nn, nn, nn, nn] [] s18) (fun _ => rfl) ((t_fM_bars_h126) h)
theorem t_fM_bars_h23 {n : Nat} {s : ev_M} {x1 : Int32} {x2 : Int32} {x3 : Int32} {x4 : Int32} {j5 : Option ev_V} {j6 : Option ev_V} {j7 : Option ev_V} {j8 : Option ev_V} {j9 : Option ev_V} {q : ev_M} (h : fM_bars_h23 n s x1 x2 x3 x4 = some q) : RR 423 23 [oR 549 0, oI x1, oI x2, oI x3, oI x4, j5, j6, j7, j8, j9] [] s (cvV q) := ti_fM_bars_h23 n s x1 x2 x3 x4 j5 j6 j7 j8 j9 q h
theorem T_fM_bars {s : ev_M} {a1 : Int32} {q : ev_M} (h : fM_bars s a1 = some q) : RR 423 0 [oR 549 0, oI a1, nn, nn, nn, nn, nn, nn, nn, nn] [] s (cvV q) := by
  refine rg_step 4 (G' := fun f => if inb a1 300 = true then evT f 423 6 [oR 549 0, oI a1, nn, nn, nn, nn, nn, nn, nn, nn] [vI (s.1 590 (ix a1))] s else none) (fun _ => rfl) (rg_gd h fun h => ?_)
  refine rg_step 3 (G' := fun f => evT f 423 9 [oR 549 0, oI a1, oI ((s.1 590 (ix a1)) + (cI 1)), nn, nn, nn, nn, nn, nn, nn] [] s) (fun _ => rfl) (rg_ltI (P := fun v19 => RG (fun f => evT f 423 9 [oR 549 0, oI a1, oI v19, nn, nn, nn, nn, nn, nn, nn] [] s) (cvV q)) h fun v19 h => ?_)
  refine rg_step 4 (G' := fun f => if inb a1 300 = true then evT f 423 15 [oR 549 0, oI a1, oI v19, nn, nn, nn, nn, nn, nn, nn] [vI (s.1 585 (ix a1))] s else none) (fun _ => rfl) (rg_gd h fun h => ?_)
  refine rg_step 2 (G' := fun f => if (cI 4096) = 0 then none else evT f 423 19 [oR 549 0, oI a1, oI v19, nn, nn, nn, nn, nn, nn, nn] [vI (irem (s.1 585 (ix a1)) (cI 4096))] s) (fun _ => rfl) (rg_dv h fun h => ?_)
  refine rg_step 1 (G' := fun f => evT f 423 20 [oR 549 0, oI a1, oI v19, oI (irem (s.1 585 (ix a1)) (cI 4096)), nn, nn, nn, nn, nn, nn] [] s) (fun _ => rfl) (rg_ltI (P := fun v20 => RG (fun f => evT f 423 20 [oR 549 0, oI a1, oI v19, oI v20, nn, nn, nn, nn, nn, nn] [] s) (cvV q)) h fun v20 h => ?_)
  exact rg_step 2 (G' := fun f => evT f 423 23 [oR 549 0, oI a1, oI v19, oI v20, oI (cI 0), nn, nn, nn, nn, nn] [] s) (fun _ => rfl) ((t_fM_bars_h23) h)
theorem T_fM_bar {s : ev_M} {a1 : Int32} {a2 : Int32} {q : ev_M × Int32} (h : fM_bar s a1 a2 = some q) : RR 424 0 [oR 549 0, oI a1, oI a2] [] s (cvI q) := by
  refine rg_step 3 (G' := fun f => evT f 424 5 [oR 549 0, oI a1, oI a2] [] (wI s 549 0 (cI 0))) (fun _ => rfl) (rg_ltM h fun s1 h => ?_)
  refine rg_step 3 (G' := fun f => if (s1.1 549 5) = 0 then evT f 424 15 [oR 549 0, oI a1, oI a2] [] s1 else evT f 424 12 [oR 549 0, oI a1, oI a2] [] s1) (fun _ => rfl) (rg_if h (fun h => ?_) fun h => ?_)
  · refine rg_step 3 (G' := fun f => ev_after (evT f 342 0 [oR 549 0, oI a1] [] s1) (fun q => evT f 424 20 [oR 549 0, oI a1, oI a2] (q.2 ++ []) q.1)) (fun _ => rfl) (rg_bd1 h fun v2 hc h => rg_call (q := cvP s1 v2) (T_fM_isItem hc) ?_)
    refine rg_step 1 (G' := fun f => if v2 = 0 then evT f 424 23 [oR 549 0, oI a1, oI a2] [] s1 else evT f 424 26 [oR 549 0, oI a1, oI a2] [] s1) (fun _ => rfl) (rg_if h (fun h => ?_) fun h => ?_)
    · exact rg_end 2 (fun _ => rfl) (by cases h; rfl)
    · refine rg_step 4 (G' := fun f => ev_after (evT f 311 0 [oI a2, oI (cI 0), oI (cI 14)] [] s1) (fun q => evT f 424 33 [oR 549 0, oI a1, oI a2] (q.2 ++ []) q.1)) (fun _ => rfl) (rg_bd1 h fun v3 hc h => rg_call (q := cvP s1 v3) (T_fM_in hc) ?_)
      refine rg_step 1 (G' := fun f => if v3 = 0 then evT f 424 36 [oR 549 0, oI a1, oI a2] [] s1 else evT f 424 39 [oR 549 0, oI a1, oI a2] [] s1) (fun _ => rfl) (rg_if h (fun h => ?_) fun h => ?_)
      · exact rg_end 2 (fun _ => rfl) (by cases h; rfl)
      · refine rg_step 3 (G' := fun f => ev_after (evT f 423 0 [oR 549 0, oI a1, nn, nn, nn, nn, nn, nn, nn, nn] [] s1) (fun q => evT f 424 44 [oR 549 0, oI a1, oI a2] (q.2 ++ []) q.1)) (fun _ => rfl) (rg_bd1 h fun s4 hc h => rg_call (q := cvV s4) (T_fM_bars hc) ?_)
        refine rg_step 4 (G' := fun f => if inb a2 15 = true then evT f 424 50 [oR 549 0, oI a1, oI a2] [vI (s4.1 660 (ix a2))] s4 else none) (fun _ => rfl) (rg_gd h fun h => ?_)
        exact rg_end 1 (fun _ => rfl) (by cases h; rfl)
  · exact rg_end 2 (fun _ => rfl) (by cases h; rfl)
theorem ti_fBars_sumsOf_h4 {s : ev_M} : ∀ (n : Nat) (x0 : Int32) (x1 : Int32) (x2 : Int32) (x3 : Int32) (q : Int32), fBars_sumsOf_h4 s n x0 x1 x2 x3 = some q → RR 7 4 [oI x0, oI x1, oI x2, oI x3] [] s (cvP s q) := by
  intro n
  induction n with
  | zero => intro x0 x1 x2 x3 q h; cases h
  | succ n ih =>
    have hk4 : ∀ {x0 : Int32} {x1 : Int32} {x2 : Int32} {x3 : Int32} {q : Int32}, fBars_sumsOf_h4 s n x0 x1 x2 x3 = some q → RR 7 4 [oI x0, oI x1, oI x2, oI x3] [] s (cvP s q) := fun h => ih _ _ _ _ _ h
    intro x0 x1 x2 x3 q h
    refine rg_step 3 (G' := fun f => if x3 ≤ (cI 4) then evT f 7 9 [oI x0, oI x1, oI x2, oI x3] [] s else evT f 7 37 [oI x0, oI x1, oI x2, oI x3] [] s) (fun _ => rfl) (rg_if h (fun h => ?_) fun h => ?_)
    · refine rg_step 12 (G' := fun f => if (cI 15) = 0 then none else evT f 7 25 [oI x0, oI x1, oI x2, oI x3] [vI (irem (x3 * ((cI 14) - x0)) (cI 15)), vR 1002 0, vI x1, vI (x2 <<< ((cI 4) &&& 31))] s) (fun _ => rfl) (rg_dv h fun h => ?_)
      refine rg_step 1 (G' := fun f => if inb (irem (x3 * ((cI 14) - x0)) (cI 15)) 15 = true then evT f 7 26 [oI x0, oI x1, oI x2, oI x3] [vI (s.1 1002 (ix (irem (x3 * ((cI 14) - x0)) (cI 15)))), vI x1, vI (x2 <<< ((cI 4) &&& 31))] s else none) (fun _ => rfl) (rg_gd h fun h => ?_)
      refine rg_step 1 (G' := fun f => ev_after (evT f 1 0 [oI x1, oI (s.1 1002 (ix (irem (x3 * ((cI 14) - x0)) (cI 15))))] [] s) (fun q => evT f 7 29 [oI x0, oI x1, oI x2, oI x3] (q.2 ++ [vI (x2 <<< ((cI 4) &&& 31))]) q.1)) (fun _ => rfl) (rg_bd1 h fun v1 hc h => rg_call (q := cvP s v1) (T_fBars_times hc) ?_)
      refine rg_step 2 (G' := fun f => evT f 7 31 [oI x0, oI x1, oI ((x2 <<< ((cI 4) &&& 31)) ||| v1), oI x3] [] s) (fun _ => rfl) (rg_ltI (P := fun v2 => RG (fun f => evT f 7 31 [oI x0, oI x1, oI v2, oI x3] [] s) (cvP s q)) h fun v2 h => ?_)
      exact rg_step 2 (G' := fun f => evT f 7 4 [oI x0, oI x1, oI v2, oI (x3 + cI 1)] [] s) (fun _ => rfl) (hk4 h)
    · exact rg_end 2 (fun _ => rfl) (by cases h; rfl)
theorem t_fBars_sumsOf_h4 {s : ev_M} {n : Nat} {x0 : Int32} {x1 : Int32} {x2 : Int32} {x3 : Int32} {q : Int32} (h : fBars_sumsOf_h4 s n x0 x1 x2 x3 = some q) : RR 7 4 [oI x0, oI x1, oI x2, oI x3] [] s (cvP s q) := ti_fBars_sumsOf_h4 n x0 x1 x2 x3 q h
theorem T_fBars_sumsOf {s : ev_M} {a0 : Int32} {a1 : Int32} {q : Int32} (h : fBars_sumsOf s a0 a1 = some q) : RR 7 0 [oI a0, oI a1, nn, nn] [] s (cvP s q) := by
  exact rg_step 4 (G' := fun f => evT f 7 4 [oI a0, oI a1, oI (cI 0), oI (cI 1)] [] s) (fun _ => rfl) ((t_fBars_sumsOf_h4) h)
theorem T_fMath_floorMod {s : ev_M} {a0 : Int32} {a1 : Int32} {q : Int32} (h : fMath_floorMod s a0 a1 = some q) : RR 532 0 [oI a0, oI a1, nn] [] s (cvP s q) := by
  refine rg_step 3 (G' := fun f => if a1 = 0 then none else evT f 532 3 [oI a0, oI a1, nn] [vI (irem a0 a1)] s) (fun _ => rfl) (rg_dv h fun h => ?_)
  refine rg_step 1 (G' := fun f => evT f 532 4 [oI a0, oI a1, oI (irem a0 a1)] [] s) (fun _ => rfl) (rg_ltI (P := fun v1 => RG (fun f => evT f 532 4 [oI a0, oI a1, oI v1] [] s) (cvP s q)) h fun v1 h => ?_)
  refine rg_step 4 (G' := fun f => if (a0 ^^^ a1) < 0 then evT f 532 10 [oI a0, oI a1, oI v1] [] s else evT f 532 18 [oI a0, oI a1, oI v1] [] s) (fun _ => rfl) (rg_if h (fun h => ?_) fun h => ?_)
  · refine rg_step 2 (G' := fun f => if v1 = 0 then evT f 532 18 [oI a0, oI a1, oI v1] [] s else evT f 532 14 [oI a0, oI a1, oI v1] [] s) (fun _ => rfl) (rg_if h (fun h => ?_) fun h => ?_)
    · exact rg_end 2 (fun _ => rfl) (by cases h; rfl)
    · exact rg_end 4 (fun _ => rfl) (by cases h; rfl)
  · exact rg_end 2 (fun _ => rfl) (by cases h; rfl)
theorem T_fBars_mendsOne {s : ev_M} {a1 : Int32} {q : ev_M × Int32} (h : fBars_mendsOne s a1 = some q) : RR 8 0 [oR 7 0, oI a1, nn, nn, nn, nn, nn] [] s (cvI q) := by
  refine rg_step 6 (G' := fun f => evT f 8 8 [oR 7 0, oI a1, oI ((a1 >>> ((cI 12) &&& 31)) &&& (cI 15)), nn, nn, nn, nn] [] s) (fun _ => rfl) (rg_ltI (P := fun v1 => RG (fun f => evT f 8 8 [oR 7 0, oI a1, oI v1, nn, nn, nn, nn] [] s) (cvI q)) h fun v1 h => ?_)
  refine rg_step 6 (G' := fun f => evT f 8 16 [oR 7 0, oI a1, oI v1, oI ((a1 >>> ((cI 8) &&& 31)) &&& (cI 15)), nn, nn, nn] [] s) (fun _ => rfl) (rg_ltI (P := fun v2 => RG (fun f => evT f 8 16 [oR 7 0, oI a1, oI v1, oI v2, nn, nn, nn] [] s) (cvI q)) h fun v2 h => ?_)
  refine rg_step 2 (G' := fun f => if v1 = 0 then evT f 8 24 [oR 7 0, oI a1, oI v1, oI v2, nn, nn, nn] [] s else evT f 8 20 [oR 7 0, oI a1, oI v1, oI v2, nn, nn, nn] [] s) (fun _ => rfl) (rg_if h (fun h => ?_) fun h => ?_)
  · exact rg_end 2 (fun _ => rfl) (by cases h; rfl)
  · refine rg_step 2 (G' := fun f => if v2 = 0 then evT f 8 24 [oR 7 0, oI a1, oI v1, oI v2, nn, nn, nn] [] s else evT f 8 26 [oR 7 0, oI a1, oI v1, oI v2, nn, nn, nn] [] s) (fun _ => rfl) (rg_if h (fun h => ?_) fun h => ?_)
    · exact rg_end 2 (fun _ => rfl) (by cases h; rfl)
    · refine rg_step 3 (G' := fun f => if inb v2 16 = true then evT f 8 31 [oR 7 0, oI a1, oI v1, oI v2, nn, nn, nn] [vI (s.1 1001 (ix v2))] s else none) (fun _ => rfl) (rg_gd h fun h => ?_)
      refine rg_step 3 (G' := fun f => if inb v1 16 = true then evT f 8 36 [oR 7 0, oI a1, oI v1, oI v2, nn, nn, nn] [vI (s.1 1001 (ix v1)), vI (s.1 1001 (ix v2))] s else none) (fun _ => rfl) (rg_gd h fun h => ?_)
      refine rg_step 3 (G' := fun f => ev_after (evT f 532 0 [oI ((s.1 1001 (ix v2)) - (s.1 1001 (ix v1))), oI (cI 15), nn] [] s) (fun q => evT f 8 42 [oR 7 0, oI a1, oI v1, oI v2, nn, nn, nn] (q.2 ++ []) q.1)) (fun _ => rfl) (rg_bd1 h fun v3 hc h => rg_call (q := cvP s v3) (T_fMath_floorMod hc) ?_)
      refine rg_step 5 (G' := fun f => if inb v1 16 = true then evT f 8 52 [oR 7 0, oI a1, oI v1, oI v2, oI v3, nn, nn] [vI (s.1 1001 (ix v1)), vR 1002 0] s else none) (fun _ => rfl) (rg_gd h fun h => ?_)
      refine rg_step 4 (G' := fun f => ev_after (evT f 532 0 [oI ((s.1 1001 (ix v1)) - v3), oI (cI 15), nn] [] s) (fun q => evT f 8 60 [oR 7 0, oI a1, oI v1, oI v2, oI v3, nn, nn] (q.2 ++ [vR 1002 0]) q.1)) (fun _ => rfl) (rg_bd1 h fun v4 hc h => rg_call (q := cvP s v4) (T_fMath_floorMod hc) ?_)
      refine rg_step 1 (G' := fun f => if inb v4 15 = true then evT f 8 61 [oR 7 0, oI a1, oI v1, oI v2, oI v3, nn, nn] [vI (s.1 1002 (ix v4))] s else none) (fun _ => rfl) (rg_gd h fun h => ?_)
      refine rg_step 1 (G' := fun f => evT f 8 63 [oR 7 0, oI a1, oI v1, oI v2, oI v3, oI (s.1 1002 (ix v4)), nn] [] s) (fun _ => rfl) (rg_ltI (P := fun v5 => RG (fun f => evT f 8 63 [oR 7 0, oI a1, oI v1, oI v2, oI v3, oI v5, nn] [] s) (cvI q)) h fun v5 h => ?_)
      refine rg_step 4 (G' := fun f => evT f 8 70 [oR 7 0, oI a1, oI v1, oI v2, oI v3, oI v5, oI ((cI 14) - v3)] [] s) (fun _ => rfl) (rg_ltI (P := fun v6 => RG (fun f => evT f 8 70 [oR 7 0, oI a1, oI v1, oI v2, oI v3, oI v5, oI v6] [] s) (cvI q)) h fun v6 h => ?_)
      refine rg_step 3 (G' := fun f => ev_after (evT f 7 0 [oI v6, oI v5, nn, nn] [] s) (fun q => evT f 8 77 [oR 7 0, oI a1, oI v1, oI v2, oI v3, oI v5, oI v6] (q.2 ++ []) q.1)) (fun _ => rfl) (rg_bd1 h fun v7 hc h => rg_call (q := cvP s v7) (T_fBars_sumsOf hc) ?_)
      refine rg_step 2 (G' := fun f => if v7 = a1 then evT f 8 83 [oR 7 0, oI a1, oI v1, oI v2, oI v3, oI v5, oI v6] [] s else evT f 8 81 [oR 7 0, oI a1, oI v1, oI v2, oI v3, oI v5, oI v6] [] s) (fun _ => rfl) (rg_if h (fun h => ?_) fun h => ?_)
      · refine rg_step 5 (G' := fun f => if inb v6 15 = true then evT f 8 91 [oR 7 0, oI a1, oI v1, oI v2, oI v3, oI v5, oI v6] [vI (s.1 8 (ix v6)), vI v6, vR 8 0] s else none) (fun _ => rfl) (rg_gd h fun h => ?_)
        refine rg_step 3 (G' := fun f => if inb v6 15 = true then evT f 8 95 [oR 7 0, oI a1, oI v1, oI v2, oI v3, oI v5, oI v6] [] (wI s 8 (ix v6) ((s.1 8 (ix v6)) ^^^ v5)) else none) (fun _ => rfl) (rg_gd h fun h => rg_ltM h fun s8 h => ?_)
        exact rg_end 2 (fun _ => rfl) (by cases h; rfl)
      · exact rg_end 2 (fun _ => rfl) (by cases h; rfl)
theorem ti_fBars_mendsTwo_h10 {k2 : ev_M → Int32 → Int32 → Option (ev_M × Int32)} (hk2 : ∀ {s : ev_M} {x1 : Int32} {x2 : Int32} {j3 : Option ev_V} {q : ev_M × Int32}, k2 s x1 x2 = some q → RR 9 2 [oR 7 0, oI x1, oI x2, j3] [] s (cvI q)) : ∀ (n : Nat) (s : ev_M) (x1 : Int32) (x2 : Int32) (x3 : Int32) (q : ev_M × Int32), fBars_mendsTwo_h10 k2 n s x1 x2 x3 = some q → RR 9 10 [oR 7 0, oI x1, oI x2, oI x3] [] s (cvI q) := by
  intro n
  induction n with
  | zero => intro s x1 x2 x3 q h; cases h
  | succ n ih =>
    have hk10 : ∀ {s : ev_M} {x1 : Int32} {x2 : Int32} {x3 : Int32} {q : ev_M × Int32}, fBars_mendsTwo_h10 k2 n s x1 x2 x3 = some q → RR 9 10 [oR 7 0, oI x1, oI x2, oI x3] [] s (cvI q) := fun h => ih _ _ _ _ _ h
    intro s x1 x2 x3 q h
    refine rg_step 3 (G' := fun f => if x3 < (cI 16) then evT f 9 16 [oR 7 0, oI x1, oI x2, oI x3] [] s else evT f 9 48 [oR 7 0, oI x1, oI x2, oI x3] [] s) (fun _ => rfl) (rg_if h (fun h => ?_) fun h => ?_)
    · refine rg_step 5 (G' := fun f => ev_after (evT f 7 0 [oI x2, oI x3, nn, nn] [] s) (fun q => evT f 9 23 [oR 7 0, oI x1, oI x2, oI x3] (q.2 ++ [vI x1, vR 7 0]) q.1)) (fun _ => rfl) (rg_bd1 h fun v1 hc h => rg_call (q := cvP s v1) (T_fBars_sumsOf hc) ?_)
      refine rg_step 2 (G' := fun f => ev_after (evT f 8 0 [oR 7 0, oI (x1 ^^^ v1), nn, nn, nn, nn, nn] [] s) (fun q => evT f 9 27 [oR 7 0, oI x1, oI x2, oI x3] (q.2 ++ []) q.1)) (fun _ => rfl) (rg_bd2 h fun s2 v3 hc h => rg_call (q := cvI (s2, v3)) (T_fBars_mendsOne hc) ?_)
      refine rg_step 1 (G' := fun f => if v3 = 0 then evT f 9 42 [oR 7 0, oI x1, oI x2, oI x3] [] s2 else evT f 9 30 [oR 7 0, oI x1, oI x2, oI x3] [] s2) (fun _ => rfl) (rg_if h (fun h => ?_) fun h => ?_)
      · exact rg_step 2 (G' := fun f => evT f 9 10 [oR 7 0, oI x1, oI x2, oI (x3 + cI 1)] [] s2) (fun _ => rfl) (hk10 h)
      · refine rg_step 5 (G' := fun f => if inb x2 15 = true then evT f 9 37 [oR 7 0, oI x1, oI x2, oI x3] [vI (s2.1 8 (ix x2)), vI x2, vR 8 0] s2 else none) (fun _ => rfl) (rg_gd h fun h => ?_)
        refine rg_step 3 (G' := fun f => if inb x2 15 = true then evT f 9 40 [oR 7 0, oI x1, oI x2, oI x3] [] (wI s2 8 (ix x2) ((s2.1 8 (ix x2)) ^^^ x3)) else none) (fun _ => rfl) (rg_gd h fun h => rg_ltM h fun s4 h => ?_)
        exact rg_end 2 (fun _ => rfl) (by cases h; rfl)
    · exact rg_step 2 (G' := fun f => evT f 9 2 [oR 7 0, oI x1, oI (x2 + cI 1), oI x3] [] s) (fun _ => rfl) (hk2 h)
theorem t_fBars_mendsTwo_h10 {k2 : ev_M → Int32 → Int32 → Option (ev_M × Int32)} (hk2 : ∀ {s : ev_M} {x1 : Int32} {x2 : Int32} {j3 : Option ev_V} {q : ev_M × Int32}, k2 s x1 x2 = some q → RR 9 2 [oR 7 0, oI x1, oI x2, j3] [] s (cvI q)) {n : Nat} {s : ev_M} {x1 : Int32} {x2 : Int32} {x3 : Int32} {q : ev_M × Int32} (h : fBars_mendsTwo_h10 k2 n s x1 x2 x3 = some q) : RR 9 10 [oR 7 0, oI x1, oI x2, oI x3] [] s (cvI q) := ti_fBars_mendsTwo_h10 hk2 n s x1 x2 x3 q h
theorem ti_fBars_mendsTwo_h2 : ∀ (n : Nat) (s : ev_M) (x1 : Int32) (x2 : Int32) (j3 : Option ev_V) (q : ev_M × Int32), fBars_mendsTwo_h2 n s x1 x2 = some q → RR 9 2 [oR 7 0, oI x1, oI x2, j3] [] s (cvI q) := by
  intro n
  induction n with
  | zero => intro s x1 x2 j3 q h; cases h
  | succ n ih =>
    have hk2 : ∀ {s : ev_M} {x1 : Int32} {x2 : Int32} {j3 : Option ev_V} {q : ev_M × Int32}, fBars_mendsTwo_h2 n s x1 x2 = some q → RR 9 2 [oR 7 0, oI x1, oI x2, j3] [] s (cvI q) := fun h => ih _ _ _ _ _ h
    intro s x1 x2 j3 q h
    refine rg_step 3 (G' := fun f => if x2 < (cI 15) then evT f 9 8 [oR 7 0, oI x1, oI x2, nn] [] s else evT f 9 54 [oR 7 0, oI x1, oI x2, nn] [] s) (fun _ => rfl) (rg_if h (fun h => ?_) fun h => ?_)
    · exact rg_step 2 (G' := fun f => evT f 9 10 [oR 7 0, oI x1, oI x2, oI (cI 1)] [] s) (fun _ => rfl) ((t_fBars_mendsTwo_h10 hk2) h)
    · exact rg_end 2 (fun _ => rfl) (by cases h; rfl)
theorem t_fBars_mendsTwo_h2 {n : Nat} {s : ev_M} {x1 : Int32} {x2 : Int32} {j3 : Option ev_V} {q : ev_M × Int32} (h : fBars_mendsTwo_h2 n s x1 x2 = some q) : RR 9 2 [oR 7 0, oI x1, oI x2, j3] [] s (cvI q) := ti_fBars_mendsTwo_h2 n s x1 x2 j3 q h
theorem T_fBars_mendsTwo {s : ev_M} {a1 : Int32} {q : ev_M × Int32} (h : fBars_mendsTwo s a1 = some q) : RR 9 0 [oR 7 0, oI a1, nn, nn] [] s (cvI q) := by
  exact rg_step 2 (G' := fun f => evT f 9 2 [oR 7 0, oI a1, oI (cI 0), nn] [] s) (fun _ => rfl) ((t_fBars_mendsTwo_h2) h)
theorem t_fBars_mends_b63 {s : ev_M} {y1 : Int32} {j1 : Option ev_V} {j2 : Option ev_V} {q : ev_M × Int32} (h : fBars_mends_b63 s y1 = some q) : RR 6 63 [oR 7 0, j1, j2] [vI y1, vR 7 0] s (cvI q) := by
  refine rg_step 1 (G' := fun f => evT f 6 66 [oR 7 0, nn, nn] [] (wI s 7 1 y1)) (fun _ => rfl) (rg_ltM h fun s1 h => ?_)
  refine rg_step 4 (G' := fun f => if (s1.1 7 1) = (cI (-1)) then evT f 6 78 [oR 7 0, nn, nn] [] s1 else evT f 6 74 [oR 7 0, nn, nn] [] s1) (fun _ => rfl) (rg_if h (fun h => ?_) fun h => ?_)
  · exact rg_end 2 (fun _ => rfl) (by cases h; rfl)
  · exact rg_end 3 (fun _ => rfl) (by cases h; rfl)
theorem ti_fBars_mends_h4 : ∀ (n : Nat) (s : ev_M) (x1 : Int32) (x2 : Int32) (q : ev_M × Int32), fBars_mends_h4 n s x1 x2 = some q → RR 6 4 [oR 7 0, oI x1, oI x2] [] s (cvI q) := by
  intro n
  induction n with
  | zero => intro s x1 x2 q h; cases h
  | succ n ih =>
    have hk4 : ∀ {s : ev_M} {x1 : Int32} {x2 : Int32} {q : ev_M × Int32}, fBars_mends_h4 n s x1 x2 = some q → RR 6 4 [oR 7 0, oI x1, oI x2] [] s (cvI q) := fun h => ih _ _ _ _ h
    intro s x1 x2 q h
    refine rg_step 3 (G' := fun f => if x2 < (cI 15) then evT f 6 10 [oR 7 0, oI x1, oI x2] [] s else evT f 6 29 [oR 7 0, oI x1, oI x2] [] s) (fun _ => rfl) (rg_if h (fun h => ?_) fun h => ?_)
    · refine rg_step 6 (G' := fun f => if inb x2 15 = true then evT f 6 18 [oR 7 0, oI x1, oI x2] [vI (s.1 8 (ix x2)), vI x2, vI x1] s else none) (fun _ => rfl) (rg_gd h fun h => ?_)
      refine rg_step 1 (G' := fun f => ev_after (evT f 7 0 [oI x2, oI (s.1 8 (ix x2)), nn, nn] [] s) (fun q => evT f 6 21 [oR 7 0, oI x1, oI x2] (q.2 ++ [vI x1]) q.1)) (fun _ => rfl) (rg_bd1 h fun v2 hc h => rg_call (q := cvP s v2) (T_fBars_sumsOf hc) ?_)
      refine rg_step 2 (G' := fun f => evT f 6 23 [oR 7 0, oI (x1 ^^^ v2), oI x2] [] s) (fun _ => rfl) (rg_ltI (P := fun v3 => RG (fun f => evT f 6 23 [oR 7 0, oI v3, oI x2] [] s) (cvI q)) h fun v3 h => ?_)
      exact rg_step 2 (G' := fun f => evT f 6 4 [oR 7 0, oI v3, oI (x2 + cI 1)] [] s) (fun _ => rfl) (hk4 h)
    · refine rg_step 3 (G' := fun f => if x1 = 0 then evT f 6 34 [oR 7 0, oI x1, oI x2] [vR 7 0] s else evT f 6 38 [oR 7 0, oI x1, oI x2] [vR 7 0] s) (fun _ => rfl) (rg_if h (fun h => ?_) fun h => ?_)
      · exact rg_step 2 (G' := fun f => evT f 6 63 [oR 7 0, oI x1, oI x2] [vI (cI 0), vR 7 0] s) (fun _ => rfl) ((t_fBars_mends_b63) h)
      · refine rg_step 3 (G' := fun f => ev_after (evT f 8 0 [oR 7 0, oI x1, nn, nn, nn, nn, nn] [] s) (fun q => evT f 6 43 [oR 7 0, oI x1, oI x2] (q.2 ++ [vR 7 0]) q.1)) (fun _ => rfl) (rg_bd2 h fun s4 v5 hc h => rg_call (q := cvI (s4, v5)) (T_fBars_mendsOne hc) ?_)
        refine rg_step 1 (G' := fun f => if v5 = 0 then evT f 6 50 [oR 7 0, oI x1, oI x2] [vR 7 0] s4 else evT f 6 46 [oR 7 0, oI x1, oI x2] [vR 7 0] s4) (fun _ => rfl) (rg_if h (fun h => ?_) fun h => ?_)
        · refine rg_step 3 (G' := fun f => ev_after (evT f 9 0 [oR 7 0, oI x1, nn, nn] [] s4) (fun q => evT f 6 55 [oR 7 0, oI x1, oI x2] (q.2 ++ [vR 7 0]) q.1)) (fun _ => rfl) (rg_bd2 h fun s6 v7 hc h => rg_call (q := cvI (s6, v7)) (T_fBars_mendsTwo hc) ?_)
          refine rg_step 1 (G' := fun f => if v7 = 0 then evT f 6 62 [oR 7 0, oI x1, oI x2] [vR 7 0] s6 else evT f 6 58 [oR 7 0, oI x1, oI x2] [vR 7 0] s6) (fun _ => rfl) (rg_if h (fun h => ?_) fun h => ?_)
          · exact rg_step 1 (G' := fun f => evT f 6 63 [oR 7 0, oI x1, oI x2] [vI (cI (-1)), vR 7 0] s6) (fun _ => rfl) ((t_fBars_mends_b63) h)
          · exact rg_step 2 (G' := fun f => evT f 6 63 [oR 7 0, oI x1, oI x2] [vI (cI 2), vR 7 0] s6) (fun _ => rfl) ((t_fBars_mends_b63) h)
        · exact rg_step 2 (G' := fun f => evT f 6 63 [oR 7 0, oI x1, oI x2] [vI (cI 1), vR 7 0] s4) (fun _ => rfl) ((t_fBars_mends_b63) h)
theorem t_fBars_mends_h4 {n : Nat} {s : ev_M} {x1 : Int32} {x2 : Int32} {q : ev_M × Int32} (h : fBars_mends_h4 n s x1 x2 = some q) : RR 6 4 [oR 7 0, oI x1, oI x2] [] s (cvI q) := ti_fBars_mends_h4 n s x1 x2 q h
theorem T_fBars_mends {s : ev_M} {q : ev_M × Int32} (h : fBars_mends s = some q) : RR 6 0 [oR 7 0, nn, nn] [] s (cvI q) := by
  exact rg_step 4 (G' := fun f => evT f 6 4 [oR 7 0, oI (cI 0), oI (cI 0)] [] s) (fun _ => rfl) ((t_fBars_mends_h4) h)
theorem T_fBars_number {s : ev_M} {q : Int32} (h : fBars_number s = some q) : RR 5 0 [oR 7 0] [] s (cvP s q) := by
  exact rg_end 19 (fun _ => rfl) (by cases h; rfl)
theorem ti_fBars_takeFrom_1_h2 : ∀ (n : Nat) (s : ev_M) (x2 : Int32) (q : ev_M), fBars_takeFrom_1_h2 n s x2 = some q → RR 4 2 [oR 7 0, oR 1 0, oI x2] [] s (cvV q) := by
  intro n
  induction n with
  | zero => intro s x2 q h; cases h
  | succ n ih =>
    have hk2 : ∀ {s : ev_M} {x2 : Int32} {q : ev_M}, fBars_takeFrom_1_h2 n s x2 = some q → RR 4 2 [oR 7 0, oR 1 0, oI x2] [] s (cvV q) := fun h => ih _ _ _ h
    intro s x2 q h
    refine rg_step 3 (G' := fun f => if x2 < (cI 15) then evT f 4 8 [oR 7 0, oR 1 0, oI x2] [] s else evT f 4 28 [oR 7 0, oR 1 0, oI x2] [] s) (fun _ => rfl) (rg_if h (fun h => ?_) fun h => ?_)
    · refine rg_step 6 (G' := fun f => ev_after (evT f 224 0 [oR 1 0, oI x2] [] s) (fun q => evT f 4 18 [oR 7 0, oR 1 0, oI x2] (q.2 ++ [vI x2, vR 8 0]) q.1)) (fun _ => rfl) (rg_bd1 h fun v1 hc h => rg_call (q := cvP s v1) (T_fTape_byteAt_1 hc) ?_)
      refine rg_step 3 (G' := fun f => if inb x2 15 = true then evT f 4 22 [oR 7 0, oR 1 0, oI x2] [] (wI s 8 (ix x2) (v1 &&& (cI 15))) else none) (fun _ => rfl) (rg_gd h fun h => rg_ltM h fun s2 h => ?_)
      exact rg_step 2 (G' := fun f => evT f 4 2 [oR 7 0, oR 1 0, oI (x2 + cI 1)] [] s2) (fun _ => rfl) (hk2 h)
    · exact rg_end 1 (fun _ => rfl) (by cases h; rfl)
theorem t_fBars_takeFrom_1_h2 {n : Nat} {s : ev_M} {x2 : Int32} {q : ev_M} (h : fBars_takeFrom_1_h2 n s x2 = some q) : RR 4 2 [oR 7 0, oR 1 0, oI x2] [] s (cvV q) := ti_fBars_takeFrom_1_h2 n s x2 q h
theorem T_fBars_takeFrom_1 {s : ev_M} {q : ev_M} (h : fBars_takeFrom_1 s = some q) : RR 4 0 [oR 7 0, oR 1 0, nn] [] s (cvV q) := by
  exact rg_step 2 (G' := fun f => evT f 4 2 [oR 7 0, oR 1 0, oI (cI 0)] [] s) (fun _ => rfl) ((t_fBars_takeFrom_1_h2) h)
theorem t_fPH_scan_b46 {s : ev_M} {x1 : Int32} {q : ev_M × Int32} (h : fPH_scan_b46 s x1 = some q) : RR 254 46 [oR 0 0, oI x1] [] s (cvI q) := by
  refine rg_step 4 (G' := fun f => evT f 254 54 [oR 0 0, oI x1] [] (wI s 1 1 (cI 0))) (fun _ => rfl) (rg_ltM h fun s1 h => ?_)
  refine rg_step 2 (G' := fun f => if x1 = 0 then evT f 254 58 [oR 0 0, oI x1] [] s1 else evT f 254 61 [oR 0 0, oI x1] [] s1) (fun _ => rfl) (rg_if h (fun h => ?_) fun h => ?_)
  · exact rg_end 2 (fun _ => rfl) (by cases h; rfl)
  · refine rg_step 3 (G' := fun f => ev_after (evT f 6 0 [oR 7 0, nn, nn] [] s1) (fun q => evT f 254 68 [oR 0 0, oI x1] (q.2 ++ []) q.1)) (fun _ => rfl) (rg_bd2 h fun s2 v3 hc h => rg_call (q := cvI (s2, v3)) (T_fBars_mends hc) ?_)
    refine rg_step 1 (G' := fun f => if v3 = 0 then evT f 254 98 [oR 0 0, oI x1] [] s2 else evT f 254 71 [oR 0 0, oI x1] [] s2) (fun _ => rfl) (rg_if h (fun h => ?_) fun h => ?_)
    · exact rg_end 2 (fun _ => rfl) (by cases h; rfl)
    · refine rg_step 5 (G' := fun f => ev_after (evT f 5 0 [oR 7 0] [] s2) (fun q => evT f 254 82 [oR 0 0, oI x1] (q.2 ++ [vR 100 0]) q.1)) (fun _ => rfl) (rg_bd1 h fun v4 hc h => rg_call (q := cvP s2 v4) (T_fBars_number hc) ?_)
      refine rg_step 1 (G' := fun f => ev_after (evT f 51 0 [oR 100 0, oI v4] [] s2) (fun q => evT f 254 85 [oR 0 0, oI x1] (q.2 ++ []) q.1)) (fun _ => rfl) (rg_bd1 h fun v5 hc h => rg_call (q := cvP s2 v5) (T_fItems_has hc) ?_)
      refine rg_step 1 (G' := fun f => if v5 = 0 then evT f 254 98 [oR 0 0, oI x1] [] s2 else evT f 254 88 [oR 0 0, oI x1] [] s2) (fun _ => rfl) (rg_if h (fun h => ?_) fun h => ?_)
      · exact rg_end 2 (fun _ => rfl) (by cases h; rfl)
      · refine rg_step 3 (G' := fun f => ev_after (evT f 5 0 [oR 7 0] [] s2) (fun q => evT f 254 95 [oR 0 0, oI x1] (q.2 ++ []) q.1)) (fun _ => rfl) (rg_bd1 h fun v6 hc h => rg_call (q := cvP s2 v6) (T_fBars_number hc) ?_)
        exact rg_end 2 (fun _ => rfl) (by cases h; rfl)
theorem t_fPH_scan_b30 {s : ev_M} {y0 : Int32} {j1 : Option ev_V} {q : ev_M × Int32} (h : fPH_scan_b30 s y0 = some q) : RR 254 30 [oR 0 0, j1] [vI y0] s (cvI q) := by
  refine rg_step 3 (G' := fun f => if y0 = 0 then evT f 254 46 [oR 0 0, oI y0] [] s else evT f 254 35 [oR 0 0, oI y0] [] s) (fun _ => rfl) (rg_if h (fun h => ?_) fun h => ?_)
  · exact (t_fPH_scan_b46) h
  · refine rg_step 5 (G' := fun f => ev_after (evT f 4 0 [oR 7 0, oR 1 0, nn] [] s) (fun q => evT f 254 46 [oR 0 0, oI y0] (q.2 ++ []) q.1)) (fun _ => rfl) (rg_bd1 h fun s7 hc h => rg_call (q := cvV s7) (T_fBars_takeFrom_1 hc) ?_)
    exact (t_fPH_scan_b46) h
theorem T_fPH_scan {s : ev_M} {q : ev_M × Int32} (h : fPH_scan s = some q) : RR 254 0 [oR 0 0, nn] [] s (cvI q) := by
  refine rg_step 4 (G' := fun f => if (s.1 9 9) = 0 then evT f 254 13 [oR 0 0, nn] [] s else evT f 254 10 [oR 0 0, nn] [] s) (fun _ => rfl) (rg_if h (fun h => ?_) fun h => ?_)
  · refine rg_step 5 (G' := fun f => if (s.1 1 1) = (cI 15) then evT f 254 25 [oR 0 0, nn] [] s else evT f 254 29 [oR 0 0, nn] [] s) (fun _ => rfl) (rg_if h (fun h => ?_) fun h => ?_)
    · exact rg_step 2 (G' := fun f => evT f 254 30 [oR 0 0, nn] [vI (cI 1)] s) (fun _ => rfl) ((t_fPH_scan_b30) h)
    · exact rg_step 1 (G' := fun f => evT f 254 30 [oR 0 0, nn] [vI (cI 0)] s) (fun _ => rfl) ((t_fPH_scan_b30) h)
  · exact rg_end 2 (fun _ => rfl) (by cases h; rfl)
theorem t_fM_mends_b46 {s : ev_M} {k5 : Int32 → Int32 → Int32 → Int32 → Option Int32} (hk5 : ∀ {x1 : Int32} {x2 : Int32} {x3 : Int32} {x4 : Int32} {q : Int32}, k5 x1 x2 x3 x4 = some q → RR 425 5 [oR 549 0, oI x1, oI x2, oI x3, oI x4] [] s (cvP s q)) {x1 : Int32} {x2 : Int32} {x4 : Int32} {y0 : Int32} {j3 : Option ev_V} {q : Int32} (h : fM_mends_b46 s k5 x1 x2 x4 y0 = some q) : RR 425 46 [oR 549 0, oI x1, oI x2, j3, oI x4] [vI y0] s (cvP s q) := by
  exact rg_step 3 (G' := fun f => evT f 425 5 [oR 549 0, oI x1, oI x2, oI y0, oI (x4 + cI 1)] [] s) (fun _ => rfl) (hk5 h)
theorem t_fM_mends_b45 {s : ev_M} {k5 : Int32 → Int32 → Int32 → Int32 → Option Int32} (hk5 : ∀ {x1 : Int32} {x2 : Int32} {x3 : Int32} {x4 : Int32} {q : Int32}, k5 x1 x2 x3 x4 = some q → RR 425 5 [oR 549 0, oI x1, oI x2, oI x3, oI x4] [] s (cvP s q)) {x1 : Int32} {x2 : Int32} {x4 : Int32} {j3 : Option ev_V} {q : Int32} (h : fM_mends_b45 s k5 x1 x2 x4 = some q) : RR 425 45 [oR 549 0, oI x1, oI x2, j3, oI x4] [] s (cvP s q) := by
  exact rg_step 1 (G' := fun f => evT f 425 46 [oR 549 0, oI x1, oI x2, nn, oI x4] [vI (cI 0)] s) (fun _ => rfl) ((t_fM_mends_b46 hk5) h)
theorem ti_fM_mends_h5 {s : ev_M} : ∀ (n : Nat) (x1 : Int32) (x2 : Int32) (x3 : Int32) (x4 : Int32) (q : Int32), fM_mends_h5 s n x1 x2 x3 x4 = some q → RR 425 5 [oR 549 0, oI x1, oI x2, oI x3, oI x4] [] s (cvP s q) := by
  intro n
  induction n with
  | zero => intro x1 x2 x3 x4 q h; cases h
  | succ n ih =>
    have hk5 : ∀ {x1 : Int32} {x2 : Int32} {x3 : Int32} {x4 : Int32} {q : Int32}, fM_mends_h5 s n x1 x2 x3 x4 = some q → RR 425 5 [oR 549 0, oI x1, oI x2, oI x3, oI x4] [] s (cvP s q) := fun h => ih _ _ _ _ _ h
    intro x1 x2 x3 x4 q h
    refine rg_step 3 (G' := fun f => if x4 < (cI 4) then evT f 425 11 [oR 549 0, oI x1, oI x2, oI x3, oI x4] [] s else evT f 425 53 [oR 549 0, oI x1, oI x2, oI x3, oI x4] [] s) (fun _ => rfl) (rg_if h (fun h => ?_) fun h => ?_)
    · refine rg_step 2 (G' := fun f => if x3 = 0 then evT f 425 45 [oR 549 0, oI x1, oI x2, oI x3, oI x4] [] s else evT f 425 15 [oR 549 0, oI x1, oI x2, oI x3, oI x4] [] s) (fun _ => rfl) (rg_if h (fun h => ?_) fun h => ?_)
      · exact (t_fM_mends_b45 hk5) h
      · refine rg_step 9 (G' := fun f => if inb (((cI 15) * x4) + x1) 60 = true then evT f 425 28 [oR 549 0, oI x1, oI x2, oI x3, oI x4] [vI (s.1 663 (ix (((cI 15) * x4) + x1))), vI x2] s else none) (fun _ => rfl) (rg_gd h fun h => ?_)
        refine rg_step 1 (G' := fun f => ev_after (evT f 420 0 [oI x2, oI (s.1 663 (ix (((cI 15) * x4) + x1))), nn, nn] [] s) (fun q => evT f 425 31 [oR 549 0, oI x1, oI x2, oI x3, oI x4] (q.2 ++ []) q.1)) (fun _ => rfl) (rg_bd1 h fun v1 hc h => rg_call (q := cvP s v1) (T_fM_times hc) ?_)
        refine rg_step 4 (G' := fun f => if inb x4 4 = true then evT f 425 38 [oR 549 0, oI x1, oI x2, oI x3, oI x4] [vI (s.1 662 (ix x4)), vI v1] s else none) (fun _ => rfl) (rg_gd h fun h => ?_)
        refine rg_step 1 (G' := fun f => if v1 = (s.1 662 (ix x4)) then evT f 425 41 [oR 549 0, oI x1, oI x2, oI x3, oI x4] [] s else evT f 425 45 [oR 549 0, oI x1, oI x2, oI x3, oI x4] [] s) (fun _ => rfl) (rg_if h (fun h => ?_) fun h => ?_)
        · exact rg_step 2 (G' := fun f => evT f 425 46 [oR 549 0, oI x1, oI x2, oI x3, oI x4] [vI (cI 1)] s) (fun _ => rfl) ((t_fM_mends_b46 hk5) h)
        · exact (t_fM_mends_b45 hk5) h
    · exact rg_step 2 (G' := fun f => if bz x3 = true then some (s, [vI x3]) else none) (fun _ => rfl) (rg_gd h fun h => rg_end 0 (fun _ => rfl) (by cases h; rfl))
theorem t_fM_mends_h5 {s : ev_M} {n : Nat} {x1 : Int32} {x2 : Int32} {x3 : Int32} {x4 : Int32} {q : Int32} (h : fM_mends_h5 s n x1 x2 x3 x4 = some q) : RR 425 5 [oR 549 0, oI x1, oI x2, oI x3, oI x4] [] s (cvP s q) := ti_fM_mends_h5 n x1 x2 x3 x4 q h
theorem T_fM_mends {s : ev_M} {a1 : Int32} {a2 : Int32} {q : Int32} (h : fM_mends s a1 a2 = some q) : RR 425 0 [oR 549 0, oI a1, oI a2, nn, nn] [] s (cvP s q) := by
  exact rg_step 4 (G' := fun f => evT f 425 5 [oR 549 0, oI a1, oI a2, oI (cI 1), oI (cI 0)] [] s) (fun _ => rfl) ((t_fM_mends_h5) h)
theorem ti_fM_change_h16 : ∀ (n : Nat) (s : ev_M) (x1 : Int32) (x2 : Int32) (x3 : Int32) (q : ev_M), fM_change_h16 n s x1 x2 x3 = some q → RR 426 16 [oR 549 0, oI x1, oI x2, oI x3] [] s (cvV q) := by
  intro n
  induction n with
  | zero => intro s x1 x2 x3 q h; cases h
  | succ n ih =>
    have hk16 : ∀ {s : ev_M} {x1 : Int32} {x2 : Int32} {x3 : Int32} {q : ev_M}, fM_change_h16 n s x1 x2 x3 = some q → RR 426 16 [oR 549 0, oI x1, oI x2, oI x3] [] s (cvV q) := fun h => ih _ _ _ _ _ h
    intro s x1 x2 x3 q h
    refine rg_step 3 (G' := fun f => if x3 < (cI 4) then evT f 426 21 [oR 549 0, oI x1, oI x2, oI x3] [] s else evT f 426 55 [oR 549 0, oI x1, oI x2, oI x3] [] s) (fun _ => rfl) (rg_if h (fun h => ?_) fun h => ?_)
    · refine rg_step 7 (G' := fun f => if inb x3 4 = true then evT f 426 32 [oR 549 0, oI x1, oI x2, oI x3] [vI (s.1 662 (ix x3)), vI x3, vR 662 0] s else none) (fun _ => rfl) (rg_gd h fun h => ?_)
      refine rg_step 9 (G' := fun f => if inb (((cI 15) * x3) + x1) 60 = true then evT f 426 44 [oR 549 0, oI x1, oI x2, oI x3] [vI (s.1 663 (ix (((cI 15) * x3) + x1))), vI x2, vI (s.1 662 (ix x3)), vI x3, vR 662 0] s else none) (fun _ => rfl) (rg_gd h fun h => ?_)
      refine rg_step 1 (G' := fun f => ev_after (evT f 420 0 [oI x2, oI (s.1 663 (ix (((cI 15) * x3) + x1))), nn, nn] [] s) (fun q => evT f 426 47 [oR 549 0, oI x1, oI x2, oI x3] (q.2 ++ [vI (s.1 662 (ix x3)), vI x3, vR 662 0]) q.1)) (fun _ => rfl) (rg_bd1 h fun v1 hc h => rg_call (q := cvP s v1) (T_fM_times hc) ?_)
      refine rg_step 2 (G' := fun f => if inb x3 4 = true then evT f 426 49 [oR 549 0, oI x1, oI x2, oI x3] [] (wI s 662 (ix x3) ((s.1 662 (ix x3)) ^^^ v1)) else none) (fun _ => rfl) (rg_gd h fun h => rg_ltM h fun s2 h => ?_)
      exact rg_step 2 (G' := fun f => evT f 426 16 [oR 549 0, oI x1, oI x2, oI (x3 + cI 1)] [] s2) (fun _ => rfl) (hk16 h)
    · exact rg_end 1 (fun _ => rfl) (by cases h; rfl)
theorem t_fM_change_h16 {n : Nat} {s : ev_M} {x1 : Int32} {x2 : Int32} {x3 : Int32} {q : ev_M} (h : fM_change_h16 n s x1 x2 x3 = some q) : RR 426 16 [oR 549 0, oI x1, oI x2, oI x3] [] s (cvV q) := ti_fM_change_h16 n s x1 x2 x3 q h
theorem T_fM_change {s : ev_M} {a1 : Int32} {a2 : Int32} {q : ev_M} (h : fM_change s a1 a2 = some q) : RR 426 0 [oR 549 0, oI a1, oI a2, nn] [] s (cvV q) := by
  refine rg_step 7 (G' := fun f => if inb a1 15 = true then evT f 426 11 [oR 549 0, oI a1, oI a2, nn] [vI (s.1 660 (ix a1)), vI a1, vR 660 0] s else none) (fun _ => rfl) (rg_gd h fun h => ?_)
  refine rg_step 3 (G' := fun f => if inb a1 15 = true then evT f 426 14 [oR 549 0, oI a1, oI a2, nn] [] (wI s 660 (ix a1) ((s.1 660 (ix a1)) ^^^ a2)) else none) (fun _ => rfl) (rg_gd h fun h => rg_ltM h fun s3 h => ?_)
  exact rg_step 2 (G' := fun f => evT f 426 16 [oR 549 0, oI a1, oI a2, oI (cI 0)] [] s3) (fun _ => rfl) ((t_fM_change_h16) h)
theorem ti_fM_mendOne_h11 {k2 : ev_M → Int32 → Int32 → Option (ev_M × Int32)} (hk2 : ∀ {s : ev_M} {x2 : Int32} {x3 : Int32} {j1 : Option ev_V} {j4 : Option ev_V} {q : ev_M × Int32}, k2 s x2 x3 = some q → RR 427 2 [oR 549 0, j1, oI x2, oI x3, j4] [] s (cvI q)) : ∀ (n : Nat) (s : ev_M) (x2 : Int32) (x3 : Int32) (x4 : Int32) (j1 : Option ev_V) (q : ev_M × Int32), fM_mendOne_h11 k2 n s x2 x3 x4 = some q → RR 427 11 [oR 549 0, j1, oI x2, oI x3, oI x4] [] s (cvI q) := by
  intro n
  induction n with
  | zero => intro s x2 x3 x4 j1 q h; cases h
  | succ n ih =>
    have hk11 : ∀ {s : ev_M} {x2 : Int32} {x3 : Int32} {x4 : Int32} {j1 : Option ev_V} {q : ev_M × Int32}, fM_mendOne_h11 k2 n s x2 x3 x4 = some q → RR 427 11 [oR 549 0, j1, oI x2, oI x3, oI x4] [] s (cvI q) := fun h => ih _ _ _ _ _ _ h
    intro s x2 x3 x4 j1 q h
    refine rg_step 3 (G' := fun f => if x4 < (cI 16) then evT f 427 18 [oR 549 0, nn, oI x2, oI x3, oI x4] [] s else evT f 427 50 [oR 549 0, nn, oI x2, oI x3, oI x4] [] s) (fun _ => rfl) (rg_if h (fun h => ?_) fun h => ?_)
    · refine rg_step 4 (G' := fun f => ev_after (evT f 425 0 [oR 549 0, oI x3, oI x4, nn, nn] [] s) (fun q => evT f 427 25 [oR 549 0, nn, oI x2, oI x3, oI x4] (q.2 ++ []) q.1)) (fun _ => rfl) (rg_bd1 h fun v1 hc h => rg_call (q := cvP s v1) (T_fM_mends hc) ?_)
      refine rg_step 1 (G' := fun f => if v1 = 0 then evT f 427 44 [oR 549 0, nn, oI x2, oI x3, oI x4] [] s else evT f 427 28 [oR 549 0, nn, oI x2, oI x3, oI x4] [] s) (fun _ => rfl) (rg_if h (fun h => ?_) fun h => ?_)
      · exact rg_step 2 (G' := fun f => evT f 427 11 [oR 549 0, nn, oI x2, oI x3, oI (x4 + cI 1)] [] s) (fun _ => rfl) (hk11 h)
      · refine rg_step 4 (G' := fun f => ev_after (evT f 426 0 [oR 549 0, oI x3, oI x4, nn] [] s) (fun q => evT f 427 35 [oR 549 0, nn, oI x2, oI x3, oI x4] (q.2 ++ []) q.1)) (fun _ => rfl) (rg_bd1 h fun s2 hc h => rg_call (q := cvV s2) (T_fM_change hc) ?_)
        refine rg_step 5 (G' := fun f => evT f 427 42 [oR 549 0, nn, oI x2, oI x3, oI x4] [] (wI s2 549 161 (x2 + (cI 1)))) (fun _ => rfl) (rg_ltM h fun s3 h => ?_)
        exact rg_end 2 (fun _ => rfl) (by cases h; rfl)
    · exact rg_step 2 (G' := fun f => evT f 427 2 [oR 549 0, nn, oI x2, oI (x3 + cI 1), oI x4] [] s) (fun _ => rfl) (hk2 h)
theorem t_fM_mendOne_h11 {k2 : ev_M → Int32 → Int32 → Option (ev_M × Int32)} (hk2 : ∀ {s : ev_M} {x2 : Int32} {x3 : Int32} {j1 : Option ev_V} {j4 : Option ev_V} {q : ev_M × Int32}, k2 s x2 x3 = some q → RR 427 2 [oR 549 0, j1, oI x2, oI x3, j4] [] s (cvI q)) {n : Nat} {s : ev_M} {x2 : Int32} {x3 : Int32} {x4 : Int32} {j1 : Option ev_V} {q : ev_M × Int32} (h : fM_mendOne_h11 k2 n s x2 x3 x4 = some q) : RR 427 11 [oR 549 0, j1, oI x2, oI x3, oI x4] [] s (cvI q) := ti_fM_mendOne_h11 hk2 n s x2 x3 x4 j1 q h
theorem ti_fM_mendOne_h2 : ∀ (n : Nat) (s : ev_M) (x2 : Int32) (x3 : Int32) (j1 : Option ev_V) (j4 : Option ev_V) (q : ev_M × Int32), fM_mendOne_h2 n s x2 x3 = some q → RR 427 2 [oR 549 0, j1, oI x2, oI x3, j4] [] s (cvI q) := by
  intro n
  induction n with
  | zero => intro s x2 x3 j1 j4 q h; cases h
  | succ n ih =>
    have hk2 : ∀ {s : ev_M} {x2 : Int32} {x3 : Int32} {j1 : Option ev_V} {j4 : Option ev_V} {q : ev_M × Int32}, fM_mendOne_h2 n s x2 x3 = some q → RR 427 2 [oR 549 0, j1, oI x2, oI x3, j4] [] s (cvI q) := fun h => ih _ _ _ _ _ _ h
    intro s x2 x3 j1 j4 q h
    refine rg_step 3 (G' := fun f => if x3 < (cI 15) then evT f 427 8 [oR 549 0, nn, oI x2, oI x3, nn] [] s else evT f 427 56 [oR 549 0, nn, oI x2, oI x3, nn] [] s) (fun _ => rfl) (rg_if h (fun h => ?_) fun h => ?_)
    · exact rg_step 2 (G' := fun f => evT f 427 11 [oR 549 0, nn, oI x2, oI x3, oI (cI 1)] [] s) (fun _ => rfl) ((t_fM_mendOne_h11 hk2) h)
    · exact rg_end 2 (fun _ => rfl) (by cases h; rfl)
theorem t_fM_mendOne_h2 {n : Nat} {s : ev_M} {x2 : Int32} {x3 : Int32} {j1 : Option ev_V} {j4 : Option ev_V} {q : ev_M × Int32} (h : fM_mendOne_h2 n s x2 x3 = some q) : RR 427 2 [oR 549 0, j1, oI x2, oI x3, j4] [] s (cvI q) := ti_fM_mendOne_h2 n s x2 x3 j1 j4 q h
theorem T_fM_mendOne {s : ev_M} {a1 : Int32} {a2 : Int32} {q : ev_M × Int32} (h : fM_mendOne s a1 a2 = some q) : RR 427 0 [oR 549 0, oI a1, oI a2, nn, nn] [] s (cvI q) := by
  exact rg_step 2 (G' := fun f => evT f 427 2 [oR 549 0, oI a1, oI a2, oI a1, nn] [] s) (fun _ => rfl) ((t_fM_mendOne_h2) h)
theorem ti_fM_mendTwo_h10 {k2 : ev_M → Int32 → Option (ev_M × Int32)} (hk2 : ∀ {s : ev_M} {x1 : Int32} {j2 : Option ev_V} {q : ev_M × Int32}, k2 s x1 = some q → RR 428 2 [oR 549 0, oI x1, j2] [] s (cvI q)) : ∀ (n : Nat) (s : ev_M) (x1 : Int32) (x2 : Int32) (q : ev_M × Int32), fM_mendTwo_h10 k2 n s x1 x2 = some q → RR 428 10 [oR 549 0, oI x1, oI x2] [] s (cvI q) := by
  intro n
  induction n with
  | zero => intro s x1 x2 q h; cases h
  | succ n ih =>
    have hk10 : ∀ {s : ev_M} {x1 : Int32} {x2 : Int32} {q : ev_M × Int32}, fM_mendTwo_h10 k2 n s x1 x2 = some q → RR 428 10 [oR 549 0, oI x1, oI x2] [] s (cvI q) := fun h => ih _ _ _ _ h
    intro s x1 x2 q h
    refine rg_step 3 (G' := fun f => if x2 < (cI 16) then evT f 428 16 [oR 549 0, oI x1, oI x2] [] s else evT f 428 47 [oR 549 0, oI x1, oI x2] [] s) (fun _ => rfl) (rg_if h (fun h => ?_) fun h => ?_)
    · refine rg_step 4 (G' := fun f => ev_after (evT f 426 0 [oR 549 0, oI x1, oI x2, nn] [] s) (fun q => evT f 428 22 [oR 549 0, oI x1, oI x2] (q.2 ++ []) q.1)) (fun _ => rfl) (rg_bd1 h fun s1 hc h => rg_call (q := cvV s1) (T_fM_change hc) ?_)
      refine rg_step 6 (G' := fun f => ev_after (evT f 427 0 [oR 549 0, oI (x1 + (cI 1)), oI (cI 1), nn, nn] [] s1) (fun q => evT f 428 30 [oR 549 0, oI x1, oI x2] (q.2 ++ []) q.1)) (fun _ => rfl) (rg_bd2 h fun s2 v3 hc h => rg_call (q := cvI (s2, v3)) (T_fM_mendOne hc) ?_)
      refine rg_step 1 (G' := fun f => if v3 = 0 then evT f 428 35 [oR 549 0, oI x1, oI x2] [] s2 else evT f 428 33 [oR 549 0, oI x1, oI x2] [] s2) (fun _ => rfl) (rg_if h (fun h => ?_) fun h => ?_)
      · refine rg_step 4 (G' := fun f => ev_after (evT f 426 0 [oR 549 0, oI x1, oI x2, nn] [] s2) (fun q => evT f 428 41 [oR 549 0, oI x1, oI x2] (q.2 ++ []) q.1)) (fun _ => rfl) (rg_bd1 h fun s4 hc h => rg_call (q := cvV s4) (T_fM_change hc) ?_)
        exact rg_step 2 (G' := fun f => evT f 428 10 [oR 549 0, oI x1, oI (x2 + cI 1)] [] s4) (fun _ => rfl) (hk10 h)
      · exact rg_end 2 (fun _ => rfl) (by cases h; rfl)
    · exact rg_step 2 (G' := fun f => evT f 428 2 [oR 549 0, oI (x1 + cI 1), oI x2] [] s) (fun _ => rfl) (hk2 h)
theorem t_fM_mendTwo_h10 {k2 : ev_M → Int32 → Option (ev_M × Int32)} (hk2 : ∀ {s : ev_M} {x1 : Int32} {j2 : Option ev_V} {q : ev_M × Int32}, k2 s x1 = some q → RR 428 2 [oR 549 0, oI x1, j2] [] s (cvI q)) {n : Nat} {s : ev_M} {x1 : Int32} {x2 : Int32} {q : ev_M × Int32} (h : fM_mendTwo_h10 k2 n s x1 x2 = some q) : RR 428 10 [oR 549 0, oI x1, oI x2] [] s (cvI q) := ti_fM_mendTwo_h10 hk2 n s x1 x2 q h
theorem ti_fM_mendTwo_h2 : ∀ (n : Nat) (s : ev_M) (x1 : Int32) (j2 : Option ev_V) (q : ev_M × Int32), fM_mendTwo_h2 n s x1 = some q → RR 428 2 [oR 549 0, oI x1, j2] [] s (cvI q) := by
  intro n
  induction n with
  | zero => intro s x1 j2 q h; cases h
  | succ n ih =>
    have hk2 : ∀ {s : ev_M} {x1 : Int32} {j2 : Option ev_V} {q : ev_M × Int32}, fM_mendTwo_h2 n s x1 = some q → RR 428 2 [oR 549 0, oI x1, j2] [] s (cvI q) := fun h => ih _ _ _ _ h
    intro s x1 j2 q h
    refine rg_step 3 (G' := fun f => if x1 < (cI 15) then evT f 428 8 [oR 549 0, oI x1, nn] [] s else evT f 428 53 [oR 549 0, oI x1, nn] [] s) (fun _ => rfl) (rg_if h (fun h => ?_) fun h => ?_)
    · exact rg_step 2 (G' := fun f => evT f 428 10 [oR 549 0, oI x1, oI (cI 1)] [] s) (fun _ => rfl) ((t_fM_mendTwo_h10 hk2) h)
    · exact rg_end 2 (fun _ => rfl) (by cases h; rfl)
theorem t_fM_mendTwo_h2 {n : Nat} {s : ev_M} {x1 : Int32} {j2 : Option ev_V} {q : ev_M × Int32} (h : fM_mendTwo_h2 n s x1 = some q) : RR 428 2 [oR 549 0, oI x1, j2] [] s (cvI q) := ti_fM_mendTwo_h2 n s x1 j2 q h
theorem T_fM_mendTwo {s : ev_M} {q : ev_M × Int32} (h : fM_mendTwo s = some q) : RR 428 0 [oR 549 0, nn, nn] [] s (cvI q) := by
  exact rg_step 2 (G' := fun f => evT f 428 2 [oR 549 0, oI (cI 0), nn] [] s) (fun _ => rfl) ((t_fM_mendTwo_h2) h)
theorem ti_fM_sumOf_h4 {s : ev_M} : ∀ (n : Nat) (x1 : Int32) (x2 : Int32) (x3 : Int32) (q : Int32), fM_sumOf_h4 s n x1 x2 x3 = some q → RR 422 4 [oR 549 0, oI x1, oI x2, oI x3] [] s (cvP s q) := by
  intro n
  induction n with
  | zero => intro x1 x2 x3 q h; cases h
  | succ n ih =>
    have hk4 : ∀ {x1 : Int32} {x2 : Int32} {x3 : Int32} {q : Int32}, fM_sumOf_h4 s n x1 x2 x3 = some q → RR 422 4 [oR 549 0, oI x1, oI x2, oI x3] [] s (cvP s q) := fun h => ih _ _ _ _ h
    intro x1 x2 x3 q h
    refine rg_step 3 (G' := fun f => if x3 < (cI 15) then evT f 422 10 [oR 549 0, oI x1, oI x2, oI x3] [] s else evT f 422 34 [oR 549 0, oI x1, oI x2, oI x3] [] s) (fun _ => rfl) (rg_if h (fun h => ?_) fun h => ?_)
    · refine rg_step 5 (G' := fun f => if inb x1 4 = true then evT f 422 17 [oR 549 0, oI x1, oI x2, oI x3] [vI (s.1 661 (ix x1)), vI x2] s else none) (fun _ => rfl) (rg_gd h fun h => ?_)
      refine rg_step 1 (G' := fun f => ev_after (evT f 420 0 [oI x2, oI (s.1 661 (ix x1)), nn, nn] [] s) (fun q => evT f 422 20 [oR 549 0, oI x1, oI x2, oI x3] (q.2 ++ []) q.1)) (fun _ => rfl) (rg_bd1 h fun v1 hc h => rg_call (q := cvP s v1) (T_fM_times hc) ?_)
      refine rg_step 4 (G' := fun f => if inb x3 15 = true then evT f 422 26 [oR 549 0, oI x1, oI x2, oI x3] [vI (s.1 660 (ix x3)), vI v1] s else none) (fun _ => rfl) (rg_gd h fun h => ?_)
      refine rg_step 2 (G' := fun f => evT f 422 28 [oR 549 0, oI x1, oI (v1 ^^^ (s.1 660 (ix x3))), oI x3] [] s) (fun _ => rfl) (rg_ltI (P := fun v2 => RG (fun f => evT f 422 28 [oR 549 0, oI x1, oI v2, oI x3] [] s) (cvP s q)) h fun v2 h => ?_)
      exact rg_step 2 (G' := fun f => evT f 422 4 [oR 549 0, oI x1, oI v2, oI (x3 + cI 1)] [] s) (fun _ => rfl) (hk4 h)
    · exact rg_end 2 (fun _ => rfl) (by cases h; rfl)
theorem t_fM_sumOf_h4 {s : ev_M} {n : Nat} {x1 : Int32} {x2 : Int32} {x3 : Int32} {q : Int32} (h : fM_sumOf_h4 s n x1 x2 x3 = some q) : RR 422 4 [oR 549 0, oI x1, oI x2, oI x3] [] s (cvP s q) := ti_fM_sumOf_h4 n x1 x2 x3 q h
theorem T_fM_sumOf {s : ev_M} {a1 : Int32} {q : Int32} (h : fM_sumOf s a1 = some q) : RR 422 0 [oR 549 0, oI a1, nn, nn] [] s (cvP s q) := by
  exact rg_step 4 (G' := fun f => evT f 422 4 [oR 549 0, oI a1, oI (cI 0), oI (cI 0)] [] s) (fun _ => rfl) ((t_fM_sumOf_h4) h)
theorem t_fM_scan_b101 {k67 : ev_M → Int32 → Int32 → Option (ev_M × Int32)} (hk67 : ∀ {s : ev_M} {x2 : Int32} {x3 : Int32} {j1 : Option ev_V} {j4 : Option ev_V} {q : ev_M × Int32}, k67 s x2 x3 = some q → RR 429 67 [oR 549 0, j1, oI x2, oI x3, j4] [] s (cvI q)) {s : ev_M} {x3 : Int32} {y0 : Int32} {j1 : Option ev_V} {j2 : Option ev_V} {j4 : Option ev_V} {q : ev_M × Int32} (h : fM_scan_b101 k67 s x3 y0 = some q) : RR 429 101 [oR 549 0, j1, j2, oI x3, j4] [vI y0] s (cvI q) := by
  exact rg_step 3 (G' := fun f => evT f 429 67 [oR 549 0, nn, oI y0, oI (x3 + cI 1), nn] [] s) (fun _ => rfl) (hk67 h)
theorem t_fM_scan_b100 {k67 : ev_M → Int32 → Int32 → Option (ev_M × Int32)} (hk67 : ∀ {s : ev_M} {x2 : Int32} {x3 : Int32} {j1 : Option ev_V} {j4 : Option ev_V} {q : ev_M × Int32}, k67 s x2 x3 = some q → RR 429 67 [oR 549 0, j1, oI x2, oI x3, j4] [] s (cvI q)) {s : ev_M} {x3 : Int32} {j1 : Option ev_V} {j2 : Option ev_V} {j4 : Option ev_V} {q : ev_M × Int32} (h : fM_scan_b100 k67 s x3 = some q) : RR 429 100 [oR 549 0, j1, j2, oI x3, j4] [] s (cvI q) := by
  exact rg_step 1 (G' := fun f => evT f 429 101 [oR 549 0, nn, nn, oI x3, nn] [vI (cI 0)] s) (fun _ => rfl) ((t_fM_scan_b101 hk67) h)
theorem t_fM_scan_b146 {s : ev_M} {y0 : Int32} {j1 : Option ev_V} {j2 : Option ev_V} {j3 : Option ev_V} {j4 : Option ev_V} {q : ev_M × Int32} (h : fM_scan_b146 s y0 = some q) : RR 429 146 [oR 549 0, j1, j2, j3, j4] [vI y0] s (cvI q) := by
  refine rg_step 20 (G' := fun f => evT f 429 174 [oR 549 0, nn, nn, oI y0, oI ((((s.1 660 (ix (cI 0))) <<< ((cI 8) &&& 31)) ||| ((s.1 660 (ix (cI 1))) <<< ((cI 4) &&& 31))) ||| (s.1 660 (ix (cI 2))))] [] s) (fun _ => rfl) (rg_ltI (P := fun v1 => RG (fun f => evT f 429 174 [oR 549 0, nn, nn, oI y0, oI v1] [] s) (cvI q)) h fun v1 h => ?_)
  refine rg_step 2 (G' := fun f => if y0 = 0 then evT f 429 192 [oR 549 0, nn, nn, oI y0, oI v1] [] s else evT f 429 178 [oR 549 0, nn, nn, oI y0, oI v1] [] s) (fun _ => rfl) (rg_if h (fun h => ?_) fun h => ?_)
  · exact rg_end 2 (fun _ => rfl) (by cases h; rfl)
  · refine rg_step 4 (G' := fun f => if v1 < (s.1 549 58) then evT f 429 187 [oR 549 0, nn, nn, oI y0, oI v1] [] s else evT f 429 192 [oR 549 0, nn, nn, oI y0, oI v1] [] s) (fun _ => rfl) (rg_if h (fun h => ?_) fun h => ?_)
    · exact rg_end 3 (fun _ => rfl) (by cases h; rfl)
    · exact rg_end 2 (fun _ => rfl) (by cases h; rfl)
theorem t_fM_scan_b141 {s : ev_M} {j1 : Option ev_V} {j2 : Option ev_V} {j3 : Option ev_V} {j4 : Option ev_V} {q : ev_M × Int32} (h : fM_scan_b141 s = some q) : RR 429 141 [oR 549 0, j1, j2, j3, j4] [] s (cvI q) := by
  exact rg_step 2 (G' := fun f => evT f 429 146 [oR 549 0, nn, nn, nn, nn] [vI (cI 1)] s) (fun _ => rfl) ((t_fM_scan_b146) h)
theorem t_fM_scan_b118 {s : ev_M} {x2 : Int32} {y1 : Int32} {j1 : Option ev_V} {j3 : Option ev_V} {j4 : Option ev_V} {q : ev_M × Int32} (h : fM_scan_b118 s x2 y1 = some q) : RR 429 118 [oR 549 0, j1, oI x2, j3, j4] [vI y1, vR 549 0] s (cvI q) := by
  refine rg_step 1 (G' := fun f => evT f 429 121 [oR 549 0, nn, oI x2, nn, nn] [] (wI s 549 161 y1)) (fun _ => rfl) (rg_ltM h fun s2 h => ?_)
  refine rg_step 2 (G' := fun f => if x2 = 0 then evT f 429 125 [oR 549 0, nn, oI x2, nn, nn] [] s2 else evT f 429 141 [oR 549 0, nn, oI x2, nn, nn] [] s2) (fun _ => rfl) (rg_if h (fun h => ?_) fun h => ?_)
  · refine rg_step 4 (G' := fun f => ev_after (evT f 427 0 [oR 549 0, oI (cI 0), oI (cI 0), nn, nn] [] s2) (fun q => evT f 429 131 [oR 549 0, nn, oI x2, nn, nn] (q.2 ++ []) q.1)) (fun _ => rfl) (rg_bd2 h fun s3 v4 hc h => rg_call (q := cvI (s3, v4)) (T_fM_mendOne hc) ?_)
    refine rg_step 1 (G' := fun f => if v4 = 0 then evT f 429 134 [oR 549 0, nn, oI x2, nn, nn] [] s3 else evT f 429 141 [oR 549 0, nn, oI x2, nn, nn] [] s3) (fun _ => rfl) (rg_if h (fun h => ?_) fun h => ?_)
    · refine rg_step 2 (G' := fun f => ev_after (evT f 428 0 [oR 549 0, nn, nn] [] s3) (fun q => evT f 429 138 [oR 549 0, nn, oI x2, nn, nn] (q.2 ++ []) q.1)) (fun _ => rfl) (rg_bd2 h fun s5 v6 hc h => rg_call (q := cvI (s5, v6)) (T_fM_mendTwo hc) ?_)
      refine rg_step 1 (G' := fun f => if v6 = 0 then evT f 429 145 [oR 549 0, nn, oI x2, nn, nn] [] s5 else evT f 429 141 [oR 549 0, nn, oI x2, nn, nn] [] s5) (fun _ => rfl) (rg_if h (fun h => ?_) fun h => ?_)
      · exact rg_step 1 (G' := fun f => evT f 429 146 [oR 549 0, nn, oI x2, nn, nn] [vI (cI 0)] s5) (fun _ => rfl) ((t_fM_scan_b146) h)
      · exact (t_fM_scan_b141) h
    · exact (t_fM_scan_b141) h
  · exact (t_fM_scan_b141) h
theorem ti_fM_scan_h67 : ∀ (n : Nat) (s : ev_M) (x2 : Int32) (x3 : Int32) (j1 : Option ev_V) (j4 : Option ev_V) (q : ev_M × Int32), fM_scan_h67 n s x2 x3 = some q → RR 429 67 [oR 549 0, j1, oI x2, oI x3, j4] [] s (cvI q) := by
  intro n
  induction n with
  | zero => intro s x2 x3 j1 j4 q h; cases h
  | succ n ih =>
    have hk67 : ∀ {s : ev_M} {x2 : Int32} {x3 : Int32} {j1 : Option ev_V} {j4 : Option ev_V} {q : ev_M × Int32}, fM_scan_h67 n s x2 x3 = some q → RR 429 67 [oR 549 0, j1, oI x2, oI x3, j4] [] s (cvI q) := fun h => ih _ _ _ _ _ _ h
    intro s x2 x3 j1 j4 q h
    refine rg_step 3 (G' := fun f => if x3 < (cI 4) then evT f 429 72 [oR 549 0, nn, oI x2, oI x3, nn] [] s else evT f 429 108 [oR 549 0, nn, oI x2, oI x3, nn] [] s) (fun _ => rfl) (rg_if h (fun h => ?_) fun h => ?_)
    · refine rg_step 6 (G' := fun f => ev_after (evT f 422 0 [oR 549 0, oI x3, nn, nn] [] s) (fun q => evT f 429 82 [oR 549 0, nn, oI x2, oI x3, nn] (q.2 ++ [vI x3, vR 662 0]) q.1)) (fun _ => rfl) (rg_bd1 h fun v7 hc h => rg_call (q := cvP s v7) (T_fM_sumOf hc) ?_)
      refine rg_step 1 (G' := fun f => if inb x3 4 = true then evT f 429 83 [oR 549 0, nn, oI x2, oI x3, nn] [] (wI s 662 (ix x3) v7) else none) (fun _ => rfl) (rg_gd h fun h => rg_ltM h fun s8 h => ?_)
      refine rg_step 2 (G' := fun f => if x2 = 0 then evT f 429 100 [oR 549 0, nn, oI x2, oI x3, nn] [] s8 else evT f 429 87 [oR 549 0, nn, oI x2, oI x3, nn] [] s8) (fun _ => rfl) (rg_if h (fun h => ?_) fun h => ?_)
      · exact (t_fM_scan_b100 hk67) h
      · refine rg_step 4 (G' := fun f => if inb x3 4 = true then evT f 429 93 [oR 549 0, nn, oI x2, oI x3, nn] [vI (s8.1 662 (ix x3))] s8 else none) (fun _ => rfl) (rg_gd h fun h => ?_)
        refine rg_step 1 (G' := fun f => if (s8.1 662 (ix x3)) = 0 then evT f 429 96 [oR 549 0, nn, oI x2, oI x3, nn] [] s8 else evT f 429 100 [oR 549 0, nn, oI x2, oI x3, nn] [] s8) (fun _ => rfl) (rg_if h (fun h => ?_) fun h => ?_)
        · exact rg_step 2 (G' := fun f => evT f 429 101 [oR 549 0, nn, oI x2, oI x3, nn] [vI (cI 1)] s8) (fun _ => rfl) ((t_fM_scan_b101 hk67) h)
        · exact (t_fM_scan_b100 hk67) h
    · refine rg_step 3 (G' := fun f => if x2 = 0 then evT f 429 117 [oR 549 0, nn, oI x2, oI x3, nn] [vR 549 0] s else evT f 429 113 [oR 549 0, nn, oI x2, oI x3, nn] [vR 549 0] s) (fun _ => rfl) (rg_if h (fun h => ?_) fun h => ?_)
      · exact rg_step 1 (G' := fun f => evT f 429 118 [oR 549 0, nn, oI x2, oI x3, nn] [vI (cI (-1)), vR 549 0] s) (fun _ => rfl) ((t_fM_scan_b118) h)
      · exact rg_step 2 (G' := fun f => evT f 429 118 [oR 549 0, nn, oI x2, oI x3, nn] [vI (cI 0), vR 549 0] s) (fun _ => rfl) ((t_fM_scan_b118) h)
theorem t_fM_scan_h67 {n : Nat} {s : ev_M} {x2 : Int32} {x3 : Int32} {j1 : Option ev_V} {j4 : Option ev_V} {q : ev_M × Int32} (h : fM_scan_h67 n s x2 x3 = some q) : RR 429 67 [oR 549 0, j1, oI x2, oI x3, j4] [] s (cvI q) := ti_fM_scan_h67 n s x2 x3 j1 j4 q h
theorem ti_fM_scan_h36 : ∀ (n : Nat) (s : ev_M) (x2 : Int32) (j1 : Option ev_V) (j3 : Option ev_V) (j4 : Option ev_V) (q : ev_M × Int32), fM_scan_h36 n s x2 = some q → RR 429 36 [oR 549 0, j1, oI x2, j3, j4] [] s (cvI q) := by
  intro n
  induction n with
  | zero => intro s x2 j1 j3 j4 q h; cases h
  | succ n ih =>
    have hk36 : ∀ {s : ev_M} {x2 : Int32} {j1 : Option ev_V} {j3 : Option ev_V} {j4 : Option ev_V} {q : ev_M × Int32}, fM_scan_h36 n s x2 = some q → RR 429 36 [oR 549 0, j1, oI x2, j3, j4] [] s (cvI q) := fun h => ih _ _ _ _ _ _ h
    intro s x2 j1 j3 j4 q h
    refine rg_step 3 (G' := fun f => if x2 < (cI 15) then evT f 429 42 [oR 549 0, nn, oI x2, nn, nn] [] s else evT f 429 63 [oR 549 0, nn, oI x2, nn, nn] [] s) (fun _ => rfl) (rg_if h (fun h => ?_) fun h => ?_)
    · refine rg_step 7 (G' := fun f => if inb x2 4096 = true then evT f 429 53 [oR 549 0, nn, oI x2, nn, nn] [vI (s.1 550 (ix x2)), vI x2, vR 660 0] s else none) (fun _ => rfl) (rg_gd h fun h => ?_)
      refine rg_step 3 (G' := fun f => if inb x2 15 = true then evT f 429 57 [oR 549 0, nn, oI x2, nn, nn] [] (wI s 660 (ix x2) ((s.1 550 (ix x2)) &&& (cI 15))) else none) (fun _ => rfl) (rg_gd h fun h => rg_ltM h fun s9 h => ?_)
      exact rg_step 2 (G' := fun f => evT f 429 36 [oR 549 0, nn, oI (x2 + cI 1), nn, nn] [] s9) (fun _ => rfl) (hk36 h)
    · exact rg_step 4 (G' := fun f => evT f 429 67 [oR 549 0, nn, oI (cI 1), oI (cI 0), nn] [] s) (fun _ => rfl) ((t_fM_scan_h67) h)
theorem t_fM_scan_h36 {n : Nat} {s : ev_M} {x2 : Int32} {j1 : Option ev_V} {j3 : Option ev_V} {j4 : Option ev_V} {q : ev_M × Int32} (h : fM_scan_h36 n s x2 = some q) : RR 429 36 [oR 549 0, j1, oI x2, j3, j4] [] s (cvI q) := ti_fM_scan_h36 n s x2 j1 j3 j4 q h
theorem T_fM_scan {s : ev_M} {q : ev_M × Int32} (h : fM_scan s = some q) : RR 429 0 [oR 549 0, nn, nn, nn, nn] [] s (cvI q) := by
  refine rg_step 3 (G' := fun f => evT f 429 5 [oR 549 0, nn, nn, nn, nn] [] (wI s 549 0 (cI 0))) (fun _ => rfl) (rg_ltM h fun s10 h => ?_)
  refine rg_step 3 (G' := fun f => if (s10.1 549 5) = 0 then evT f 429 15 [oR 549 0, nn, nn, nn, nn] [] s10 else evT f 429 12 [oR 549 0, nn, nn, nn, nn] [] s10) (fun _ => rfl) (rg_if h (fun h => ?_) fun h => ?_)
  · refine rg_step 3 (G' := fun f => evT f 429 20 [oR 549 0, oI (s10.1 549 2), nn, nn, nn] [] s10) (fun _ => rfl) (rg_ltI (P := fun v11 => RG (fun f => evT f 429 20 [oR 549 0, oI v11, nn, nn, nn] [] s10) (cvI q)) h fun v11 h => ?_)
    refine rg_step 3 (G' := fun f => evT f 429 25 [oR 549 0, oI v11, nn, nn, nn] [] (wI s10 549 2 (cI 0))) (fun _ => rfl) (rg_ltM h fun s12 h => ?_)
    refine rg_step 3 (G' := fun f => if v11 = (cI 15) then evT f 429 34 [oR 549 0, oI v11, nn, nn, nn] [] s12 else evT f 429 31 [oR 549 0, oI v11, nn, nn, nn] [] s12) (fun _ => rfl) (rg_if h (fun h => ?_) fun h => ?_)
    · exact rg_step 2 (G' := fun f => evT f 429 36 [oR 549 0, oI v11, oI (cI 0), nn, nn] [] s12) (fun _ => rfl) ((t_fM_scan_h36) h)
    · exact rg_end 2 (fun _ => rfl) (by cases h; rfl)
  · exact rg_end 2 (fun _ => rfl) (by cases h; rfl)
theorem T_fPH_mended {s : ev_M} {q : Int32} (h : fPH_mended s = some q) : RR 255 0 [oR 0 0] [] s (cvP s q) := by
  refine rg_step 4 (G' := fun f => if (s.1 9 9) = 0 then evT f 255 15 [oR 0 0] [] s else evT f 255 10 [oR 0 0] [] s) (fun _ => rfl) (rg_if h (fun h => ?_) fun h => ?_)
  · exact rg_end 4 (fun _ => rfl) (by cases h; rfl)
  · exact rg_end 3 (fun _ => rfl) (by cases h; rfl)
theorem T_fM_mended {s : ev_M} {q : ev_M × Int32} (h : fM_mended s = some q) : RR 430 0 [oR 549 0] [] s (cvI q) := by
  refine rg_step 3 (G' := fun f => evT f 430 5 [oR 549 0] [] (wI s 549 0 (cI 0))) (fun _ => rfl) (rg_ltM h fun s1 h => ?_)
  refine rg_step 3 (G' := fun f => if (s1.1 549 5) = 0 then evT f 430 17 [oR 549 0] [] s1 else evT f 430 12 [oR 549 0] [] s1) (fun _ => rfl) (rg_if h (fun h => ?_) fun h => ?_)
  · exact rg_end 3 (fun _ => rfl) (by cases h; rfl)
  · exact rg_end 3 (fun _ => rfl) (by cases h; rfl)
theorem T_fPH_machine {s : ev_M} {a1 : Int32} {a2 : Int32} {a3 : Int32} {a4 : Int32} {q : ev_M × Int32} (h : fPH_machine s a1 a2 a3 a4 = some q) : RR 256 0 [oR 0 0, oI a1, oI a2, oI a3, oI a4] [] s (cvI q) := by
  refine rg_step 10 (G' := fun f => ev_after (evT f 122 0 [oR 9 0, oI (cI 10), oI a1, oI a2, oI a3, oI a4, oI (cI 0), oI (cI 0)] [] s) (fun q => evT f 256 16 [oR 0 0, oI a1, oI a2, oI a3, oI a4] (q.2 ++ []) q.1)) (fun _ => rfl) (rg_bd2 h fun s1 v2 hc h => rg_call (q := cvI (s1, v2)) (T_fLog_stages hc) ?_)
  refine rg_step 1 (G' := fun f => if v2 = 0 then evT f 256 30 [oR 0 0, oI a1, oI a2, oI a3, oI a4] [] s1 else evT f 256 19 [oR 0 0, oI a1, oI a2, oI a3, oI a4] [] s1) (fun _ => rfl) (rg_if h (fun h => ?_) fun h => ?_)
  · exact rg_end 2 (fun _ => rfl) (by cases h; rfl)
  · refine rg_step 4 (G' := fun f => ev_after (evT f 302 0 [oR 0 0, oR 1 0, nn, nn, nn, nn, nn, nn] [] s1) (fun q => evT f 256 27 [oR 0 0, oI a1, oI a2, oI a3, oI a4] (q.2 ++ []) q.1)) (fun _ => rfl) (rg_bd2 h fun s3 v4 hc h => rg_call (q := cvI (s3, v4)) (T_fPH_act_1 hc) ?_)
    exact rg_end 2 (fun _ => rfl) (by cases h; rfl)
theorem T_fM_machine {s : ev_M} {a1 : Int32} {a2 : Int32} {a3 : Int32} {a4 : Int32} {q : ev_M × Int32} (h : fM_machine s a1 a2 a3 a4 = some q) : RR 432 0 [oR 549 0, oI a1, oI a2, oI a3, oI a4] [] s (cvI q) := by
  refine rg_step 7 (G' := fun f => ev_after (evT f 322 0 [oR 549 0, oI (cI 10), oI a1, oI a2, oI a3, oI a4] [] s) (fun q => evT f 432 11 [oR 549 0, oI a1, oI a2, oI a3, oI a4] (q.2 ++ []) q.1)) (fun _ => rfl) (rg_bd2 h fun s1 v2 hc h => rg_call (q := cvI (s1, v2)) (T_fM_call4 hc) ?_)
  exact rg_end 1 (fun _ => rfl) (by cases h; rfl)
theorem T_fPH_round {s : ev_M} {a1 : Int32} {a2 : Int32} {a3 : Int32} {q : ev_M × Int32} (h : fPH_round s a1 a2 a3 = some q) : RR 257 0 [oR 0 0, oI a1, oI a2, oI a3] [] s (cvI q) := by
  refine rg_step 10 (G' := fun f => ev_after (evT f 122 0 [oR 9 0, oI (cI 11), oI a1, oI a2, oI a3, oI (cI 0), oI (cI 0), oI (cI 0)] [] s) (fun q => evT f 257 15 [oR 0 0, oI a1, oI a2, oI a3] (q.2 ++ []) q.1)) (fun _ => rfl) (rg_bd2 h fun s1 v2 hc h => rg_call (q := cvI (s1, v2)) (T_fLog_stages hc) ?_)
  refine rg_step 1 (G' := fun f => if v2 = 0 then evT f 257 29 [oR 0 0, oI a1, oI a2, oI a3] [] s1 else evT f 257 18 [oR 0 0, oI a1, oI a2, oI a3] [] s1) (fun _ => rfl) (rg_if h (fun h => ?_) fun h => ?_)
  · exact rg_end 2 (fun _ => rfl) (by cases h; rfl)
  · refine rg_step 4 (G' := fun f => ev_after (evT f 302 0 [oR 0 0, oR 1 0, nn, nn, nn, nn, nn, nn] [] s1) (fun q => evT f 257 26 [oR 0 0, oI a1, oI a2, oI a3] (q.2 ++ []) q.1)) (fun _ => rfl) (rg_bd2 h fun s3 v4 hc h => rg_call (q := cvI (s3, v4)) (T_fPH_act_1 hc) ?_)
    exact rg_end 2 (fun _ => rfl) (by cases h; rfl)
theorem T_fM_round {s : ev_M} {a1 : Int32} {a2 : Int32} {a3 : Int32} {q : ev_M × Int32} (h : fM_round s a1 a2 a3 = some q) : RR 434 0 [oR 549 0, oI a1, oI a2, oI a3] [] s (cvI q) := by
  refine rg_step 6 (G' := fun f => ev_after (evT f 321 0 [oR 549 0, oI (cI 11), oI a1, oI a2, oI a3] [] s) (fun q => evT f 434 9 [oR 549 0, oI a1, oI a2, oI a3] (q.2 ++ []) q.1)) (fun _ => rfl) (rg_bd2 h fun s1 v2 hc h => rg_call (q := cvI (s1, v2)) (T_fM_call3 hc) ?_)
  exact rg_end 1 (fun _ => rfl) (by cases h; rfl)
theorem T_fPH_assign {s : ev_M} {a1 : Int32} {a2 : Int32} {q : ev_M × Int32} (h : fPH_assign s a1 a2 = some q) : RR 258 0 [oR 0 0, oI a1, oI a2] [] s (cvI q) := by
  refine rg_step 10 (G' := fun f => ev_after (evT f 122 0 [oR 9 0, oI (cI 12), oI a1, oI a2, oI (cI 0), oI (cI 0), oI (cI 0), oI (cI 0)] [] s) (fun q => evT f 258 15 [oR 0 0, oI a1, oI a2] (q.2 ++ []) q.1)) (fun _ => rfl) (rg_bd2 h fun s1 v2 hc h => rg_call (q := cvI (s1, v2)) (T_fLog_stages hc) ?_)
  refine rg_step 1 (G' := fun f => if v2 = 0 then evT f 258 29 [oR 0 0, oI a1, oI a2] [] s1 else evT f 258 18 [oR 0 0, oI a1, oI a2] [] s1) (fun _ => rfl) (rg_if h (fun h => ?_) fun h => ?_)
  · exact rg_end 2 (fun _ => rfl) (by cases h; rfl)
  · refine rg_step 4 (G' := fun f => ev_after (evT f 302 0 [oR 0 0, oR 1 0, nn, nn, nn, nn, nn, nn] [] s1) (fun q => evT f 258 26 [oR 0 0, oI a1, oI a2] (q.2 ++ []) q.1)) (fun _ => rfl) (rg_bd2 h fun s3 v4 hc h => rg_call (q := cvI (s3, v4)) (T_fPH_act_1 hc) ?_)
    exact rg_end 2 (fun _ => rfl) (by cases h; rfl)
theorem T_fM_assign {s : ev_M} {a1 : Int32} {a2 : Int32} {q : ev_M × Int32} (h : fM_assign s a1 a2 = some q) : RR 437 0 [oR 549 0, oI a1, oI a2] [] s (cvI q) := by
  refine rg_step 5 (G' := fun f => ev_after (evT f 320 0 [oR 549 0, oI (cI 12), oI a1, oI a2] [] s) (fun q => evT f 437 8 [oR 549 0, oI a1, oI a2] (q.2 ++ []) q.1)) (fun _ => rfl) (rg_bd2 h fun s1 v2 hc h => rg_call (q := cvI (s1, v2)) (T_fM_call2 hc) ?_)
  exact rg_end 1 (fun _ => rfl) (by cases h; rfl)
theorem T_fPH_arrange {s : ev_M} {a1 : Int32} {q : ev_M × Int32} (h : fPH_arrange s a1 = some q) : RR 259 0 [oR 0 0, oI a1] [] s (cvI q) := by
  refine rg_step 10 (G' := fun f => ev_after (evT f 122 0 [oR 9 0, oI (cI 13), oI a1, oI (cI 0), oI (cI 0), oI (cI 0), oI (cI 0), oI (cI 0)] [] s) (fun q => evT f 259 15 [oR 0 0, oI a1] (q.2 ++ []) q.1)) (fun _ => rfl) (rg_bd2 h fun s1 v2 hc h => rg_call (q := cvI (s1, v2)) (T_fLog_stages hc) ?_)
  refine rg_step 1 (G' := fun f => if v2 = 0 then evT f 259 29 [oR 0 0, oI a1] [] s1 else evT f 259 18 [oR 0 0, oI a1] [] s1) (fun _ => rfl) (rg_if h (fun h => ?_) fun h => ?_)
  · exact rg_end 2 (fun _ => rfl) (by cases h; rfl)
  · refine rg_step 4 (G' := fun f => ev_after (evT f 302 0 [oR 0 0, oR 1 0, nn, nn, nn, nn, nn, nn] [] s1) (fun q => evT f 259 26 [oR 0 0, oI a1] (q.2 ++ []) q.1)) (fun _ => rfl) (rg_bd2 h fun s3 v4 hc h => rg_call (q := cvI (s3, v4)) (T_fPH_act_1 hc) ?_)
    exact rg_end 2 (fun _ => rfl) (by cases h; rfl)
theorem T_fM_arrange {s : ev_M} {a1 : Int32} {q : ev_M × Int32} (h : fM_arrange s a1 = some q) : RR 443 0 [oR 549 0, oI a1] [] s (cvI q) := by
  refine rg_step 4 (G' := fun f => ev_after (evT f 319 0 [oR 549 0, oI (cI 13), oI a1] [] s) (fun q => evT f 443 7 [oR 549 0, oI a1] (q.2 ++ []) q.1)) (fun _ => rfl) (rg_bd2 h fun s1 v2 hc h => rg_call (q := cvI (s1, v2)) (T_fM_call1 hc) ?_)
  exact rg_end 1 (fun _ => rfl) (by cases h; rfl)
theorem T_fRounds_stopAt {s : ev_M} {a1 : Int32} {a2 : Int32} {q : Int32} (h : fRounds_stopAt s a1 a2 = some q) : RR 170 0 [oR 138 0, oI a1, oI a2] [] s (cvP s q) := by
  refine rg_step 8 (G' := fun f => if inb a1 12 = true then evT f 170 10 [oR 138 0, oI a1, oI a2] [vI (s.1 (140 + (ix (cI 3))) (ix a1)), vI (cI 0), vI a2] s else none) (fun _ => rfl) (rg_gd h fun h => ?_)
  refine rg_step 3 (G' := fun f => ev_after (evT f 308 0 [oI a2, oI (cI 0), oI ((s.1 (140 + (ix (cI 3))) (ix a1)) - (cI 1))] [] s) (fun q => evT f 170 15 [oR 138 0, oI a1, oI a2] (q.2 ++ []) q.1)) (fun _ => rfl) (rg_bd1 h fun v1 hc h => rg_call (q := cvP s v1) (T_fPH_outside hc) ?_)
  refine rg_step 1 (G' := fun f => if v1 = 0 then evT f 170 22 [oR 138 0, oI a1, oI a2] [] s else evT f 170 18 [oR 138 0, oI a1, oI a2] [] s) (fun _ => rfl) (rg_if h (fun h => ?_) fun h => ?_)
  · refine rg_step 4 (G' := fun f => if inb a1 12 = true then evT f 170 28 [oR 138 0, oI a1, oI a2] [vR 146 (ix a1)] s else none) (fun _ => rfl) (rg_gd h fun h => ?_)
    refine rg_step 2 (G' := fun f => if inb a2 20 = true then evT f 170 30 [oR 138 0, oI a1, oI a2] [vI (s.1 (146 + (ix a1)) (ix a2))] s else none) (fun _ => rfl) (rg_gd h fun h => ?_)
    exact rg_end 1 (fun _ => rfl) (by cases h; rfl)
  · exact rg_end 3 (fun _ => rfl) (by cases h; rfl)
theorem T_fPH_stop {s : ev_M} {a1 : Int32} {a2 : Int32} {q : Int32} (h : fPH_stop s a1 a2 = some q) : RR 260 0 [oR 0 0, oI a1, oI a2] [] s (cvP s q) := by
  refine rg_step 4 (G' := fun f => if (s.1 9 9) = 0 then evT f 260 13 [oR 0 0, oI a1, oI a2] [] s else evT f 260 10 [oR 0 0, oI a1, oI a2] [] s) (fun _ => rfl) (rg_if h (fun h => ?_) fun h => ?_)
  · refine rg_step 4 (G' := fun f => ev_after (evT f 168 0 [oR 138 0, oI a1] [] s) (fun q => evT f 260 21 [oR 0 0, oI a1, oI a2] (q.2 ++ []) q.1)) (fun _ => rfl) (rg_bd1 h fun v1 hc h => rg_call (q := cvP s v1) (T_fRounds_has hc) ?_)
    refine rg_step 1 (G' := fun f => if v1 = 0 then evT f 260 36 [oR 0 0, oI a1, oI a2] [] s else evT f 260 24 [oR 0 0, oI a1, oI a2] [] s) (fun _ => rfl) (rg_if h (fun h => ?_) fun h => ?_)
    · exact rg_end 2 (fun _ => rfl) (by cases h; rfl)
    · refine rg_step 5 (G' := fun f => ev_after (evT f 170 0 [oR 138 0, oI a1, oI a2] [] s) (fun q => evT f 260 33 [oR 0 0, oI a1, oI a2] (q.2 ++ []) q.1)) (fun _ => rfl) (rg_bd1 h fun v2 hc h => rg_call (q := cvP s v2) (T_fRounds_stopAt hc) ?_)
      exact rg_end 2 (fun _ => rfl) (by cases h; rfl)
  · exact rg_end 2 (fun _ => rfl) (by cases h; rfl)
theorem t_fM_stop_b68 {k31 : ev_M → Int32 → Int32 → Int32 → Int32 → Option (ev_M × Int32)} (hk31 : ∀ {s : ev_M} {x1 : Int32} {x2 : Int32} {x3 : Int32} {x4 : Int32} {q : ev_M × Int32}, k31 s x1 x2 x3 x4 = some q → RR 444 31 [oR 549 0, oI x1, oI x2, oI x3, oI x4] [] s (cvI q)) {s : ev_M} {x1 : Int32} {x2 : Int32} {x4 : Int32} {y0 : Int32} {j3 : Option ev_V} {q : ev_M × Int32} (h : fM_stop_b68 k31 s x1 x2 x4 y0 = some q) : RR 444 68 [oR 549 0, oI x1, oI x2, j3, oI x4] [vI y0] s (cvI q) := by
  exact rg_step 3 (G' := fun f => evT f 444 31 [oR 549 0, oI x1, oI x2, oI y0, oI (x4 + cI 1)] [] s) (fun _ => rfl) (hk31 h)
theorem t_fM_stop_b67 {k31 : ev_M → Int32 → Int32 → Int32 → Int32 → Option (ev_M × Int32)} (hk31 : ∀ {s : ev_M} {x1 : Int32} {x2 : Int32} {x3 : Int32} {x4 : Int32} {q : ev_M × Int32}, k31 s x1 x2 x3 x4 = some q → RR 444 31 [oR 549 0, oI x1, oI x2, oI x3, oI x4] [] s (cvI q)) {s : ev_M} {x1 : Int32} {x2 : Int32} {x3 : Int32} {x4 : Int32} {q : ev_M × Int32} (h : fM_stop_b67 k31 s x1 x2 x3 x4 = some q) : RR 444 67 [oR 549 0, oI x1, oI x2, oI x3, oI x4] [] s (cvI q) := by
  exact rg_step 1 (G' := fun f => evT f 444 68 [oR 549 0, oI x1, oI x2, oI x3, oI x4] [vI x3] s) (fun _ => rfl) ((t_fM_stop_b68 hk31) h)
theorem ti_fM_stop_h31 : ∀ (n : Nat) (s : ev_M) (x1 : Int32) (x2 : Int32) (x3 : Int32) (x4 : Int32) (q : ev_M × Int32), fM_stop_h31 n s x1 x2 x3 x4 = some q → RR 444 31 [oR 549 0, oI x1, oI x2, oI x3, oI x4] [] s (cvI q) := by
  intro n
  induction n with
  | zero => intro s x1 x2 x3 x4 q h; cases h
  | succ n ih =>
    have hk31 : ∀ {s : ev_M} {x1 : Int32} {x2 : Int32} {x3 : Int32} {x4 : Int32} {q : ev_M × Int32}, fM_stop_h31 n s x1 x2 x3 x4 = some q → RR 444 31 [oR 549 0, oI x1, oI x2, oI x3, oI x4] [] s (cvI q) := fun h => ih _ _ _ _ _ _ h
    intro s x1 x2 x3 x4 q h
    refine rg_step 4 (G' := fun f => if x4 < (s.1 549 38) then evT f 444 40 [oR 549 0, oI x1, oI x2, oI x3, oI x4] [] s else evT f 444 75 [oR 549 0, oI x1, oI x2, oI x3, oI x4] [] s) (fun _ => rfl) (rg_if h (fun h => ?_) fun h => ?_)
    · refine rg_step 4 (G' := fun f => if inb x4 120 = true then evT f 444 47 [oR 549 0, oI x1, oI x2, oI x3, oI x4] [vI (s.1 571 (ix x4))] s else none) (fun _ => rfl) (rg_gd h fun h => ?_)
      refine rg_step 2 (G' := fun f => if (s.1 571 (ix x4)) = x1 then evT f 444 51 [oR 549 0, oI x1, oI x2, oI x3, oI x4] [] s else evT f 444 67 [oR 549 0, oI x1, oI x2, oI x3, oI x4] [] s) (fun _ => rfl) (rg_if h (fun h => ?_) fun h => ?_)
      · refine rg_step 4 (G' := fun f => if inb x4 120 = true then evT f 444 58 [oR 549 0, oI x1, oI x2, oI x3, oI x4] [vI (s.1 572 (ix x4))] s else none) (fun _ => rfl) (rg_gd h fun h => ?_)
        refine rg_step 2 (G' := fun f => if (s.1 572 (ix x4)) = x2 then evT f 444 62 [oR 549 0, oI x1, oI x2, oI x3, oI x4] [] s else evT f 444 67 [oR 549 0, oI x1, oI x2, oI x3, oI x4] [] s) (fun _ => rfl) (rg_if h (fun h => ?_) fun h => ?_)
        · exact rg_step 2 (G' := fun f => evT f 444 68 [oR 549 0, oI x1, oI x2, oI x3, oI x4] [vI x4] s) (fun _ => rfl) ((t_fM_stop_b68 hk31) h)
        · exact (t_fM_stop_b67 hk31) h
      · exact (t_fM_stop_b67 hk31) h
    · exact rg_end 2 (fun _ => rfl) (by cases h; rfl)
theorem t_fM_stop_h31 {n : Nat} {s : ev_M} {x1 : Int32} {x2 : Int32} {x3 : Int32} {x4 : Int32} {q : ev_M × Int32} (h : fM_stop_h31 n s x1 x2 x3 x4 = some q) : RR 444 31 [oR 549 0, oI x1, oI x2, oI x3, oI x4] [] s (cvI q) := ti_fM_stop_h31 n s x1 x2 x3 x4 q h
theorem T_fM_stop {s : ev_M} {a1 : Int32} {a2 : Int32} {q : ev_M × Int32} (h : fM_stop s a1 a2 = some q) : RR 444 0 [oR 549 0, oI a1, oI a2, nn, nn] [] s (cvI q) := by
  refine rg_step 3 (G' := fun f => evT f 444 5 [oR 549 0, oI a1, oI a2, nn, nn] [] (wI s 549 0 (cI 0))) (fun _ => rfl) (rg_ltM h fun s1 h => ?_)
  refine rg_step 3 (G' := fun f => if (s1.1 549 5) = 0 then evT f 444 15 [oR 549 0, oI a1, oI a2, nn, nn] [] s1 else evT f 444 12 [oR 549 0, oI a1, oI a2, nn, nn] [] s1) (fun _ => rfl) (rg_if h (fun h => ?_) fun h => ?_)
  · refine rg_step 3 (G' := fun f => ev_after (evT f 344 0 [oR 549 0, oI a1] [] s1) (fun q => evT f 444 20 [oR 549 0, oI a1, oI a2, nn, nn] (q.2 ++ []) q.1)) (fun _ => rfl) (rg_bd1 h fun v2 hc h => rg_call (q := cvP s1 v2) (T_fM_isRound hc) ?_)
    refine rg_step 1 (G' := fun f => if v2 = 0 then evT f 444 23 [oR 549 0, oI a1, oI a2, nn, nn] [] s1 else evT f 444 26 [oR 549 0, oI a1, oI a2, nn, nn] [] s1) (fun _ => rfl) (rg_if h (fun h => ?_) fun h => ?_)
    · exact rg_end 2 (fun _ => rfl) (by cases h; rfl)
    · exact rg_step 4 (G' := fun f => evT f 444 31 [oR 549 0, oI a1, oI a2, oI (cI (-1)), oI (cI 0)] [] s1) (fun _ => rfl) ((t_fM_stop_h31) h)
  · exact rg_end 2 (fun _ => rfl) (by cases h; rfl)
theorem T_fPH_sort {s : ev_M} {a1 : Int32} {q : ev_M × Int32} (h : fPH_sort s a1 = some q) : RR 261 0 [oR 0 0, oI a1] [] s (cvI q) := by
  refine rg_step 10 (G' := fun f => ev_after (evT f 122 0 [oR 9 0, oI (cI 14), oI a1, oI (cI 0), oI (cI 0), oI (cI 0), oI (cI 0), oI (cI 0)] [] s) (fun q => evT f 261 15 [oR 0 0, oI a1] (q.2 ++ []) q.1)) (fun _ => rfl) (rg_bd2 h fun s1 v2 hc h => rg_call (q := cvI (s1, v2)) (T_fLog_stages hc) ?_)
  refine rg_step 1 (G' := fun f => if v2 = 0 then evT f 261 29 [oR 0 0, oI a1] [] s1 else evT f 261 18 [oR 0 0, oI a1] [] s1) (fun _ => rfl) (rg_if h (fun h => ?_) fun h => ?_)
  · exact rg_end 2 (fun _ => rfl) (by cases h; rfl)
  · refine rg_step 4 (G' := fun f => ev_after (evT f 302 0 [oR 0 0, oR 1 0, nn, nn, nn, nn, nn, nn] [] s1) (fun q => evT f 261 26 [oR 0 0, oI a1] (q.2 ++ []) q.1)) (fun _ => rfl) (rg_bd2 h fun s3 v4 hc h => rg_call (q := cvI (s3, v4)) (T_fPH_act_1 hc) ?_)
    exact rg_end 2 (fun _ => rfl) (by cases h; rfl)
theorem T_fM_sort {s : ev_M} {a1 : Int32} {q : ev_M × Int32} (h : fM_sort s a1 = some q) : RR 450 0 [oR 549 0, oI a1] [] s (cvI q) := by
  refine rg_step 4 (G' := fun f => ev_after (evT f 319 0 [oR 549 0, oI (cI 14), oI a1] [] s) (fun q => evT f 450 7 [oR 549 0, oI a1] (q.2 ++ []) q.1)) (fun _ => rfl) (rg_bd2 h fun s1 v2 hc h => rg_call (q := cvI (s1, v2)) (T_fM_call1 hc) ?_)
  exact rg_end 1 (fun _ => rfl) (by cases h; rfl)
theorem T_fPH_passes {s : ev_M} {q : Int32} (h : fPH_passes s = some q) : RR 262 0 [oR 0 0] [] s (cvP s q) := by
  refine rg_step 4 (G' := fun f => if (s.1 9 9) = 0 then evT f 262 15 [oR 0 0] [] s else evT f 262 10 [oR 0 0] [] s) (fun _ => rfl) (rg_if h (fun h => ?_) fun h => ?_)
  · exact rg_end 4 (fun _ => rfl) (by cases h; rfl)
  · exact rg_end 3 (fun _ => rfl) (by cases h; rfl)
theorem T_fM_passes {s : ev_M} {q : ev_M × Int32} (h : fM_passes s = some q) : RR 451 0 [oR 549 0] [] s (cvI q) := by
  refine rg_step 3 (G' := fun f => evT f 451 5 [oR 549 0] [] (wI s 549 0 (cI 0))) (fun _ => rfl) (rg_ltM h fun s1 h => ?_)
  refine rg_step 3 (G' := fun f => if (s1.1 549 5) = 0 then evT f 451 17 [oR 549 0] [] s1 else evT f 451 12 [oR 549 0] [] s1) (fun _ => rfl) (rg_if h (fun h => ?_) fun h => ?_)
  · exact rg_end 3 (fun _ => rfl) (by cases h; rfl)
  · exact rg_end 3 (fun _ => rfl) (by cases h; rfl)
theorem T_fPH_wrong {s : ev_M} {a1 : Int32} {q : Int32} (h : fPH_wrong s a1 = some q) : RR 263 0 [oR 0 0, oI a1] [] s (cvP s q) := by
  refine rg_step 4 (G' := fun f => if (s.1 9 9) = 0 then evT f 263 13 [oR 0 0, oI a1] [] s else evT f 263 10 [oR 0 0, oI a1] [] s) (fun _ => rfl) (rg_if h (fun h => ?_) fun h => ?_)
  · refine rg_step 8 (G' := fun f => ev_after (evT f 308 0 [oI a1, oI (cI 0), oI ((s.1 138 10) - (cI 1))] [] s) (fun q => evT f 263 27 [oR 0 0, oI a1] (q.2 ++ []) q.1)) (fun _ => rfl) (rg_bd1 h fun v1 hc h => rg_call (q := cvP s v1) (T_fPH_outside hc) ?_)
    refine rg_step 1 (G' := fun f => if v1 = 0 then evT f 263 34 [oR 0 0, oI a1] [] s else evT f 263 30 [oR 0 0, oI a1] [] s) (fun _ => rfl) (rg_if h (fun h => ?_) fun h => ?_)
    · refine rg_step 5 (G' := fun f => if inb a1 300 = true then evT f 263 43 [oR 0 0, oI a1] [vI (s.1 173 (ix a1))] s else none) (fun _ => rfl) (rg_gd h fun h => ?_)
      exact rg_end 1 (fun _ => rfl) (by cases h; rfl)
    · exact rg_end 3 (fun _ => rfl) (by cases h; rfl)
  · exact rg_end 2 (fun _ => rfl) (by cases h; rfl)
theorem t_fM_wrong_b46 {k19 : ev_M → Int32 → Int32 → Int32 → Option (ev_M × Int32)} (hk19 : ∀ {s : ev_M} {x1 : Int32} {x2 : Int32} {x3 : Int32} {q : ev_M × Int32}, k19 s x1 x2 x3 = some q → RR 452 19 [oR 549 0, oI x1, oI x2, oI x3] [] s (cvI q)) {s : ev_M} {x1 : Int32} {x2 : Int32} {x3 : Int32} {q : ev_M × Int32} (h : fM_wrong_b46 k19 s x1 x2 x3 = some q) : RR 452 46 [oR 549 0, oI x1, oI x2, oI x3] [] s (cvI q) := by
  exact rg_step 2 (G' := fun f => evT f 452 19 [oR 549 0, oI x1, oI x2, oI (x3 + cI 1)] [] s) (fun _ => rfl) (hk19 h)
theorem ti_fM_wrong_h19 : ∀ (n : Nat) (s : ev_M) (x1 : Int32) (x2 : Int32) (x3 : Int32) (q : ev_M × Int32), fM_wrong_h19 n s x1 x2 x3 = some q → RR 452 19 [oR 549 0, oI x1, oI x2, oI x3] [] s (cvI q) := by
  intro n
  induction n with
  | zero => intro s x1 x2 x3 q h; cases h
  | succ n ih =>
    have hk19 : ∀ {s : ev_M} {x1 : Int32} {x2 : Int32} {x3 : Int32} {q : ev_M × Int32}, fM_wrong_h19 n s x1 x2 x3 = some q → RR 452 19 [oR 549 0, oI x1, oI x2, oI x3] [] s (cvI q) := fun h => ih _ _ _ _ _ h
    intro s x1 x2 x3 q h
    refine rg_step 4 (G' := fun f => if x3 < (s.1 549 58) then evT f 452 27 [oR 549 0, oI x1, oI x2, oI x3] [] s else evT f 452 52 [oR 549 0, oI x1, oI x2, oI x3] [] s) (fun _ => rfl) (rg_if h (fun h => ?_) fun h => ?_)
    · refine rg_step 4 (G' := fun f => if inb x3 300 = true then evT f 452 33 [oR 549 0, oI x1, oI x2, oI x3] [vI (s.1 610 (ix x3))] s else none) (fun _ => rfl) (rg_gd h fun h => ?_)
      refine rg_step 1 (G' := fun f => if (s.1 610 (ix x3)) = 0 then evT f 452 46 [oR 549 0, oI x1, oI x2, oI x3] [] s else evT f 452 36 [oR 549 0, oI x1, oI x2, oI x3] [] s) (fun _ => rfl) (rg_if h (fun h => ?_) fun h => ?_)
      · exact (t_fM_wrong_b46 hk19) h
      · refine rg_step 3 (G' := fun f => if x2 = x1 then evT f 452 41 [oR 549 0, oI x1, oI x2, oI x3] [] s else evT f 452 43 [oR 549 0, oI x1, oI x2, oI x3] [] s) (fun _ => rfl) (rg_if h (fun h => ?_) fun h => ?_)
        · exact rg_end 2 (fun _ => rfl) (by cases h; rfl)
        · exact rg_step 1 (G' := fun f => evT f 452 46 [oR 549 0, oI x1, oI (x2 + cI 1), oI x3] [] s) (fun _ => rfl) ((t_fM_wrong_b46 hk19) h)
    · exact rg_end 2 (fun _ => rfl) (by cases h; rfl)
theorem t_fM_wrong_h19 {n : Nat} {s : ev_M} {x1 : Int32} {x2 : Int32} {x3 : Int32} {q : ev_M × Int32} (h : fM_wrong_h19 n s x1 x2 x3 = some q) : RR 452 19 [oR 549 0, oI x1, oI x2, oI x3] [] s (cvI q) := ti_fM_wrong_h19 n s x1 x2 x3 q h
theorem T_fM_wrong {s : ev_M} {a1 : Int32} {q : ev_M × Int32} (h : fM_wrong s a1 = some q) : RR 452 0 [oR 549 0, oI a1, nn, nn] [] s (cvI q) := by
  refine rg_step 3 (G' := fun f => evT f 452 5 [oR 549 0, oI a1, nn, nn] [] (wI s 549 0 (cI 0))) (fun _ => rfl) (rg_ltM h fun s1 h => ?_)
  refine rg_step 3 (G' := fun f => if (s1.1 549 5) = 0 then evT f 452 15 [oR 549 0, oI a1, nn, nn] [] s1 else evT f 452 12 [oR 549 0, oI a1, nn, nn] [] s1) (fun _ => rfl) (rg_if h (fun h => ?_) fun h => ?_)
  · exact rg_step 4 (G' := fun f => evT f 452 19 [oR 549 0, oI a1, oI (cI 0), oI (cI 0)] [] s1) (fun _ => rfl) ((t_fM_wrong_h19) h)
  · exact rg_end 2 (fun _ => rfl) (by cases h; rfl)
theorem T_fRounds_sortedAt {s : ev_M} {a1 : Int32} {a2 : Int32} {q : Int32} (h : fRounds_sortedAt s a1 a2 = some q) : RR 171 0 [oR 138 0, oI a1, oI a2] [] s (cvP s q) := by
  refine rg_step 8 (G' := fun f => if inb a1 12 = true then evT f 171 10 [oR 138 0, oI a1, oI a2] [vI (s.1 (140 + (ix (cI 4))) (ix a1)), vI (cI 0), vI a2] s else none) (fun _ => rfl) (rg_gd h fun h => ?_)
  refine rg_step 3 (G' := fun f => ev_after (evT f 308 0 [oI a2, oI (cI 0), oI ((s.1 (140 + (ix (cI 4))) (ix a1)) - (cI 1))] [] s) (fun q => evT f 171 15 [oR 138 0, oI a1, oI a2] (q.2 ++ []) q.1)) (fun _ => rfl) (rg_bd1 h fun v1 hc h => rg_call (q := cvP s v1) (T_fPH_outside hc) ?_)
  refine rg_step 1 (G' := fun f => if v1 = 0 then evT f 171 22 [oR 138 0, oI a1, oI a2] [] s else evT f 171 18 [oR 138 0, oI a1, oI a2] [] s) (fun _ => rfl) (rg_if h (fun h => ?_) fun h => ?_)
  · refine rg_step 4 (G' := fun f => if inb a1 12 = true then evT f 171 28 [oR 138 0, oI a1, oI a2] [vR 160 (ix a1)] s else none) (fun _ => rfl) (rg_gd h fun h => ?_)
    refine rg_step 2 (G' := fun f => if inb a2 300 = true then evT f 171 30 [oR 138 0, oI a1, oI a2] [vI (s.1 (160 + (ix a1)) (ix a2))] s else none) (fun _ => rfl) (rg_gd h fun h => ?_)
    exact rg_end 1 (fun _ => rfl) (by cases h; rfl)
  · exact rg_end 3 (fun _ => rfl) (by cases h; rfl)
theorem T_fPH_row {s : ev_M} {a1 : Int32} {a2 : Int32} {q : Int32} (h : fPH_row s a1 a2 = some q) : RR 264 0 [oR 0 0, oI a1, oI a2] [] s (cvP s q) := by
  refine rg_step 4 (G' := fun f => if (s.1 9 9) = 0 then evT f 264 13 [oR 0 0, oI a1, oI a2] [] s else evT f 264 10 [oR 0 0, oI a1, oI a2] [] s) (fun _ => rfl) (rg_if h (fun h => ?_) fun h => ?_)
  · refine rg_step 4 (G' := fun f => ev_after (evT f 168 0 [oR 138 0, oI a1] [] s) (fun q => evT f 264 21 [oR 0 0, oI a1, oI a2] (q.2 ++ []) q.1)) (fun _ => rfl) (rg_bd1 h fun v1 hc h => rg_call (q := cvP s v1) (T_fRounds_has hc) ?_)
    refine rg_step 1 (G' := fun f => if v1 = 0 then evT f 264 36 [oR 0 0, oI a1, oI a2] [] s else evT f 264 24 [oR 0 0, oI a1, oI a2] [] s) (fun _ => rfl) (rg_if h (fun h => ?_) fun h => ?_)
    · exact rg_end 2 (fun _ => rfl) (by cases h; rfl)
    · refine rg_step 5 (G' := fun f => ev_after (evT f 171 0 [oR 138 0, oI a1, oI a2] [] s) (fun q => evT f 264 33 [oR 0 0, oI a1, oI a2] (q.2 ++ []) q.1)) (fun _ => rfl) (rg_bd1 h fun v2 hc h => rg_call (q := cvP s v2) (T_fRounds_sortedAt hc) ?_)
      exact rg_end 2 (fun _ => rfl) (by cases h; rfl)
  · exact rg_end 2 (fun _ => rfl) (by cases h; rfl)
theorem T_fM_row {s : ev_M} {a1 : Int32} {a2 : Int32} {q : ev_M × Int32} (h : fM_row s a1 a2 = some q) : RR 454 0 [oR 549 0, oI a1, oI a2] [] s (cvI q) := by
  refine rg_step 3 (G' := fun f => evT f 454 5 [oR 549 0, oI a1, oI a2] [] (wI s 549 0 (cI 0))) (fun _ => rfl) (rg_ltM h fun s1 h => ?_)
  refine rg_step 3 (G' := fun f => if (s1.1 549 5) = 0 then evT f 454 17 [oR 549 0, oI a1, oI a2] [] s1 else evT f 454 12 [oR 549 0, oI a1, oI a2] [] s1) (fun _ => rfl) (rg_if h (fun h => ?_) fun h => ?_)
  · refine rg_step 3 (G' := fun f => ev_after (evT f 344 0 [oR 549 0, oI a1] [] s1) (fun q => evT f 454 22 [oR 549 0, oI a1, oI a2] (q.2 ++ []) q.1)) (fun _ => rfl) (rg_bd1 h fun v2 hc h => rg_call (q := cvP s1 v2) (T_fM_isRound hc) ?_)
    refine rg_step 1 (G' := fun f => if v2 = 0 then evT f 454 25 [oR 549 0, oI a1, oI a2] [] s1 else evT f 454 30 [oR 549 0, oI a1, oI a2] [] s1) (fun _ => rfl) (rg_if h (fun h => ?_) fun h => ?_)
    · exact rg_end 3 (fun _ => rfl) (by cases h; rfl)
    · refine rg_step 4 (G' := fun f => ev_after (evT f 453 0 [oR 549 0, oI a1, oI a2, nn, nn, nn] [] s1) (fun q => evT f 454 36 [oR 549 0, oI a1, oI a2] (q.2 ++ []) q.1)) (fun _ => rfl) (rg_bd1 h fun v3 hc h => rg_call (q := cvP s1 v3) (T_fM_rowAt hc) ?_)
      exact rg_end 1 (fun _ => rfl) (by cases h; rfl)
  · exact rg_end 3 (fun _ => rfl) (by cases h; rfl)
theorem T_fPH_out {s : ev_M} {a1 : Int32} {q : ev_M × Int32} (h : fPH_out s a1 = some q) : RR 265 0 [oR 0 0, oI a1] [] s (cvI q) := by
  refine rg_step 10 (G' := fun f => ev_after (evT f 122 0 [oR 9 0, oI (cI 15), oI a1, oI (cI 0), oI (cI 0), oI (cI 0), oI (cI 0), oI (cI 0)] [] s) (fun q => evT f 265 15 [oR 0 0, oI a1] (q.2 ++ []) q.1)) (fun _ => rfl) (rg_bd2 h fun s1 v2 hc h => rg_call (q := cvI (s1, v2)) (T_fLog_stages hc) ?_)
  refine rg_step 1 (G' := fun f => if v2 = 0 then evT f 265 29 [oR 0 0, oI a1] [] s1 else evT f 265 18 [oR 0 0, oI a1] [] s1) (fun _ => rfl) (rg_if h (fun h => ?_) fun h => ?_)
  · exact rg_end 2 (fun _ => rfl) (by cases h; rfl)
  · refine rg_step 4 (G' := fun f => ev_after (evT f 302 0 [oR 0 0, oR 1 0, nn, nn, nn, nn, nn, nn] [] s1) (fun q => evT f 265 26 [oR 0 0, oI a1] (q.2 ++ []) q.1)) (fun _ => rfl) (rg_bd2 h fun s3 v4 hc h => rg_call (q := cvI (s3, v4)) (T_fPH_act_1 hc) ?_)
    exact rg_end 2 (fun _ => rfl) (by cases h; rfl)
theorem T_fM_out {s : ev_M} {a1 : Int32} {q : ev_M × Int32} (h : fM_out s a1 = some q) : RR 456 0 [oR 549 0, oI a1] [] s (cvI q) := by
  refine rg_step 4 (G' := fun f => ev_after (evT f 319 0 [oR 549 0, oI (cI 15), oI a1] [] s) (fun q => evT f 456 7 [oR 549 0, oI a1] (q.2 ++ []) q.1)) (fun _ => rfl) (rg_bd2 h fun s1 v2 hc h => rg_call (q := cvI (s1, v2)) (T_fM_call1 hc) ?_)
  exact rg_end 1 (fun _ => rfl) (by cases h; rfl)
theorem T_fPH_leg {s : ev_M} {a1 : Int32} {a2 : Int32} {a3 : Int32} {a4 : Int32} {a5 : Int32} {q : ev_M × Int32} (h : fPH_leg s a1 a2 a3 a4 a5 = some q) : RR 266 0 [oR 0 0, oI a1, oI a2, oI a3, oI a4, oI a5] [] s (cvI q) := by
  refine rg_step 10 (G' := fun f => ev_after (evT f 122 0 [oR 9 0, oI (cI 16), oI a1, oI a2, oI a3, oI a4, oI a5, oI (cI 0)] [] s) (fun q => evT f 266 17 [oR 0 0, oI a1, oI a2, oI a3, oI a4, oI a5] (q.2 ++ []) q.1)) (fun _ => rfl) (rg_bd2 h fun s1 v2 hc h => rg_call (q := cvI (s1, v2)) (T_fLog_stages hc) ?_)
  refine rg_step 1 (G' := fun f => if v2 = 0 then evT f 266 31 [oR 0 0, oI a1, oI a2, oI a3, oI a4, oI a5] [] s1 else evT f 266 20 [oR 0 0, oI a1, oI a2, oI a3, oI a4, oI a5] [] s1) (fun _ => rfl) (rg_if h (fun h => ?_) fun h => ?_)
  · exact rg_end 2 (fun _ => rfl) (by cases h; rfl)
  · refine rg_step 4 (G' := fun f => ev_after (evT f 302 0 [oR 0 0, oR 1 0, nn, nn, nn, nn, nn, nn] [] s1) (fun q => evT f 266 28 [oR 0 0, oI a1, oI a2, oI a3, oI a4, oI a5] (q.2 ++ []) q.1)) (fun _ => rfl) (rg_bd2 h fun s3 v4 hc h => rg_call (q := cvI (s3, v4)) (T_fPH_act_1 hc) ?_)
    exact rg_end 2 (fun _ => rfl) (by cases h; rfl)
theorem T_fM_leg {s : ev_M} {a1 : Int32} {a2 : Int32} {a3 : Int32} {a4 : Int32} {a5 : Int32} {q : ev_M × Int32} (h : fM_leg s a1 a2 a3 a4 a5 = some q) : RR 459 0 [oR 549 0, oI a1, oI a2, oI a3, oI a4, oI a5] [] s (cvI q) := by
  refine rg_step 5 (G' := fun f => evT f 459 8 [oR 549 0, oI a1, oI a2, oI a3, oI a4, oI a5] [] (wI s 553 (ix (cI 4)) a5)) (fun _ => rfl) (rg_ltM h fun s1 h => ?_)
  refine rg_step 7 (G' := fun f => ev_after (evT f 322 0 [oR 549 0, oI (cI 16), oI a1, oI a2, oI a3, oI a4] [] s1) (fun q => evT f 459 19 [oR 549 0, oI a1, oI a2, oI a3, oI a4, oI a5] (q.2 ++ []) q.1)) (fun _ => rfl) (rg_bd2 h fun s2 v3 hc h => rg_call (q := cvI (s2, v3)) (T_fM_call4 hc) ?_)
  exact rg_end 1 (fun _ => rfl) (by cases h; rfl)
theorem T_fPH_late {s : ev_M} {a1 : Int32} {a2 : Int32} {q : ev_M × Int32} (h : fPH_late s a1 a2 = some q) : RR 267 0 [oR 0 0, oI a1, oI a2] [] s (cvI q) := by
  refine rg_step 10 (G' := fun f => ev_after (evT f 122 0 [oR 9 0, oI (cI 17), oI a1, oI a2, oI (cI 0), oI (cI 0), oI (cI 0), oI (cI 0)] [] s) (fun q => evT f 267 15 [oR 0 0, oI a1, oI a2] (q.2 ++ []) q.1)) (fun _ => rfl) (rg_bd2 h fun s1 v2 hc h => rg_call (q := cvI (s1, v2)) (T_fLog_stages hc) ?_)
  refine rg_step 1 (G' := fun f => if v2 = 0 then evT f 267 29 [oR 0 0, oI a1, oI a2] [] s1 else evT f 267 18 [oR 0 0, oI a1, oI a2] [] s1) (fun _ => rfl) (rg_if h (fun h => ?_) fun h => ?_)
  · exact rg_end 2 (fun _ => rfl) (by cases h; rfl)
  · refine rg_step 4 (G' := fun f => ev_after (evT f 302 0 [oR 0 0, oR 1 0, nn, nn, nn, nn, nn, nn] [] s1) (fun q => evT f 267 26 [oR 0 0, oI a1, oI a2] (q.2 ++ []) q.1)) (fun _ => rfl) (rg_bd2 h fun s3 v4 hc h => rg_call (q := cvI (s3, v4)) (T_fPH_act_1 hc) ?_)
    exact rg_end 2 (fun _ => rfl) (by cases h; rfl)
theorem T_fM_late {s : ev_M} {a1 : Int32} {a2 : Int32} {q : ev_M × Int32} (h : fM_late s a1 a2 = some q) : RR 461 0 [oR 549 0, oI a1, oI a2] [] s (cvI q) := by
  refine rg_step 5 (G' := fun f => ev_after (evT f 320 0 [oR 549 0, oI (cI 17), oI a1, oI a2] [] s) (fun q => evT f 461 8 [oR 549 0, oI a1, oI a2] (q.2 ++ []) q.1)) (fun _ => rfl) (rg_bd2 h fun s1 v2 hc h => rg_call (q := cvI (s1, v2)) (T_fM_call2 hc) ?_)
  exact rg_end 1 (fun _ => rfl) (by cases h; rfl)
theorem T_fPH_bag {s : ev_M} {a1 : Int32} {a2 : Int32} {q : ev_M × Int32} (h : fPH_bag s a1 a2 = some q) : RR 268 0 [oR 0 0, oI a1, oI a2] [] s (cvI q) := by
  refine rg_step 10 (G' := fun f => ev_after (evT f 122 0 [oR 9 0, oI (cI 18), oI a1, oI a2, oI (cI 0), oI (cI 0), oI (cI 0), oI (cI 0)] [] s) (fun q => evT f 268 15 [oR 0 0, oI a1, oI a2] (q.2 ++ []) q.1)) (fun _ => rfl) (rg_bd2 h fun s1 v2 hc h => rg_call (q := cvI (s1, v2)) (T_fLog_stages hc) ?_)
  refine rg_step 1 (G' := fun f => if v2 = 0 then evT f 268 29 [oR 0 0, oI a1, oI a2] [] s1 else evT f 268 18 [oR 0 0, oI a1, oI a2] [] s1) (fun _ => rfl) (rg_if h (fun h => ?_) fun h => ?_)
  · exact rg_end 2 (fun _ => rfl) (by cases h; rfl)
  · refine rg_step 4 (G' := fun f => ev_after (evT f 302 0 [oR 0 0, oR 1 0, nn, nn, nn, nn, nn, nn] [] s1) (fun q => evT f 268 26 [oR 0 0, oI a1, oI a2] (q.2 ++ []) q.1)) (fun _ => rfl) (rg_bd2 h fun s3 v4 hc h => rg_call (q := cvI (s3, v4)) (T_fPH_act_1 hc) ?_)
    exact rg_end 2 (fun _ => rfl) (by cases h; rfl)
theorem T_fM_bag {s : ev_M} {a1 : Int32} {a2 : Int32} {q : ev_M × Int32} (h : fM_bag s a1 a2 = some q) : RR 463 0 [oR 549 0, oI a1, oI a2] [] s (cvI q) := by
  refine rg_step 5 (G' := fun f => ev_after (evT f 320 0 [oR 549 0, oI (cI 18), oI a1, oI a2] [] s) (fun q => evT f 463 8 [oR 549 0, oI a1, oI a2] (q.2 ++ []) q.1)) (fun _ => rfl) (rg_bd2 h fun s1 v2 hc h => rg_call (q := cvI (s1, v2)) (T_fM_call2 hc) ?_)
  exact rg_end 1 (fun _ => rfl) (by cases h; rfl)
theorem T_fPH_into {s : ev_M} {a1 : Int32} {a2 : Int32} {q : ev_M × Int32} (h : fPH_into s a1 a2 = some q) : RR 269 0 [oR 0 0, oI a1, oI a2] [] s (cvI q) := by
  refine rg_step 10 (G' := fun f => ev_after (evT f 122 0 [oR 9 0, oI (cI 19), oI a1, oI a2, oI (cI 0), oI (cI 0), oI (cI 0), oI (cI 0)] [] s) (fun q => evT f 269 15 [oR 0 0, oI a1, oI a2] (q.2 ++ []) q.1)) (fun _ => rfl) (rg_bd2 h fun s1 v2 hc h => rg_call (q := cvI (s1, v2)) (T_fLog_stages hc) ?_)
  refine rg_step 1 (G' := fun f => if v2 = 0 then evT f 269 29 [oR 0 0, oI a1, oI a2] [] s1 else evT f 269 18 [oR 0 0, oI a1, oI a2] [] s1) (fun _ => rfl) (rg_if h (fun h => ?_) fun h => ?_)
  · exact rg_end 2 (fun _ => rfl) (by cases h; rfl)
  · refine rg_step 4 (G' := fun f => ev_after (evT f 302 0 [oR 0 0, oR 1 0, nn, nn, nn, nn, nn, nn] [] s1) (fun q => evT f 269 26 [oR 0 0, oI a1, oI a2] (q.2 ++ []) q.1)) (fun _ => rfl) (rg_bd2 h fun s3 v4 hc h => rg_call (q := cvI (s3, v4)) (T_fPH_act_1 hc) ?_)
    exact rg_end 2 (fun _ => rfl) (by cases h; rfl)
theorem T_fM_into {s : ev_M} {a1 : Int32} {a2 : Int32} {q : ev_M × Int32} (h : fM_into s a1 a2 = some q) : RR 466 0 [oR 549 0, oI a1, oI a2] [] s (cvI q) := by
  refine rg_step 5 (G' := fun f => ev_after (evT f 320 0 [oR 549 0, oI (cI 19), oI a1, oI a2] [] s) (fun q => evT f 466 8 [oR 549 0, oI a1, oI a2] (q.2 ++ []) q.1)) (fun _ => rfl) (rg_bd2 h fun s1 v2 hc h => rg_call (q := cvI (s1, v2)) (T_fM_call2 hc) ?_)
  exact rg_end 1 (fun _ => rfl) (by cases h; rfl)
theorem T_fPH_closeBag {s : ev_M} {a1 : Int32} {q : ev_M × Int32} (h : fPH_closeBag s a1 = some q) : RR 270 0 [oR 0 0, oI a1] [] s (cvI q) := by
  refine rg_step 10 (G' := fun f => ev_after (evT f 122 0 [oR 9 0, oI (cI 20), oI a1, oI (cI 0), oI (cI 0), oI (cI 0), oI (cI 0), oI (cI 0)] [] s) (fun q => evT f 270 15 [oR 0 0, oI a1] (q.2 ++ []) q.1)) (fun _ => rfl) (rg_bd2 h fun s1 v2 hc h => rg_call (q := cvI (s1, v2)) (T_fLog_stages hc) ?_)
  refine rg_step 1 (G' := fun f => if v2 = 0 then evT f 270 29 [oR 0 0, oI a1] [] s1 else evT f 270 18 [oR 0 0, oI a1] [] s1) (fun _ => rfl) (rg_if h (fun h => ?_) fun h => ?_)
  · exact rg_end 2 (fun _ => rfl) (by cases h; rfl)
  · refine rg_step 4 (G' := fun f => ev_after (evT f 302 0 [oR 0 0, oR 1 0, nn, nn, nn, nn, nn, nn] [] s1) (fun q => evT f 270 26 [oR 0 0, oI a1] (q.2 ++ []) q.1)) (fun _ => rfl) (rg_bd2 h fun s3 v4 hc h => rg_call (q := cvI (s3, v4)) (T_fPH_act_1 hc) ?_)
    exact rg_end 2 (fun _ => rfl) (by cases h; rfl)
theorem T_fM_closeBag {s : ev_M} {a1 : Int32} {q : ev_M × Int32} (h : fM_closeBag s a1 = some q) : RR 468 0 [oR 549 0, oI a1] [] s (cvI q) := by
  refine rg_step 4 (G' := fun f => ev_after (evT f 319 0 [oR 549 0, oI (cI 20), oI a1] [] s) (fun q => evT f 468 7 [oR 549 0, oI a1] (q.2 ++ []) q.1)) (fun _ => rfl) (rg_bd2 h fun s1 v2 hc h => rg_call (q := cvI (s1, v2)) (T_fM_call1 hc) ?_)
  exact rg_end 1 (fun _ => rfl) (by cases h; rfl)
theorem T_fPH_openBag {s : ev_M} {a1 : Int32} {q : ev_M × Int32} (h : fPH_openBag s a1 = some q) : RR 271 0 [oR 0 0, oI a1] [] s (cvI q) := by
  refine rg_step 10 (G' := fun f => ev_after (evT f 122 0 [oR 9 0, oI (cI 21), oI a1, oI (cI 0), oI (cI 0), oI (cI 0), oI (cI 0), oI (cI 0)] [] s) (fun q => evT f 271 15 [oR 0 0, oI a1] (q.2 ++ []) q.1)) (fun _ => rfl) (rg_bd2 h fun s1 v2 hc h => rg_call (q := cvI (s1, v2)) (T_fLog_stages hc) ?_)
  refine rg_step 1 (G' := fun f => if v2 = 0 then evT f 271 29 [oR 0 0, oI a1] [] s1 else evT f 271 18 [oR 0 0, oI a1] [] s1) (fun _ => rfl) (rg_if h (fun h => ?_) fun h => ?_)
  · exact rg_end 2 (fun _ => rfl) (by cases h; rfl)
  · refine rg_step 4 (G' := fun f => ev_after (evT f 302 0 [oR 0 0, oR 1 0, nn, nn, nn, nn, nn, nn] [] s1) (fun q => evT f 271 26 [oR 0 0, oI a1] (q.2 ++ []) q.1)) (fun _ => rfl) (rg_bd2 h fun s3 v4 hc h => rg_call (q := cvI (s3, v4)) (T_fPH_act_1 hc) ?_)
    exact rg_end 2 (fun _ => rfl) (by cases h; rfl)
theorem T_fM_openBag {s : ev_M} {a1 : Int32} {q : ev_M × Int32} (h : fM_openBag s a1 = some q) : RR 470 0 [oR 549 0, oI a1] [] s (cvI q) := by
  refine rg_step 4 (G' := fun f => ev_after (evT f 319 0 [oR 549 0, oI (cI 21), oI a1] [] s) (fun q => evT f 470 7 [oR 549 0, oI a1] (q.2 ++ []) q.1)) (fun _ => rfl) (rg_bd2 h fun s1 v2 hc h => rg_call (q := cvI (s1, v2)) (T_fM_call1 hc) ?_)
  exact rg_end 1 (fun _ => rfl) (by cases h; rfl)
theorem T_fPH_bagAt {s : ev_M} {a1 : Int32} {a2 : Int32} {q : Int32} (h : fPH_bagAt s a1 a2 = some q) : RR 272 0 [oR 0 0, oI a1, oI a2] [] s (cvP s q) := by
  refine rg_step 4 (G' := fun f => if (s.1 9 9) = 0 then evT f 272 13 [oR 0 0, oI a1, oI a2] [] s else evT f 272 10 [oR 0 0, oI a1, oI a2] [] s) (fun _ => rfl) (rg_if h (fun h => ?_) fun h => ?_)
  · refine rg_step 4 (G' := fun f => ev_after (evT f 87 0 [oR 449 0, oI a1] [] s) (fun q => evT f 272 21 [oR 0 0, oI a1, oI a2] (q.2 ++ []) q.1)) (fun _ => rfl) (rg_bd1 h fun v1 hc h => rg_call (q := cvP s v1) (T_fLines_hasBag hc) ?_)
    refine rg_step 1 (G' := fun f => if v1 = 0 then evT f 272 24 [oR 0 0, oI a1, oI a2] [] s else evT f 272 27 [oR 0 0, oI a1, oI a2] [] s) (fun _ => rfl) (rg_if h (fun h => ?_) fun h => ?_)
    · exact rg_end 2 (fun _ => rfl) (by cases h; rfl)
    · refine rg_step 4 (G' := fun f => ev_after (evT f 308 0 [oI a2, oI (cI 0), oI (cI 5)] [] s) (fun q => evT f 272 33 [oR 0 0, oI a1, oI a2] (q.2 ++ []) q.1)) (fun _ => rfl) (rg_bd1 h fun v2 hc h => rg_call (q := cvP s v2) (T_fPH_outside hc) ?_)
      refine rg_step 1 (G' := fun f => if v2 = 0 then evT f 272 41 [oR 0 0, oI a1, oI a2] [] s else evT f 272 36 [oR 0 0, oI a1, oI a2] [] s) (fun _ => rfl) (rg_if h (fun h => ?_) fun h => ?_)
      · refine rg_step 5 (G' := fun f => if inb a2 6 = true then evT f 272 50 [oR 0 0, oI a1, oI a2] [vR 459 (ix a2)] s else none) (fun _ => rfl) (rg_gd h fun h => ?_)
        refine rg_step 2 (G' := fun f => if inb a1 80 = true then evT f 272 52 [oR 0 0, oI a1, oI a2] [vI (s.1 (459 + (ix a2)) (ix a1))] s else none) (fun _ => rfl) (rg_gd h fun h => ?_)
        exact rg_end 1 (fun _ => rfl) (by cases h; rfl)
      · exact rg_end 3 (fun _ => rfl) (by cases h; rfl)
  · exact rg_end 2 (fun _ => rfl) (by cases h; rfl)
theorem T_fM_bagAt {s : ev_M} {a1 : Int32} {a2 : Int32} {q : ev_M × Int32} (h : fM_bagAt s a1 a2 = some q) : RR 471 0 [oR 549 0, oI a1, oI a2] [] s (cvI q) := by
  refine rg_step 3 (G' := fun f => evT f 471 5 [oR 549 0, oI a1, oI a2] [] (wI s 549 0 (cI 0))) (fun _ => rfl) (rg_ltM h fun s1 h => ?_)
  refine rg_step 3 (G' := fun f => if (s1.1 549 5) = 0 then evT f 471 15 [oR 549 0, oI a1, oI a2] [] s1 else evT f 471 12 [oR 549 0, oI a1, oI a2] [] s1) (fun _ => rfl) (rg_if h (fun h => ?_) fun h => ?_)
  · refine rg_step 3 (G' := fun f => ev_after (evT f 345 0 [oR 549 0, oI a1] [] s1) (fun q => evT f 471 20 [oR 549 0, oI a1, oI a2] (q.2 ++ []) q.1)) (fun _ => rfl) (rg_bd1 h fun v2 hc h => rg_call (q := cvP s1 v2) (T_fM_isBag hc) ?_)
    refine rg_step 1 (G' := fun f => if v2 = 0 then evT f 471 23 [oR 549 0, oI a1, oI a2] [] s1 else evT f 471 26 [oR 549 0, oI a1, oI a2] [] s1) (fun _ => rfl) (rg_if h (fun h => ?_) fun h => ?_)
    · exact rg_end 2 (fun _ => rfl) (by cases h; rfl)
    · refine rg_step 2 (G' := fun f => if a2 = cI 0 then evT f 471 64 [oR 549 0, oI a1, oI a2] [] s1 else if a2 = cI 1 then evT f 471 71 [oR 549 0, oI a1, oI a2] [] s1 else if a2 = cI 2 then evT f 471 92 [oR 549 0, oI a1, oI a2] [] s1 else if a2 = cI 3 then evT f 471 99 [oR 549 0, oI a1, oI a2] [] s1 else if a2 = cI 4 then evT f 471 105 [oR 549 0, oI a1, oI a2] [] s1 else if a2 = cI 5 then evT f 471 112 [oR 549 0, oI a1, oI a2] [] s1 else evT f 471 119 [oR 549 0, oI a1, oI a2] [] s1) (fun _ => rfl) ?_
      refine rg_if h (fun h => ?_) fun h => ?_
      · refine rg_step 4 (G' := fun f => if inb a1 80 = true then evT f 471 70 [oR 549 0, oI a1, oI a2] [vI (s1.1 618 (ix a1))] s1 else none) (fun _ => rfl) (rg_gd h fun h => ?_)
        exact rg_end 1 (fun _ => rfl) (by cases h; rfl)
      refine rg_if h (fun h => ?_) fun h => ?_
      · refine rg_step 4 (G' := fun f => if inb a1 80 = true then evT f 471 77 [oR 549 0, oI a1, oI a2] [vI (s1.1 618 (ix a1))] s1 else none) (fun _ => rfl) (rg_gd h fun h => ?_)
        refine rg_step 2 (G' := fun f => if (s1.1 618 (ix a1)) = (cI 2) then evT f 471 81 [oR 549 0, oI a1, oI a2] [] s1 else evT f 471 85 [oR 549 0, oI a1, oI a2] [] s1) (fun _ => rfl) (rg_if h (fun h => ?_) fun h => ?_)
        · exact rg_end 3 (fun _ => rfl) (by cases h; rfl)
        · refine rg_step 4 (G' := fun f => if inb a1 80 = true then evT f 471 91 [oR 549 0, oI a1, oI a2] [vI (s1.1 619 (ix a1))] s1 else none) (fun _ => rfl) (rg_gd h fun h => ?_)
          exact rg_end 1 (fun _ => rfl) (by cases h; rfl)
      refine rg_if h (fun h => ?_) fun h => ?_
      · refine rg_step 4 (G' := fun f => if inb a1 80 = true then evT f 471 98 [oR 549 0, oI a1, oI a2] [vI (s1.1 620 (ix a1))] s1 else none) (fun _ => rfl) (rg_gd h fun h => ?_)
        exact rg_end 1 (fun _ => rfl) (by cases h; rfl)
      refine rg_if h (fun h => ?_) fun h => ?_
      · refine rg_step 3 (G' := fun f => ev_after (evT f 464 0 [oR 549 0, oI a1, nn, nn] [] s1) (fun q => evT f 471 104 [oR 549 0, oI a1, oI a2] (q.2 ++ []) q.1)) (fun _ => rfl) (rg_bd1 h fun v3 hc h => rg_call (q := cvP s1 v3) (T_fM_inBag hc) ?_)
        exact rg_end 1 (fun _ => rfl) (by cases h; rfl)
      refine rg_if h (fun h => ?_) fun h => ?_
      · refine rg_step 4 (G' := fun f => if inb a1 80 = true then evT f 471 111 [oR 549 0, oI a1, oI a2] [vI (s1.1 621 (ix a1))] s1 else none) (fun _ => rfl) (rg_gd h fun h => ?_)
        exact rg_end 1 (fun _ => rfl) (by cases h; rfl)
      refine rg_if h (fun h => ?_) fun h => ?_
      · refine rg_step 4 (G' := fun f => if inb a1 80 = true then evT f 471 118 [oR 549 0, oI a1, oI a2] [vI (s1.1 622 (ix a1))] s1 else none) (fun _ => rfl) (rg_gd h fun h => ?_)
        exact rg_end 1 (fun _ => rfl) (by cases h; rfl)
      exact rg_end 2 (fun _ => rfl) (by cases h; rfl)
  · exact rg_end 2 (fun _ => rfl) (by cases h; rfl)
theorem T_fLines_tellWay {s : ev_M} {a1 : Int32} {a2 : Int32} {a3 : Int32} {q : ev_M × Int32} (h : fLines_tellWay s a1 a2 a3 = some q) : RR 97 0 [oR 449 0, oI a1, oI a2, oI a3] [] s (cvI q) := by
  refine rg_step 4 (G' := fun f => ev_after (evT f 27 0 [oR 30 0, oI a1] [] s) (fun q => evT f 97 8 [oR 449 0, oI a1, oI a2, oI a3] (q.2 ++ []) q.1)) (fun _ => rfl) (rg_bd1 h fun v1 hc h => rg_call (q := cvP s v1) (T_fBook_hasPlace hc) ?_)
  refine rg_step 1 (G' := fun f => if v1 = 0 then evT f 97 22 [oR 449 0, oI a1, oI a2, oI a3] [] s else evT f 97 11 [oR 449 0, oI a1, oI a2, oI a3] [] s) (fun _ => rfl) (rg_if h (fun h => ?_) fun h => ?_)
  · exact rg_end 2 (fun _ => rfl) (by cases h; rfl)
  · refine rg_step 4 (G' := fun f => ev_after (evT f 27 0 [oR 30 0, oI a2] [] s) (fun q => evT f 97 19 [oR 449 0, oI a1, oI a2, oI a3] (q.2 ++ []) q.1)) (fun _ => rfl) (rg_bd1 h fun v2 hc h => rg_call (q := cvP s v2) (T_fBook_hasPlace hc) ?_)
    refine rg_step 1 (G' := fun f => if v2 = 0 then evT f 97 22 [oR 449 0, oI a1, oI a2, oI a3] [] s else evT f 97 25 [oR 449 0, oI a1, oI a2, oI a3] [] s) (fun _ => rfl) (rg_if h (fun h => ?_) fun h => ?_)
    · exact rg_end 2 (fun _ => rfl) (by cases h; rfl)
    · refine rg_step 4 (G' := fun f => ev_after (evT f 308 0 [oI a3, oI (cI 0), oI (cI 1)] [] s) (fun q => evT f 97 31 [oR 449 0, oI a1, oI a2, oI a3] (q.2 ++ []) q.1)) (fun _ => rfl) (rg_bd1 h fun v3 hc h => rg_call (q := cvP s v3) (T_fPH_outside hc) ?_)
      refine rg_step 1 (G' := fun f => if v3 = 0 then evT f 97 37 [oR 449 0, oI a1, oI a2, oI a3] [] s else evT f 97 34 [oR 449 0, oI a1, oI a2, oI a3] [] s) (fun _ => rfl) (rg_if h (fun h => ?_) fun h => ?_)
      · refine rg_step 3 (G' := fun f => ev_after (evT f 98 0 [oR 449 0, oI a1, nn, nn, nn] [] s) (fun q => evT f 97 42 [oR 449 0, oI a1, oI a2, oI a3] (q.2 ++ []) q.1)) (fun _ => rfl) (rg_bd1 h fun s4 hc h => rg_call (q := cvV s4) (T_fLines_search hc) ?_)
        refine rg_step 2 (G' := fun f => if a3 = 0 then evT f 97 46 [oR 449 0, oI a1, oI a2, oI a3] [] s4 else evT f 97 55 [oR 449 0, oI a1, oI a2, oI a3] [] s4) (fun _ => rfl) (rg_if h (fun h => ?_) fun h => ?_)
        · refine rg_step 4 (G' := fun f => if inb a2 12 = true then evT f 97 52 [oR 449 0, oI a1, oI a2, oI a3] [vI (s4.1 546 (ix a2))] s4 else none) (fun _ => rfl) (rg_gd h fun h => ?_)
          exact rg_end 2 (fun _ => rfl) (by cases h; rfl)
        · refine rg_step 4 (G' := fun f => if inb a2 12 = true then evT f 97 61 [oR 449 0, oI a1, oI a2, oI a3] [vI (s4.1 547 (ix a2))] s4 else none) (fun _ => rfl) (rg_gd h fun h => ?_)
          exact rg_end 1 (fun _ => rfl) (by cases h; rfl)
      · exact rg_end 2 (fun _ => rfl) (by cases h; rfl)
theorem T_fPH_way {s : ev_M} {a1 : Int32} {a2 : Int32} {a3 : Int32} {q : ev_M × Int32} (h : fPH_way s a1 a2 a3 = some q) : RR 273 0 [oR 0 0, oI a1, oI a2, oI a3] [] s (cvI q) := by
  refine rg_step 4 (G' := fun f => if (s.1 9 9) = 0 then evT f 273 15 [oR 0 0, oI a1, oI a2, oI a3] [] s else evT f 273 10 [oR 0 0, oI a1, oI a2, oI a3] [] s) (fun _ => rfl) (rg_if h (fun h => ?_) fun h => ?_)
  · refine rg_step 6 (G' := fun f => ev_after (evT f 97 0 [oR 449 0, oI a1, oI a2, oI a3] [] s) (fun q => evT f 273 25 [oR 0 0, oI a1, oI a2, oI a3] (q.2 ++ []) q.1)) (fun _ => rfl) (rg_bd2 h fun s1 v2 hc h => rg_call (q := cvI (s1, v2)) (T_fLines_tellWay hc) ?_)
    exact rg_end 1 (fun _ => rfl) (by cases h; rfl)
  · exact rg_end 3 (fun _ => rfl) (by cases h; rfl)
theorem T_fM_way {s : ev_M} {a1 : Int32} {a2 : Int32} {a3 : Int32} {q : ev_M × Int32} (h : fM_way s a1 a2 a3 = some q) : RR 473 0 [oR 549 0, oI a1, oI a2, oI a3] [] s (cvI q) := by
  refine rg_step 3 (G' := fun f => evT f 473 5 [oR 549 0, oI a1, oI a2, oI a3] [] (wI s 549 0 (cI 0))) (fun _ => rfl) (rg_ltM h fun s1 h => ?_)
  refine rg_step 3 (G' := fun f => if (s1.1 549 5) = 0 then evT f 473 15 [oR 549 0, oI a1, oI a2, oI a3] [] s1 else evT f 473 12 [oR 549 0, oI a1, oI a2, oI a3] [] s1) (fun _ => rfl) (rg_if h (fun h => ?_) fun h => ?_)
  · refine rg_step 3 (G' := fun f => ev_after (evT f 343 0 [oR 549 0, oI a1] [] s1) (fun q => evT f 473 20 [oR 549 0, oI a1, oI a2, oI a3] (q.2 ++ []) q.1)) (fun _ => rfl) (rg_bd1 h fun v2 hc h => rg_call (q := cvP s1 v2) (T_fM_isPlace hc) ?_)
    refine rg_step 1 (G' := fun f => if v2 = 0 then evT f 473 31 [oR 549 0, oI a1, oI a2, oI a3] [] s1 else evT f 473 23 [oR 549 0, oI a1, oI a2, oI a3] [] s1) (fun _ => rfl) (rg_if h (fun h => ?_) fun h => ?_)
    · exact rg_end 2 (fun _ => rfl) (by cases h; rfl)
    · refine rg_step 3 (G' := fun f => ev_after (evT f 343 0 [oR 549 0, oI a2] [] s1) (fun q => evT f 473 28 [oR 549 0, oI a1, oI a2, oI a3] (q.2 ++ []) q.1)) (fun _ => rfl) (rg_bd1 h fun v3 hc h => rg_call (q := cvP s1 v3) (T_fM_isPlace hc) ?_)
      refine rg_step 1 (G' := fun f => if v3 = 0 then evT f 473 31 [oR 549 0, oI a1, oI a2, oI a3] [] s1 else evT f 473 34 [oR 549 0, oI a1, oI a2, oI a3] [] s1) (fun _ => rfl) (rg_if h (fun h => ?_) fun h => ?_)
      · exact rg_end 2 (fun _ => rfl) (by cases h; rfl)
      · refine rg_step 4 (G' := fun f => ev_after (evT f 311 0 [oI a3, oI (cI 0), oI (cI 1)] [] s1) (fun q => evT f 473 40 [oR 549 0, oI a1, oI a2, oI a3] (q.2 ++ []) q.1)) (fun _ => rfl) (rg_bd1 h fun v4 hc h => rg_call (q := cvP s1 v4) (T_fM_in hc) ?_)
        refine rg_step 1 (G' := fun f => if v4 = 0 then evT f 473 43 [oR 549 0, oI a1, oI a2, oI a3] [] s1 else evT f 473 46 [oR 549 0, oI a1, oI a2, oI a3] [] s1) (fun _ => rfl) (rg_if h (fun h => ?_) fun h => ?_)
        · exact rg_end 2 (fun _ => rfl) (by cases h; rfl)
        · refine rg_step 3 (G' := fun f => ev_after (evT f 472 0 [oR 549 0, oI a1, nn, nn, nn, nn] [] s1) (fun q => evT f 473 51 [oR 549 0, oI a1, oI a2, oI a3] (q.2 ++ []) q.1)) (fun _ => rfl) (rg_bd1 h fun s5 hc h => rg_call (q := cvV s5) (T_fM_findWays hc) ?_)
          refine rg_step 2 (G' := fun f => if a3 = 0 then evT f 473 55 [oR 549 0, oI a1, oI a2, oI a3] [] s5 else evT f 473 64 [oR 549 0, oI a1, oI a2, oI a3] [] s5) (fun _ => rfl) (rg_if h (fun h => ?_) fun h => ?_)
          · refine rg_step 4 (G' := fun f => if inb a2 12 = true then evT f 473 61 [oR 549 0, oI a1, oI a2, oI a3] [vI (s5.1 675 (ix a2))] s5 else none) (fun _ => rfl) (rg_gd h fun h => ?_)
            exact rg_end 2 (fun _ => rfl) (by cases h; rfl)
          · refine rg_step 4 (G' := fun f => if inb a2 12 = true then evT f 473 70 [oR 549 0, oI a1, oI a2, oI a3] [vI (s5.1 676 (ix a2))] s5 else none) (fun _ => rfl) (rg_gd h fun h => ?_)
            exact rg_end 1 (fun _ => rfl) (by cases h; rfl)
  · exact rg_end 2 (fun _ => rfl) (by cases h; rfl)
theorem T_fPH_hand {s : ev_M} {a1 : Int32} {a2 : Int32} {a3 : Int32} {a4 : Int32} {q : ev_M × Int32} (h : fPH_hand s a1 a2 a3 a4 = some q) : RR 274 0 [oR 0 0, oI a1, oI a2, oI a3, oI a4] [] s (cvI q) := by
  refine rg_step 10 (G' := fun f => ev_after (evT f 122 0 [oR 9 0, oI (cI 22), oI a1, oI a2, oI a3, oI a4, oI (cI 0), oI (cI 0)] [] s) (fun q => evT f 274 16 [oR 0 0, oI a1, oI a2, oI a3, oI a4] (q.2 ++ []) q.1)) (fun _ => rfl) (rg_bd2 h fun s1 v2 hc h => rg_call (q := cvI (s1, v2)) (T_fLog_stages hc) ?_)
  refine rg_step 1 (G' := fun f => if v2 = 0 then evT f 274 30 [oR 0 0, oI a1, oI a2, oI a3, oI a4] [] s1 else evT f 274 19 [oR 0 0, oI a1, oI a2, oI a3, oI a4] [] s1) (fun _ => rfl) (rg_if h (fun h => ?_) fun h => ?_)
  · exact rg_end 2 (fun _ => rfl) (by cases h; rfl)
  · refine rg_step 4 (G' := fun f => ev_after (evT f 302 0 [oR 0 0, oR 1 0, nn, nn, nn, nn, nn, nn] [] s1) (fun q => evT f 274 27 [oR 0 0, oI a1, oI a2, oI a3, oI a4] (q.2 ++ []) q.1)) (fun _ => rfl) (rg_bd2 h fun s3 v4 hc h => rg_call (q := cvI (s3, v4)) (T_fPH_act_1 hc) ?_)
    exact rg_end 2 (fun _ => rfl) (by cases h; rfl)
theorem T_fM_hand {s : ev_M} {a1 : Int32} {a2 : Int32} {a3 : Int32} {a4 : Int32} {q : ev_M × Int32} (h : fM_hand s a1 a2 a3 a4 = some q) : RR 479 0 [oR 549 0, oI a1, oI a2, oI a3, oI a4] [] s (cvI q) := by
  refine rg_step 7 (G' := fun f => ev_after (evT f 322 0 [oR 549 0, oI (cI 22), oI a1, oI a2, oI a3, oI a4] [] s) (fun q => evT f 479 11 [oR 549 0, oI a1, oI a2, oI a3, oI a4] (q.2 ++ []) q.1)) (fun _ => rfl) (rg_bd2 h fun s1 v2 hc h => rg_call (q := cvI (s1, v2)) (T_fM_call4 hc) ?_)
  exact rg_end 1 (fun _ => rfl) (by cases h; rfl)
theorem T_fPH_miss {s : ev_M} {a1 : Int32} {q : ev_M × Int32} (h : fPH_miss s a1 = some q) : RR 275 0 [oR 0 0, oI a1] [] s (cvI q) := by
  refine rg_step 10 (G' := fun f => ev_after (evT f 122 0 [oR 9 0, oI (cI 23), oI a1, oI (cI 0), oI (cI 0), oI (cI 0), oI (cI 0), oI (cI 0)] [] s) (fun q => evT f 275 15 [oR 0 0, oI a1] (q.2 ++ []) q.1)) (fun _ => rfl) (rg_bd2 h fun s1 v2 hc h => rg_call (q := cvI (s1, v2)) (T_fLog_stages hc) ?_)
  refine rg_step 1 (G' := fun f => if v2 = 0 then evT f 275 29 [oR 0 0, oI a1] [] s1 else evT f 275 18 [oR 0 0, oI a1] [] s1) (fun _ => rfl) (rg_if h (fun h => ?_) fun h => ?_)
  · exact rg_end 2 (fun _ => rfl) (by cases h; rfl)
  · refine rg_step 4 (G' := fun f => ev_after (evT f 302 0 [oR 0 0, oR 1 0, nn, nn, nn, nn, nn, nn] [] s1) (fun q => evT f 275 26 [oR 0 0, oI a1] (q.2 ++ []) q.1)) (fun _ => rfl) (rg_bd2 h fun s3 v4 hc h => rg_call (q := cvI (s3, v4)) (T_fPH_act_1 hc) ?_)
    exact rg_end 2 (fun _ => rfl) (by cases h; rfl)
theorem T_fM_miss {s : ev_M} {a1 : Int32} {q : ev_M × Int32} (h : fM_miss s a1 = some q) : RR 481 0 [oR 549 0, oI a1] [] s (cvI q) := by
  refine rg_step 4 (G' := fun f => ev_after (evT f 319 0 [oR 549 0, oI (cI 23), oI a1] [] s) (fun q => evT f 481 7 [oR 549 0, oI a1] (q.2 ++ []) q.1)) (fun _ => rfl) (rg_bd2 h fun s1 v2 hc h => rg_call (q := cvI (s1, v2)) (T_fM_call1 hc) ?_)
  exact rg_end 1 (fun _ => rfl) (by cases h; rfl)
theorem T_fPH_refuse {s : ev_M} {a1 : Int32} {q : ev_M × Int32} (h : fPH_refuse s a1 = some q) : RR 276 0 [oR 0 0, oI a1] [] s (cvI q) := by
  refine rg_step 10 (G' := fun f => ev_after (evT f 122 0 [oR 9 0, oI (cI 24), oI a1, oI (cI 0), oI (cI 0), oI (cI 0), oI (cI 0), oI (cI 0)] [] s) (fun q => evT f 276 15 [oR 0 0, oI a1] (q.2 ++ []) q.1)) (fun _ => rfl) (rg_bd2 h fun s1 v2 hc h => rg_call (q := cvI (s1, v2)) (T_fLog_stages hc) ?_)
  refine rg_step 1 (G' := fun f => if v2 = 0 then evT f 276 29 [oR 0 0, oI a1] [] s1 else evT f 276 18 [oR 0 0, oI a1] [] s1) (fun _ => rfl) (rg_if h (fun h => ?_) fun h => ?_)
  · exact rg_end 2 (fun _ => rfl) (by cases h; rfl)
  · refine rg_step 4 (G' := fun f => ev_after (evT f 302 0 [oR 0 0, oR 1 0, nn, nn, nn, nn, nn, nn] [] s1) (fun q => evT f 276 26 [oR 0 0, oI a1] (q.2 ++ []) q.1)) (fun _ => rfl) (rg_bd2 h fun s3 v4 hc h => rg_call (q := cvI (s3, v4)) (T_fPH_act_1 hc) ?_)
    exact rg_end 2 (fun _ => rfl) (by cases h; rfl)
theorem T_fM_refuse {s : ev_M} {a1 : Int32} {q : ev_M × Int32} (h : fM_refuse s a1 = some q) : RR 483 0 [oR 549 0, oI a1] [] s (cvI q) := by
  refine rg_step 4 (G' := fun f => ev_after (evT f 319 0 [oR 549 0, oI (cI 24), oI a1] [] s) (fun q => evT f 483 7 [oR 549 0, oI a1] (q.2 ++ []) q.1)) (fun _ => rfl) (rg_bd2 h fun s1 v2 hc h => rg_call (q := cvI (s1, v2)) (T_fM_call1 hc) ?_)
  exact rg_end 1 (fun _ => rfl) (by cases h; rfl)
theorem T_fPH_put {s : ev_M} {a1 : Int32} {a2 : Int32} {q : ev_M × Int32} (h : fPH_put s a1 a2 = some q) : RR 277 0 [oR 0 0, oI a1, oI a2] [] s (cvI q) := by
  refine rg_step 10 (G' := fun f => ev_after (evT f 122 0 [oR 9 0, oI (cI 25), oI a1, oI a2, oI (cI 0), oI (cI 0), oI (cI 0), oI (cI 0)] [] s) (fun q => evT f 277 15 [oR 0 0, oI a1, oI a2] (q.2 ++ []) q.1)) (fun _ => rfl) (rg_bd2 h fun s1 v2 hc h => rg_call (q := cvI (s1, v2)) (T_fLog_stages hc) ?_)
  refine rg_step 1 (G' := fun f => if v2 = 0 then evT f 277 29 [oR 0 0, oI a1, oI a2] [] s1 else evT f 277 18 [oR 0 0, oI a1, oI a2] [] s1) (fun _ => rfl) (rg_if h (fun h => ?_) fun h => ?_)
  · exact rg_end 2 (fun _ => rfl) (by cases h; rfl)
  · refine rg_step 4 (G' := fun f => ev_after (evT f 302 0 [oR 0 0, oR 1 0, nn, nn, nn, nn, nn, nn] [] s1) (fun q => evT f 277 26 [oR 0 0, oI a1, oI a2] (q.2 ++ []) q.1)) (fun _ => rfl) (rg_bd2 h fun s3 v4 hc h => rg_call (q := cvI (s3, v4)) (T_fPH_act_1 hc) ?_)
    exact rg_end 2 (fun _ => rfl) (by cases h; rfl)
theorem T_fM_put {s : ev_M} {a1 : Int32} {a2 : Int32} {q : ev_M × Int32} (h : fM_put s a1 a2 = some q) : RR 486 0 [oR 549 0, oI a1, oI a2] [] s (cvI q) := by
  refine rg_step 5 (G' := fun f => ev_after (evT f 320 0 [oR 549 0, oI (cI 25), oI a1, oI a2] [] s) (fun q => evT f 486 8 [oR 549 0, oI a1, oI a2] (q.2 ++ []) q.1)) (fun _ => rfl) (rg_bd2 h fun s1 v2 hc h => rg_call (q := cvI (s1, v2)) (T_fM_call2 hc) ?_)
  exact rg_end 1 (fun _ => rfl) (by cases h; rfl)
theorem T_fPH_pickUp {s : ev_M} {a1 : Int32} {a2 : Int32} {a3 : Int32} {a4 : Int32} {q : ev_M × Int32} (h : fPH_pickUp s a1 a2 a3 a4 = some q) : RR 278 0 [oR 0 0, oI a1, oI a2, oI a3, oI a4] [] s (cvI q) := by
  refine rg_step 10 (G' := fun f => ev_after (evT f 122 0 [oR 9 0, oI (cI 26), oI a1, oI a2, oI a3, oI a4, oI (cI 0), oI (cI 0)] [] s) (fun q => evT f 278 16 [oR 0 0, oI a1, oI a2, oI a3, oI a4] (q.2 ++ []) q.1)) (fun _ => rfl) (rg_bd2 h fun s1 v2 hc h => rg_call (q := cvI (s1, v2)) (T_fLog_stages hc) ?_)
  refine rg_step 1 (G' := fun f => if v2 = 0 then evT f 278 30 [oR 0 0, oI a1, oI a2, oI a3, oI a4] [] s1 else evT f 278 19 [oR 0 0, oI a1, oI a2, oI a3, oI a4] [] s1) (fun _ => rfl) (rg_if h (fun h => ?_) fun h => ?_)
  · exact rg_end 2 (fun _ => rfl) (by cases h; rfl)
  · refine rg_step 4 (G' := fun f => ev_after (evT f 302 0 [oR 0 0, oR 1 0, nn, nn, nn, nn, nn, nn] [] s1) (fun q => evT f 278 27 [oR 0 0, oI a1, oI a2, oI a3, oI a4] (q.2 ++ []) q.1)) (fun _ => rfl) (rg_bd2 h fun s3 v4 hc h => rg_call (q := cvI (s3, v4)) (T_fPH_act_1 hc) ?_)
    exact rg_end 2 (fun _ => rfl) (by cases h; rfl)
theorem T_fM_pickUp {s : ev_M} {a1 : Int32} {a2 : Int32} {a3 : Int32} {a4 : Int32} {q : ev_M × Int32} (h : fM_pickUp s a1 a2 a3 a4 = some q) : RR 487 0 [oR 549 0, oI a1, oI a2, oI a3, oI a4] [] s (cvI q) := by
  refine rg_step 7 (G' := fun f => ev_after (evT f 322 0 [oR 549 0, oI (cI 26), oI a1, oI a2, oI a3, oI a4] [] s) (fun q => evT f 487 11 [oR 549 0, oI a1, oI a2, oI a3, oI a4] (q.2 ++ []) q.1)) (fun _ => rfl) (rg_bd2 h fun s1 v2 hc h => rg_call (q := cvI (s1, v2)) (T_fM_call4 hc) ?_)
  exact rg_end 1 (fun _ => rfl) (by cases h; rfl)
theorem T_fPH_openBox {s : ev_M} {a1 : Int32} {a2 : Int32} {q : ev_M × Int32} (h : fPH_openBox s a1 a2 = some q) : RR 279 0 [oR 0 0, oI a1, oI a2] [] s (cvI q) := by
  refine rg_step 10 (G' := fun f => ev_after (evT f 122 0 [oR 9 0, oI (cI 27), oI a1, oI a2, oI (cI 0), oI (cI 0), oI (cI 0), oI (cI 0)] [] s) (fun q => evT f 279 15 [oR 0 0, oI a1, oI a2] (q.2 ++ []) q.1)) (fun _ => rfl) (rg_bd2 h fun s1 v2 hc h => rg_call (q := cvI (s1, v2)) (T_fLog_stages hc) ?_)
  refine rg_step 1 (G' := fun f => if v2 = 0 then evT f 279 29 [oR 0 0, oI a1, oI a2] [] s1 else evT f 279 18 [oR 0 0, oI a1, oI a2] [] s1) (fun _ => rfl) (rg_if h (fun h => ?_) fun h => ?_)
  · exact rg_end 2 (fun _ => rfl) (by cases h; rfl)
  · refine rg_step 4 (G' := fun f => ev_after (evT f 302 0 [oR 0 0, oR 1 0, nn, nn, nn, nn, nn, nn] [] s1) (fun q => evT f 279 26 [oR 0 0, oI a1, oI a2] (q.2 ++ []) q.1)) (fun _ => rfl) (rg_bd2 h fun s3 v4 hc h => rg_call (q := cvI (s3, v4)) (T_fPH_act_1 hc) ?_)
    exact rg_end 2 (fun _ => rfl) (by cases h; rfl)
theorem T_fM_openBox {s : ev_M} {a1 : Int32} {a2 : Int32} {q : ev_M × Int32} (h : fM_openBox s a1 a2 = some q) : RR 490 0 [oR 549 0, oI a1, oI a2] [] s (cvI q) := by
  refine rg_step 5 (G' := fun f => ev_after (evT f 320 0 [oR 549 0, oI (cI 27), oI a1, oI a2] [] s) (fun q => evT f 490 8 [oR 549 0, oI a1, oI a2] (q.2 ++ []) q.1)) (fun _ => rfl) (rg_bd2 h fun s1 v2 hc h => rg_call (q := cvI (s1, v2)) (T_fM_call2 hc) ?_)
  exact rg_end 1 (fun _ => rfl) (by cases h; rfl)
theorem T_fPH_lose {s : ev_M} {a1 : Int32} {q : ev_M × Int32} (h : fPH_lose s a1 = some q) : RR 280 0 [oR 0 0, oI a1] [] s (cvI q) := by
  refine rg_step 10 (G' := fun f => ev_after (evT f 122 0 [oR 9 0, oI (cI 28), oI a1, oI (cI 0), oI (cI 0), oI (cI 0), oI (cI 0), oI (cI 0)] [] s) (fun q => evT f 280 15 [oR 0 0, oI a1] (q.2 ++ []) q.1)) (fun _ => rfl) (rg_bd2 h fun s1 v2 hc h => rg_call (q := cvI (s1, v2)) (T_fLog_stages hc) ?_)
  refine rg_step 1 (G' := fun f => if v2 = 0 then evT f 280 29 [oR 0 0, oI a1] [] s1 else evT f 280 18 [oR 0 0, oI a1] [] s1) (fun _ => rfl) (rg_if h (fun h => ?_) fun h => ?_)
  · exact rg_end 2 (fun _ => rfl) (by cases h; rfl)
  · refine rg_step 4 (G' := fun f => ev_after (evT f 302 0 [oR 0 0, oR 1 0, nn, nn, nn, nn, nn, nn] [] s1) (fun q => evT f 280 26 [oR 0 0, oI a1] (q.2 ++ []) q.1)) (fun _ => rfl) (rg_bd2 h fun s3 v4 hc h => rg_call (q := cvI (s3, v4)) (T_fPH_act_1 hc) ?_)
    exact rg_end 2 (fun _ => rfl) (by cases h; rfl)
theorem T_fM_lose {s : ev_M} {a1 : Int32} {q : ev_M × Int32} (h : fM_lose s a1 = some q) : RR 492 0 [oR 549 0, oI a1] [] s (cvI q) := by
  refine rg_step 4 (G' := fun f => ev_after (evT f 319 0 [oR 549 0, oI (cI 28), oI a1] [] s) (fun q => evT f 492 7 [oR 549 0, oI a1] (q.2 ++ []) q.1)) (fun _ => rfl) (rg_bd2 h fun s1 v2 hc h => rg_call (q := cvI (s1, v2)) (T_fM_call1 hc) ?_)
  exact rg_end 1 (fun _ => rfl) (by cases h; rfl)
theorem T_fPH_account {s : ev_M} {a1 : Int32} {q : ev_M × Int32} (h : fPH_account s a1 = some q) : RR 281 0 [oR 0 0, oI a1] [] s (cvI q) := by
  refine rg_step 10 (G' := fun f => ev_after (evT f 122 0 [oR 9 0, oI (cI 29), oI a1, oI (cI 0), oI (cI 0), oI (cI 0), oI (cI 0), oI (cI 0)] [] s) (fun q => evT f 281 15 [oR 0 0, oI a1] (q.2 ++ []) q.1)) (fun _ => rfl) (rg_bd2 h fun s1 v2 hc h => rg_call (q := cvI (s1, v2)) (T_fLog_stages hc) ?_)
  refine rg_step 1 (G' := fun f => if v2 = 0 then evT f 281 29 [oR 0 0, oI a1] [] s1 else evT f 281 18 [oR 0 0, oI a1] [] s1) (fun _ => rfl) (rg_if h (fun h => ?_) fun h => ?_)
  · exact rg_end 2 (fun _ => rfl) (by cases h; rfl)
  · refine rg_step 4 (G' := fun f => ev_after (evT f 302 0 [oR 0 0, oR 1 0, nn, nn, nn, nn, nn, nn] [] s1) (fun q => evT f 281 26 [oR 0 0, oI a1] (q.2 ++ []) q.1)) (fun _ => rfl) (rg_bd2 h fun s3 v4 hc h => rg_call (q := cvI (s3, v4)) (T_fPH_act_1 hc) ?_)
    exact rg_end 2 (fun _ => rfl) (by cases h; rfl)
theorem T_fM_account {s : ev_M} {a1 : Int32} {q : ev_M × Int32} (h : fM_account s a1 = some q) : RR 494 0 [oR 549 0, oI a1] [] s (cvI q) := by
  refine rg_step 4 (G' := fun f => ev_after (evT f 319 0 [oR 549 0, oI (cI 29), oI a1] [] s) (fun q => evT f 494 7 [oR 549 0, oI a1] (q.2 ++ []) q.1)) (fun _ => rfl) (rg_bd2 h fun s1 v2 hc h => rg_call (q := cvI (s1, v2)) (T_fM_call1 hc) ?_)
  exact rg_end 1 (fun _ => rfl) (by cases h; rfl)
theorem T_fPH_deposit {s : ev_M} {a1 : Int32} {a2 : Int32} {q : ev_M × Int32} (h : fPH_deposit s a1 a2 = some q) : RR 282 0 [oR 0 0, oI a1, oI a2] [] s (cvI q) := by
  refine rg_step 10 (G' := fun f => ev_after (evT f 122 0 [oR 9 0, oI (cI 30), oI a1, oI a2, oI (cI 0), oI (cI 0), oI (cI 0), oI (cI 0)] [] s) (fun q => evT f 282 15 [oR 0 0, oI a1, oI a2] (q.2 ++ []) q.1)) (fun _ => rfl) (rg_bd2 h fun s1 v2 hc h => rg_call (q := cvI (s1, v2)) (T_fLog_stages hc) ?_)
  refine rg_step 1 (G' := fun f => if v2 = 0 then evT f 282 29 [oR 0 0, oI a1, oI a2] [] s1 else evT f 282 18 [oR 0 0, oI a1, oI a2] [] s1) (fun _ => rfl) (rg_if h (fun h => ?_) fun h => ?_)
  · exact rg_end 2 (fun _ => rfl) (by cases h; rfl)
  · refine rg_step 4 (G' := fun f => ev_after (evT f 302 0 [oR 0 0, oR 1 0, nn, nn, nn, nn, nn, nn] [] s1) (fun q => evT f 282 26 [oR 0 0, oI a1, oI a2] (q.2 ++ []) q.1)) (fun _ => rfl) (rg_bd2 h fun s3 v4 hc h => rg_call (q := cvI (s3, v4)) (T_fPH_act_1 hc) ?_)
    exact rg_end 2 (fun _ => rfl) (by cases h; rfl)
theorem T_fM_deposit {s : ev_M} {a1 : Int32} {a2 : Int32} {q : ev_M × Int32} (h : fM_deposit s a1 a2 = some q) : RR 496 0 [oR 549 0, oI a1, oI a2] [] s (cvI q) := by
  refine rg_step 5 (G' := fun f => ev_after (evT f 320 0 [oR 549 0, oI (cI 30), oI a1, oI a2] [] s) (fun q => evT f 496 8 [oR 549 0, oI a1, oI a2] (q.2 ++ []) q.1)) (fun _ => rfl) (rg_bd2 h fun s1 v2 hc h => rg_call (q := cvI (s1, v2)) (T_fM_call2 hc) ?_)
  exact rg_end 1 (fun _ => rfl) (by cases h; rfl)
theorem T_fPH_balance {s : ev_M} {a1 : Int32} {q : Int64} (h : fPH_balance s a1 = some q) : RR 283 0 [oR 0 0, oI a1] [] s (cvPL s q) := by
  refine rg_step 4 (G' := fun f => if (s.1 9 9) = 0 then evT f 283 14 [oR 0 0, oI a1] [] s else evT f 283 10 [oR 0 0, oI a1] [] s) (fun _ => rfl) (rg_if h (fun h => ?_) fun h => ?_)
  · refine rg_step 4 (G' := fun f => ev_after (evT f 147 0 [oR 78 0, oI a1] [] s) (fun q => evT f 283 22 [oR 0 0, oI a1] (q.2 ++ []) q.1)) (fun _ => rfl) (rg_bd1 h fun v1 hc h => rg_call (q := cvP s v1) (T_fMoney_has hc) ?_)
    refine rg_step 1 (G' := fun f => if v1 = 0 then evT f 283 37 [oR 0 0, oI a1] [] s else evT f 283 25 [oR 0 0, oI a1] [] s) (fun _ => rfl) (rg_if h (fun h => ?_) fun h => ?_)
    · exact rg_end 2 (fun _ => rfl) (by cases h; rfl)
    · refine rg_step 5 (G' := fun f => if inb a1 34 = true then evT f 283 34 [oR 0 0, oI a1] [vL (s.2.1 80 (ix a1))] s else none) (fun _ => rfl) (rg_gd h fun h => ?_)
      exact rg_end 2 (fun _ => rfl) (by cases h; rfl)
  · exact rg_end 2 (fun _ => rfl) (by cases h; rfl)
theorem t_fM_balance_b41 {s : ev_M} {x1 : Int32} {q : ev_M × Int64} (h : fM_balance_b41 s x1 = some q) : RR 497 41 [oR 549 0, oI x1] [] s (cvL q) := by
  refine rg_step 3 (G' := fun f => ev_after (evT f 477 0 [oR 549 0, oI x1, nn, nn, nn] [] s) (fun q => evT f 497 46 [oR 549 0, oI x1] (q.2 ++ []) q.1)) (fun _ => rfl) (rg_bd1 h fun v1 hc h => rg_call (q := cvPL s v1) (T_fM_balanceOf hc) ?_)
  exact rg_end 1 (fun _ => rfl) (by cases h; rfl)
theorem T_fM_balance {s : ev_M} {a1 : Int32} {q : ev_M × Int64} (h : fM_balance s a1 = some q) : RR 497 0 [oR 549 0, oI a1] [] s (cvL q) := by
  refine rg_step 3 (G' := fun f => evT f 497 5 [oR 549 0, oI a1] [] (wI s 549 0 (cI 0))) (fun _ => rfl) (rg_ltM h fun s2 h => ?_)
  refine rg_step 3 (G' := fun f => if (s2.1 549 5) = 0 then evT f 497 18 [oR 549 0, oI a1] [] s2 else evT f 497 12 [oR 549 0, oI a1] [] s2) (fun _ => rfl) (rg_if h (fun h => ?_) fun h => ?_)
  · refine rg_step 4 (G' := fun f => ev_after (evT f 311 0 [oI a1, oI (cI 0), oI (cI 3)] [] s2) (fun q => evT f 497 24 [oR 549 0, oI a1] (q.2 ++ []) q.1)) (fun _ => rfl) (rg_bd1 h fun v3 hc h => rg_call (q := cvP s2 v3) (T_fM_in hc) ?_)
    refine rg_step 1 (G' := fun f => if v3 = 0 then evT f 497 27 [oR 549 0, oI a1] [] s2 else evT f 497 41 [oR 549 0, oI a1] [] s2) (fun _ => rfl) (rg_if h (fun h => ?_) fun h => ?_)
    · refine rg_step 3 (G' := fun f => ev_after (evT f 347 0 [oR 549 0, oI a1] [] s2) (fun q => evT f 497 32 [oR 549 0, oI a1] (q.2 ++ []) q.1)) (fun _ => rfl) (rg_bd1 h fun v4 hc h => rg_call (q := cvP s2 v4) (T_fM_isCustomer hc) ?_)
      refine rg_step 1 (G' := fun f => if v4 = 0 then evT f 497 35 [oR 549 0, oI a1] [] s2 else evT f 497 41 [oR 549 0, oI a1] [] s2) (fun _ => rfl) (rg_if h (fun h => ?_) fun h => ?_)
      · exact rg_end 3 (fun _ => rfl) (by cases h; rfl)
      · exact (t_fM_balance_b41) h
    · exact (t_fM_balance_b41) h
  · exact rg_end 3 (fun _ => rfl) (by cases h; rfl)
theorem T_fMoney_tellBooking {s : ev_M} {a1 : Int32} {a2 : Int32} {q : Int32} (h : fMoney_tellBooking s a1 a2 = some q) : RR 154 0 [oR 78 0, oI a1, oI a2] [] s (cvP s q) := by
  refine rg_step 4 (G' := fun f => ev_after (evT f 308 0 [oI a2, oI (cI 0), oI (cI 3)] [] s) (fun q => evT f 154 6 [oR 78 0, oI a1, oI a2] (q.2 ++ []) q.1)) (fun _ => rfl) (rg_bd1 h fun v1 hc h => rg_call (q := cvP s v1) (T_fPH_outside hc) ?_)
  refine rg_step 1 (G' := fun f => if v1 = 0 then evT f 154 12 [oR 78 0, oI a1, oI a2] [] s else evT f 154 9 [oR 78 0, oI a1, oI a2] [] s) (fun _ => rfl) (rg_if h (fun h => ?_) fun h => ?_)
  · refine rg_step 7 (G' := fun f => ev_after (evT f 308 0 [oI a1, oI (cI 0), oI ((s.1 78 6) - (cI 1))] [] s) (fun q => evT f 154 23 [oR 78 0, oI a1, oI a2] (q.2 ++ []) q.1)) (fun _ => rfl) (rg_bd1 h fun v2 hc h => rg_call (q := cvP s v2) (T_fPH_outside hc) ?_)
    refine rg_step 1 (G' := fun f => if v2 = 0 then evT f 154 30 [oR 78 0, oI a1, oI a2] [] s else evT f 154 26 [oR 78 0, oI a1, oI a2] [] s) (fun _ => rfl) (rg_if h (fun h => ?_) fun h => ?_)
    · refine rg_step 4 (G' := fun f => if inb a2 4 = true then evT f 154 36 [oR 78 0, oI a1, oI a2] [vR 82 (ix a2)] s else none) (fun _ => rfl) (rg_gd h fun h => ?_)
      refine rg_step 2 (G' := fun f => if inb a1 2000 = true then evT f 154 38 [oR 78 0, oI a1, oI a2] [vI (s.1 (82 + (ix a2)) (ix a1))] s else none) (fun _ => rfl) (rg_gd h fun h => ?_)
      exact rg_end 1 (fun _ => rfl) (by cases h; rfl)
    · exact rg_end 3 (fun _ => rfl) (by cases h; rfl)
  · exact rg_end 2 (fun _ => rfl) (by cases h; rfl)
theorem T_fPH_entry {s : ev_M} {a1 : Int32} {a2 : Int32} {q : Int32} (h : fPH_entry s a1 a2 = some q) : RR 284 0 [oR 0 0, oI a1, oI a2] [] s (cvP s q) := by
  refine rg_step 4 (G' := fun f => if (s.1 9 9) = 0 then evT f 284 15 [oR 0 0, oI a1, oI a2] [] s else evT f 284 10 [oR 0 0, oI a1, oI a2] [] s) (fun _ => rfl) (rg_if h (fun h => ?_) fun h => ?_)
  · refine rg_step 5 (G' := fun f => ev_after (evT f 154 0 [oR 78 0, oI a1, oI a2] [] s) (fun q => evT f 284 24 [oR 0 0, oI a1, oI a2] (q.2 ++ []) q.1)) (fun _ => rfl) (rg_bd1 h fun v1 hc h => rg_call (q := cvP s v1) (T_fMoney_tellBooking hc) ?_)
    exact rg_end 1 (fun _ => rfl) (by cases h; rfl)
  · exact rg_end 3 (fun _ => rfl) (by cases h; rfl)
theorem T_fM_entry {s : ev_M} {a1 : Int32} {a2 : Int32} {q : ev_M × Int32} (h : fM_entry s a1 a2 = some q) : RR 498 0 [oR 549 0, oI a1, oI a2] [] s (cvI q) := by
  refine rg_step 3 (G' := fun f => evT f 498 5 [oR 549 0, oI a1, oI a2] [] (wI s 549 0 (cI 0))) (fun _ => rfl) (rg_ltM h fun s1 h => ?_)
  refine rg_step 3 (G' := fun f => if (s1.1 549 5) = 0 then evT f 498 15 [oR 549 0, oI a1, oI a2] [] s1 else evT f 498 12 [oR 549 0, oI a1, oI a2] [] s1) (fun _ => rfl) (rg_if h (fun h => ?_) fun h => ?_)
  · refine rg_step 4 (G' := fun f => ev_after (evT f 311 0 [oI a2, oI (cI 0), oI (cI 3)] [] s1) (fun q => evT f 498 21 [oR 549 0, oI a1, oI a2] (q.2 ++ []) q.1)) (fun _ => rfl) (rg_bd1 h fun v2 hc h => rg_call (q := cvP s1 v2) (T_fM_in hc) ?_)
    refine rg_step 1 (G' := fun f => if v2 = 0 then evT f 498 24 [oR 549 0, oI a1, oI a2] [] s1 else evT f 498 27 [oR 549 0, oI a1, oI a2] [] s1) (fun _ => rfl) (rg_if h (fun h => ?_) fun h => ?_)
    · exact rg_end 2 (fun _ => rfl) (by cases h; rfl)
    · refine rg_step 7 (G' := fun f => ev_after (evT f 311 0 [oI a1, oI (cI 0), oI ((s1.1 549 114) - (cI 1))] [] s1) (fun q => evT f 498 38 [oR 549 0, oI a1, oI a2] (q.2 ++ []) q.1)) (fun _ => rfl) (rg_bd1 h fun v3 hc h => rg_call (q := cvP s1 v3) (T_fM_in hc) ?_)
      refine rg_step 1 (G' := fun f => if v3 = 0 then evT f 498 41 [oR 549 0, oI a1, oI a2] [] s1 else evT f 498 43 [oR 549 0, oI a1, oI a2] [] s1) (fun _ => rfl) (rg_if h (fun h => ?_) fun h => ?_)
      · exact rg_end 2 (fun _ => rfl) (by cases h; rfl)
      · refine rg_step 2 (G' := fun f => if a2 = 0 then evT f 498 47 [oR 549 0, oI a1, oI a2] [] s1 else evT f 498 56 [oR 549 0, oI a1, oI a2] [] s1) (fun _ => rfl) (rg_if h (fun h => ?_) fun h => ?_)
        · refine rg_step 4 (G' := fun f => if inb a1 2000 = true then evT f 498 53 [oR 549 0, oI a1, oI a2] [vI (s1.1 628 (ix a1))] s1 else none) (fun _ => rfl) (rg_gd h fun h => ?_)
          exact rg_end 2 (fun _ => rfl) (by cases h; rfl)
        · refine rg_step 3 (G' := fun f => if a2 = (cI 1) then evT f 498 61 [oR 549 0, oI a1, oI a2] [] s1 else evT f 498 70 [oR 549 0, oI a1, oI a2] [] s1) (fun _ => rfl) (rg_if h (fun h => ?_) fun h => ?_)
          · refine rg_step 4 (G' := fun f => if inb a1 2000 = true then evT f 498 67 [oR 549 0, oI a1, oI a2] [vI (s1.1 629 (ix a1))] s1 else none) (fun _ => rfl) (rg_gd h fun h => ?_)
            exact rg_end 2 (fun _ => rfl) (by cases h; rfl)
          · refine rg_step 3 (G' := fun f => if a2 = (cI 2) then evT f 498 75 [oR 549 0, oI a1, oI a2] [] s1 else evT f 498 84 [oR 549 0, oI a1, oI a2] [] s1) (fun _ => rfl) (rg_if h (fun h => ?_) fun h => ?_)
            · refine rg_step 4 (G' := fun f => if inb a1 2000 = true then evT f 498 81 [oR 549 0, oI a1, oI a2] [vI (s1.1 630 (ix a1))] s1 else none) (fun _ => rfl) (rg_gd h fun h => ?_)
              exact rg_end 2 (fun _ => rfl) (by cases h; rfl)
            · refine rg_step 4 (G' := fun f => if inb a1 2000 = true then evT f 498 90 [oR 549 0, oI a1, oI a2] [vI (s1.1 631 (ix a1))] s1 else none) (fun _ => rfl) (rg_gd h fun h => ?_)
              exact rg_end 1 (fun _ => rfl) (by cases h; rfl)
  · exact rg_end 2 (fun _ => rfl) (by cases h; rfl)
theorem T_fPH_tariff {s : ev_M} {q : ev_M × Int32} (h : fPH_tariff s = some q) : RR 285 0 [oR 0 0, nn] [] s (cvI q) := by
  refine rg_step 10 (G' := fun f => ev_after (evT f 122 0 [oR 9 0, oI (cI 31), oI (cI 0), oI (cI 0), oI (cI 0), oI (cI 0), oI (cI 0), oI (cI 0)] [] s) (fun q => evT f 285 15 [oR 0 0, nn] (q.2 ++ []) q.1)) (fun _ => rfl) (rg_bd2 h fun s1 v2 hc h => rg_call (q := cvI (s1, v2)) (T_fLog_stages hc) ?_)
  refine rg_step 1 (G' := fun f => if v2 = 0 then evT f 285 18 [oR 0 0, nn] [] s1 else evT f 285 21 [oR 0 0, nn] [] s1) (fun _ => rfl) (rg_if h (fun h => ?_) fun h => ?_)
  · exact rg_end 2 (fun _ => rfl) (by cases h; rfl)
  · refine rg_step 4 (G' := fun f => ev_after (evT f 302 0 [oR 0 0, oR 1 0, nn, nn, nn, nn, nn, nn] [] s1) (fun q => evT f 285 29 [oR 0 0, nn] (q.2 ++ []) q.1)) (fun _ => rfl) (rg_bd2 h fun s3 v4 hc h => rg_call (q := cvI (s3, v4)) (T_fPH_act_1 hc) ?_)
    refine rg_step 5 (G' := fun f => evT f 285 38 [oR 0 0, oI v4] [] (wI s3 1 1 (cI 0))) (fun _ => rfl) (rg_ltM h fun s5 h => ?_)
    exact rg_end 2 (fun _ => rfl) (by cases h; rfl)
theorem T_fM_tariff {s : ev_M} {q : ev_M × Int32} (h : fM_tariff s = some q) : RR 501 0 [oR 549 0] [] s (cvI q) := by
  refine rg_step 3 (G' := fun f => ev_after (evT f 318 0 [oR 549 0, oI (cI 31), nn, nn, nn] [] s) (fun q => evT f 501 6 [oR 549 0] (q.2 ++ []) q.1)) (fun _ => rfl) (rg_bd2 h fun s1 v2 hc h => rg_call (q := cvI (s1, v2)) (T_fM_call hc) ?_)
  exact rg_end 1 (fun _ => rfl) (by cases h; rfl)
theorem T_fPH_price {s : ev_M} {a1 : Int32} {q : Int32} (h : fPH_price s a1 = some q) : RR 286 0 [oR 0 0, oI a1] [] s (cvP s q) := by
  refine rg_step 4 (G' := fun f => if (s.1 9 9) = 0 then evT f 286 13 [oR 0 0, oI a1] [] s else evT f 286 10 [oR 0 0, oI a1] [] s) (fun _ => rfl) (rg_if h (fun h => ?_) fun h => ?_)
  · refine rg_step 4 (G' := fun f => ev_after (evT f 51 0 [oR 100 0, oI a1] [] s) (fun q => evT f 286 21 [oR 0 0, oI a1] (q.2 ++ []) q.1)) (fun _ => rfl) (rg_bd1 h fun v1 hc h => rg_call (q := cvP s v1) (T_fItems_has hc) ?_)
    refine rg_step 1 (G' := fun f => if v1 = 0 then evT f 286 35 [oR 0 0, oI a1] [] s else evT f 286 24 [oR 0 0, oI a1] [] s) (fun _ => rfl) (rg_if h (fun h => ?_) fun h => ?_)
    · exact rg_end 2 (fun _ => rfl) (by cases h; rfl)
    · refine rg_step 4 (G' := fun f => ev_after (evT f 71 0 [oR 100 0, oI a1] [] s) (fun q => evT f 286 32 [oR 0 0, oI a1] (q.2 ++ []) q.1)) (fun _ => rfl) (rg_bd1 h fun v2 hc h => rg_call (q := cvP s v2) (T_fItems_priceOf hc) ?_)
      exact rg_end 2 (fun _ => rfl) (by cases h; rfl)
  · exact rg_end 2 (fun _ => rfl) (by cases h; rfl)
theorem T_fM_price {s : ev_M} {a1 : Int32} {q : ev_M × Int32} (h : fM_price s a1 = some q) : RR 502 0 [oR 549 0, oI a1] [] s (cvI q) := by
  refine rg_step 3 (G' := fun f => evT f 502 5 [oR 549 0, oI a1] [] (wI s 549 0 (cI 0))) (fun _ => rfl) (rg_ltM h fun s1 h => ?_)
  refine rg_step 3 (G' := fun f => if (s1.1 549 5) = 0 then evT f 502 17 [oR 549 0, oI a1] [] s1 else evT f 502 12 [oR 549 0, oI a1] [] s1) (fun _ => rfl) (rg_if h (fun h => ?_) fun h => ?_)
  · refine rg_step 3 (G' := fun f => ev_after (evT f 342 0 [oR 549 0, oI a1] [] s1) (fun q => evT f 502 22 [oR 549 0, oI a1] (q.2 ++ []) q.1)) (fun _ => rfl) (rg_bd1 h fun v2 hc h => rg_call (q := cvP s1 v2) (T_fM_isItem hc) ?_)
    refine rg_step 1 (G' := fun f => if v2 = 0 then evT f 502 25 [oR 549 0, oI a1] [] s1 else evT f 502 30 [oR 549 0, oI a1] [] s1) (fun _ => rfl) (rg_if h (fun h => ?_) fun h => ?_)
    · exact rg_end 3 (fun _ => rfl) (by cases h; rfl)
    · refine rg_step 3 (G' := fun f => ev_after (evT f 416 0 [oR 549 0, oI a1, nn, nn, nn] [] s1) (fun q => evT f 502 35 [oR 549 0, oI a1] (q.2 ++ []) q.1)) (fun _ => rfl) (rg_bd1 h fun v3 hc h => rg_call (q := cvP s1 v3) (T_fM_priceOf hc) ?_)
      exact rg_end 1 (fun _ => rfl) (by cases h; rfl)
  · exact rg_end 3 (fun _ => rfl) (by cases h; rfl)
theorem T_fPH_frank {s : ev_M} {a1 : Int32} {q : ev_M × Int32} (h : fPH_frank s a1 = some q) : RR 287 0 [oR 0 0, oI a1] [] s (cvI q) := by
  refine rg_step 10 (G' := fun f => ev_after (evT f 122 0 [oR 9 0, oI (cI 32), oI a1, oI (cI 0), oI (cI 0), oI (cI 0), oI (cI 0), oI (cI 0)] [] s) (fun q => evT f 287 15 [oR 0 0, oI a1] (q.2 ++ []) q.1)) (fun _ => rfl) (rg_bd2 h fun s1 v2 hc h => rg_call (q := cvI (s1, v2)) (T_fLog_stages hc) ?_)
  refine rg_step 1 (G' := fun f => if v2 = 0 then evT f 287 29 [oR 0 0, oI a1] [] s1 else evT f 287 18 [oR 0 0, oI a1] [] s1) (fun _ => rfl) (rg_if h (fun h => ?_) fun h => ?_)
  · exact rg_end 2 (fun _ => rfl) (by cases h; rfl)
  · refine rg_step 4 (G' := fun f => ev_after (evT f 302 0 [oR 0 0, oR 1 0, nn, nn, nn, nn, nn, nn] [] s1) (fun q => evT f 287 26 [oR 0 0, oI a1] (q.2 ++ []) q.1)) (fun _ => rfl) (rg_bd2 h fun s3 v4 hc h => rg_call (q := cvI (s3, v4)) (T_fPH_act_1 hc) ?_)
    exact rg_end 2 (fun _ => rfl) (by cases h; rfl)
theorem T_fM_frank {s : ev_M} {a1 : Int32} {q : ev_M × Int32} (h : fM_frank s a1 = some q) : RR 504 0 [oR 549 0, oI a1] [] s (cvI q) := by
  refine rg_step 4 (G' := fun f => ev_after (evT f 319 0 [oR 549 0, oI (cI 32), oI a1] [] s) (fun q => evT f 504 7 [oR 549 0, oI a1] (q.2 ++ []) q.1)) (fun _ => rfl) (rg_bd2 h fun s1 v2 hc h => rg_call (q := cvI (s1, v2)) (T_fM_call1 hc) ?_)
  exact rg_end 1 (fun _ => rfl) (by cases h; rfl)
theorem T_fPH_order {s : ev_M} {a1 : Int32} {a2 : Int32} {a3 : Int32} {q : ev_M × Int32} (h : fPH_order s a1 a2 a3 = some q) : RR 288 0 [oR 0 0, oI a1, oI a2, oI a3] [] s (cvI q) := by
  refine rg_step 10 (G' := fun f => ev_after (evT f 122 0 [oR 9 0, oI (cI 33), oI a1, oI a2, oI a3, oI (cI 0), oI (cI 0), oI (cI 0)] [] s) (fun q => evT f 288 15 [oR 0 0, oI a1, oI a2, oI a3] (q.2 ++ []) q.1)) (fun _ => rfl) (rg_bd2 h fun s1 v2 hc h => rg_call (q := cvI (s1, v2)) (T_fLog_stages hc) ?_)
  refine rg_step 1 (G' := fun f => if v2 = 0 then evT f 288 29 [oR 0 0, oI a1, oI a2, oI a3] [] s1 else evT f 288 18 [oR 0 0, oI a1, oI a2, oI a3] [] s1) (fun _ => rfl) (rg_if h (fun h => ?_) fun h => ?_)
  · exact rg_end 2 (fun _ => rfl) (by cases h; rfl)
  · refine rg_step 4 (G' := fun f => ev_after (evT f 302 0 [oR 0 0, oR 1 0, nn, nn, nn, nn, nn, nn] [] s1) (fun q => evT f 288 26 [oR 0 0, oI a1, oI a2, oI a3] (q.2 ++ []) q.1)) (fun _ => rfl) (rg_bd2 h fun s3 v4 hc h => rg_call (q := cvI (s3, v4)) (T_fPH_act_1 hc) ?_)
    exact rg_end 2 (fun _ => rfl) (by cases h; rfl)
theorem T_fM_order {s : ev_M} {a1 : Int32} {a2 : Int32} {a3 : Int32} {q : ev_M × Int32} (h : fM_order s a1 a2 a3 = some q) : RR 506 0 [oR 549 0, oI a1, oI a2, oI a3] [] s (cvI q) := by
  refine rg_step 6 (G' := fun f => ev_after (evT f 321 0 [oR 549 0, oI (cI 33), oI a1, oI a2, oI a3] [] s) (fun q => evT f 506 9 [oR 549 0, oI a1, oI a2, oI a3] (q.2 ++ []) q.1)) (fun _ => rfl) (rg_bd2 h fun s1 v2 hc h => rg_call (q := cvI (s1, v2)) (T_fM_call3 hc) ?_)
  exact rg_end 1 (fun _ => rfl) (by cases h; rfl)
theorem T_fPH_payOut {s : ev_M} {a1 : Int32} {a2 : Int32} {a3 : Int32} {q : ev_M × Int32} (h : fPH_payOut s a1 a2 a3 = some q) : RR 289 0 [oR 0 0, oI a1, oI a2, oI a3] [] s (cvI q) := by
  refine rg_step 10 (G' := fun f => ev_after (evT f 122 0 [oR 9 0, oI (cI 34), oI a1, oI a2, oI a3, oI (cI 0), oI (cI 0), oI (cI 0)] [] s) (fun q => evT f 289 15 [oR 0 0, oI a1, oI a2, oI a3] (q.2 ++ []) q.1)) (fun _ => rfl) (rg_bd2 h fun s1 v2 hc h => rg_call (q := cvI (s1, v2)) (T_fLog_stages hc) ?_)
  refine rg_step 1 (G' := fun f => if v2 = 0 then evT f 289 29 [oR 0 0, oI a1, oI a2, oI a3] [] s1 else evT f 289 18 [oR 0 0, oI a1, oI a2, oI a3] [] s1) (fun _ => rfl) (rg_if h (fun h => ?_) fun h => ?_)
  · exact rg_end 2 (fun _ => rfl) (by cases h; rfl)
  · refine rg_step 4 (G' := fun f => ev_after (evT f 302 0 [oR 0 0, oR 1 0, nn, nn, nn, nn, nn, nn] [] s1) (fun q => evT f 289 26 [oR 0 0, oI a1, oI a2, oI a3] (q.2 ++ []) q.1)) (fun _ => rfl) (rg_bd2 h fun s3 v4 hc h => rg_call (q := cvI (s3, v4)) (T_fPH_act_1 hc) ?_)
    exact rg_end 2 (fun _ => rfl) (by cases h; rfl)
theorem T_fM_payOut {s : ev_M} {a1 : Int32} {a2 : Int32} {a3 : Int32} {q : ev_M × Int32} (h : fM_payOut s a1 a2 a3 = some q) : RR 508 0 [oR 549 0, oI a1, oI a2, oI a3] [] s (cvI q) := by
  refine rg_step 6 (G' := fun f => ev_after (evT f 321 0 [oR 549 0, oI (cI 34), oI a1, oI a2, oI a3] [] s) (fun q => evT f 508 9 [oR 549 0, oI a1, oI a2, oI a3] (q.2 ++ []) q.1)) (fun _ => rfl) (rg_bd2 h fun s1 v2 hc h => rg_call (q := cvI (s1, v2)) (T_fM_call3 hc) ?_)
  exact rg_end 1 (fun _ => rfl) (by cases h; rfl)
theorem T_fPH_orderAt {s : ev_M} {a1 : Int32} {a2 : Int32} {q : Int32} (h : fPH_orderAt s a1 a2 = some q) : RR 290 0 [oR 0 0, oI a1, oI a2] [] s (cvP s q) := by
  refine rg_step 4 (G' := fun f => if (s.1 9 9) = 0 then evT f 290 13 [oR 0 0, oI a1, oI a2] [] s else evT f 290 10 [oR 0 0, oI a1, oI a2] [] s) (fun _ => rfl) (rg_if h (fun h => ?_) fun h => ?_)
  · refine rg_step 4 (G' := fun f => ev_after (evT f 160 0 [oR 78 0, oI a1] [] s) (fun q => evT f 290 21 [oR 0 0, oI a1, oI a2] (q.2 ++ []) q.1)) (fun _ => rfl) (rg_bd1 h fun v1 hc h => rg_call (q := cvP s v1) (T_fMoney_hasOrder hc) ?_)
    refine rg_step 1 (G' := fun f => if v1 = 0 then evT f 290 24 [oR 0 0, oI a1, oI a2] [] s else evT f 290 27 [oR 0 0, oI a1, oI a2] [] s) (fun _ => rfl) (rg_if h (fun h => ?_) fun h => ?_)
    · exact rg_end 2 (fun _ => rfl) (by cases h; rfl)
    · refine rg_step 4 (G' := fun f => ev_after (evT f 308 0 [oI a2, oI (cI 0), oI (cI 4)] [] s) (fun q => evT f 290 33 [oR 0 0, oI a1, oI a2] (q.2 ++ []) q.1)) (fun _ => rfl) (rg_bd1 h fun v2 hc h => rg_call (q := cvP s v2) (T_fPH_outside hc) ?_)
      refine rg_step 1 (G' := fun f => if v2 = 0 then evT f 290 41 [oR 0 0, oI a1, oI a2] [] s else evT f 290 36 [oR 0 0, oI a1, oI a2] [] s) (fun _ => rfl) (rg_if h (fun h => ?_) fun h => ?_)
      · refine rg_step 5 (G' := fun f => if inb a2 5 = true then evT f 290 50 [oR 0 0, oI a1, oI a2] [vR 87 (ix a2)] s else none) (fun _ => rfl) (rg_gd h fun h => ?_)
        refine rg_step 2 (G' := fun f => if inb a1 60 = true then evT f 290 52 [oR 0 0, oI a1, oI a2] [vI (s.1 (87 + (ix a2)) (ix a1))] s else none) (fun _ => rfl) (rg_gd h fun h => ?_)
        exact rg_end 1 (fun _ => rfl) (by cases h; rfl)
      · exact rg_end 3 (fun _ => rfl) (by cases h; rfl)
  · exact rg_end 2 (fun _ => rfl) (by cases h; rfl)
theorem T_fM_orderAt {s : ev_M} {a1 : Int32} {a2 : Int32} {q : ev_M × Int32} (h : fM_orderAt s a1 a2 = some q) : RR 509 0 [oR 549 0, oI a1, oI a2] [] s (cvI q) := by
  refine rg_step 3 (G' := fun f => evT f 509 5 [oR 549 0, oI a1, oI a2] [] (wI s 549 0 (cI 0))) (fun _ => rfl) (rg_ltM h fun s1 h => ?_)
  refine rg_step 3 (G' := fun f => if (s1.1 549 5) = 0 then evT f 509 15 [oR 549 0, oI a1, oI a2] [] s1 else evT f 509 12 [oR 549 0, oI a1, oI a2] [] s1) (fun _ => rfl) (rg_if h (fun h => ?_) fun h => ?_)
  · refine rg_step 7 (G' := fun f => ev_after (evT f 311 0 [oI a1, oI (cI 0), oI ((s1.1 549 119) - (cI 1))] [] s1) (fun q => evT f 509 26 [oR 549 0, oI a1, oI a2] (q.2 ++ []) q.1)) (fun _ => rfl) (rg_bd1 h fun v2 hc h => rg_call (q := cvP s1 v2) (T_fM_in hc) ?_)
    refine rg_step 1 (G' := fun f => if v2 = 0 then evT f 509 29 [oR 549 0, oI a1, oI a2] [] s1 else evT f 509 32 [oR 549 0, oI a1, oI a2] [] s1) (fun _ => rfl) (rg_if h (fun h => ?_) fun h => ?_)
    · exact rg_end 2 (fun _ => rfl) (by cases h; rfl)
    · refine rg_step 2 (G' := fun f => if a2 = cI 0 then evT f 509 68 [oR 549 0, oI a1, oI a2] [] s1 else if a2 = cI 1 then evT f 509 75 [oR 549 0, oI a1, oI a2] [] s1 else if a2 = cI 2 then evT f 509 82 [oR 549 0, oI a1, oI a2] [] s1 else if a2 = cI 3 then evT f 509 89 [oR 549 0, oI a1, oI a2] [] s1 else if a2 = cI 4 then evT f 509 96 [oR 549 0, oI a1, oI a2] [] s1 else evT f 509 103 [oR 549 0, oI a1, oI a2] [] s1) (fun _ => rfl) ?_
      refine rg_if h (fun h => ?_) fun h => ?_
      · refine rg_step 4 (G' := fun f => if inb a1 60 = true then evT f 509 74 [oR 549 0, oI a1, oI a2] [vI (s1.1 632 (ix a1))] s1 else none) (fun _ => rfl) (rg_gd h fun h => ?_)
        exact rg_end 1 (fun _ => rfl) (by cases h; rfl)
      refine rg_if h (fun h => ?_) fun h => ?_
      · refine rg_step 4 (G' := fun f => if inb a1 60 = true then evT f 509 81 [oR 549 0, oI a1, oI a2] [vI (s1.1 633 (ix a1))] s1 else none) (fun _ => rfl) (rg_gd h fun h => ?_)
        exact rg_end 1 (fun _ => rfl) (by cases h; rfl)
      refine rg_if h (fun h => ?_) fun h => ?_
      · refine rg_step 4 (G' := fun f => if inb a1 60 = true then evT f 509 88 [oR 549 0, oI a1, oI a2] [vI (s1.1 634 (ix a1))] s1 else none) (fun _ => rfl) (rg_gd h fun h => ?_)
        exact rg_end 1 (fun _ => rfl) (by cases h; rfl)
      refine rg_if h (fun h => ?_) fun h => ?_
      · refine rg_step 4 (G' := fun f => if inb a1 60 = true then evT f 509 95 [oR 549 0, oI a1, oI a2] [vI (s1.1 635 (ix a1))] s1 else none) (fun _ => rfl) (rg_gd h fun h => ?_)
        exact rg_end 1 (fun _ => rfl) (by cases h; rfl)
      refine rg_if h (fun h => ?_) fun h => ?_
      · refine rg_step 4 (G' := fun f => if inb a1 60 = true then evT f 509 102 [oR 549 0, oI a1, oI a2] [vI (s1.1 636 (ix a1))] s1 else none) (fun _ => rfl) (rg_gd h fun h => ?_)
        exact rg_end 1 (fun _ => rfl) (by cases h; rfl)
      exact rg_end 2 (fun _ => rfl) (by cases h; rfl)
  · exact rg_end 2 (fun _ => rfl) (by cases h; rfl)
theorem T_fPH_claim {s : ev_M} {a1 : Int32} {a2 : Int32} {q : ev_M × Int32} (h : fPH_claim s a1 a2 = some q) : RR 291 0 [oR 0 0, oI a1, oI a2] [] s (cvI q) := by
  refine rg_step 10 (G' := fun f => ev_after (evT f 122 0 [oR 9 0, oI (cI 35), oI a1, oI a2, oI (cI 0), oI (cI 0), oI (cI 0), oI (cI 0)] [] s) (fun q => evT f 291 15 [oR 0 0, oI a1, oI a2] (q.2 ++ []) q.1)) (fun _ => rfl) (rg_bd2 h fun s1 v2 hc h => rg_call (q := cvI (s1, v2)) (T_fLog_stages hc) ?_)
  refine rg_step 1 (G' := fun f => if v2 = 0 then evT f 291 29 [oR 0 0, oI a1, oI a2] [] s1 else evT f 291 18 [oR 0 0, oI a1, oI a2] [] s1) (fun _ => rfl) (rg_if h (fun h => ?_) fun h => ?_)
  · exact rg_end 2 (fun _ => rfl) (by cases h; rfl)
  · refine rg_step 4 (G' := fun f => ev_after (evT f 302 0 [oR 0 0, oR 1 0, nn, nn, nn, nn, nn, nn] [] s1) (fun q => evT f 291 26 [oR 0 0, oI a1, oI a2] (q.2 ++ []) q.1)) (fun _ => rfl) (rg_bd2 h fun s3 v4 hc h => rg_call (q := cvI (s3, v4)) (T_fPH_act_1 hc) ?_)
    exact rg_end 2 (fun _ => rfl) (by cases h; rfl)
theorem T_fM_claim {s : ev_M} {a1 : Int32} {a2 : Int32} {q : ev_M × Int32} (h : fM_claim s a1 a2 = some q) : RR 511 0 [oR 549 0, oI a1, oI a2] [] s (cvI q) := by
  refine rg_step 5 (G' := fun f => ev_after (evT f 320 0 [oR 549 0, oI (cI 35), oI a1, oI a2] [] s) (fun q => evT f 511 8 [oR 549 0, oI a1, oI a2] (q.2 ++ []) q.1)) (fun _ => rfl) (rg_bd2 h fun s1 v2 hc h => rg_call (q := cvI (s1, v2)) (T_fM_call2 hc) ?_)
  exact rg_end 1 (fun _ => rfl) (by cases h; rfl)
theorem T_fPH_locker {s : ev_M} {a1 : Int32} {a2 : Int32} {q : ev_M × Int32} (h : fPH_locker s a1 a2 = some q) : RR 292 0 [oR 0 0, oI a1, oI a2] [] s (cvI q) := by
  refine rg_step 10 (G' := fun f => ev_after (evT f 122 0 [oR 9 0, oI (cI 36), oI a1, oI a2, oI (cI 0), oI (cI 0), oI (cI 0), oI (cI 0)] [] s) (fun q => evT f 292 15 [oR 0 0, oI a1, oI a2] (q.2 ++ []) q.1)) (fun _ => rfl) (rg_bd2 h fun s1 v2 hc h => rg_call (q := cvI (s1, v2)) (T_fLog_stages hc) ?_)
  refine rg_step 1 (G' := fun f => if v2 = 0 then evT f 292 29 [oR 0 0, oI a1, oI a2] [] s1 else evT f 292 18 [oR 0 0, oI a1, oI a2] [] s1) (fun _ => rfl) (rg_if h (fun h => ?_) fun h => ?_)
  · exact rg_end 2 (fun _ => rfl) (by cases h; rfl)
  · refine rg_step 4 (G' := fun f => ev_after (evT f 302 0 [oR 0 0, oR 1 0, nn, nn, nn, nn, nn, nn] [] s1) (fun q => evT f 292 26 [oR 0 0, oI a1, oI a2] (q.2 ++ []) q.1)) (fun _ => rfl) (rg_bd2 h fun s3 v4 hc h => rg_call (q := cvI (s3, v4)) (T_fPH_act_1 hc) ?_)
    exact rg_end 2 (fun _ => rfl) (by cases h; rfl)
theorem T_fM_locker {s : ev_M} {a1 : Int32} {a2 : Int32} {q : ev_M × Int32} (h : fM_locker s a1 a2 = some q) : RR 513 0 [oR 549 0, oI a1, oI a2] [] s (cvI q) := by
  refine rg_step 5 (G' := fun f => ev_after (evT f 320 0 [oR 549 0, oI (cI 36), oI a1, oI a2] [] s) (fun q => evT f 513 8 [oR 549 0, oI a1, oI a2] (q.2 ++ []) q.1)) (fun _ => rfl) (rg_bd2 h fun s1 v2 hc h => rg_call (q := cvI (s1, v2)) (T_fM_call2 hc) ?_)
  exact rg_end 1 (fun _ => rfl) (by cases h; rfl)
theorem t_fLock_freeBoxes_b29 {s : ev_M} {k4 : Int32 → Int32 → Int32 → Option Int32} (hk4 : ∀ {x1 : Int32} {x2 : Int32} {x3 : Int32} {q : Int32}, k4 x1 x2 x3 = some q → RR 113 4 [oR 125 0, oI x1, oI x2, oI x3] [] s (cvP s q)) {x1 : Int32} {x2 : Int32} {x3 : Int32} {q : Int32} (h : fLock_freeBoxes_b29 s k4 x1 x2 x3 = some q) : RR 113 29 [oR 125 0, oI x1, oI x2, oI x3] [] s (cvP s q) := by
  exact rg_step 2 (G' := fun f => evT f 113 4 [oR 125 0, oI x1, oI x2, oI (x3 + cI 1)] [] s) (fun _ => rfl) (hk4 h)
theorem ti_fLock_freeBoxes_h4 {s : ev_M} : ∀ (n : Nat) (x1 : Int32) (x2 : Int32) (x3 : Int32) (q : Int32), fLock_freeBoxes_h4 s n x1 x2 x3 = some q → RR 113 4 [oR 125 0, oI x1, oI x2, oI x3] [] s (cvP s q) := by
  intro n
  induction n with
  | zero => intro x1 x2 x3 q h; cases h
  | succ n ih =>
    have hk4 : ∀ {x1 : Int32} {x2 : Int32} {x3 : Int32} {q : Int32}, fLock_freeBoxes_h4 s n x1 x2 x3 = some q → RR 113 4 [oR 125 0, oI x1, oI x2, oI x3] [] s (cvP s q) := fun h => ih _ _ _ _ h
    intro x1 x2 x3 q h
    refine rg_step 5 (G' := fun f => if inb x1 8 = true then evT f 113 11 [oR 125 0, oI x1, oI x2, oI x3] [vI (s.1 127 (ix x1)), vI x3] s else none) (fun _ => rfl) (rg_gd h fun h => ?_)
    refine rg_step 1 (G' := fun f => if x3 < (s.1 127 (ix x1)) then evT f 113 14 [oR 125 0, oI x1, oI x2, oI x3] [] s else evT f 113 35 [oR 125 0, oI x1, oI x2, oI x3] [] s) (fun _ => rfl) (rg_if h (fun h => ?_) fun h => ?_)
    · refine rg_step 4 (G' := fun f => if inb x1 8 = true then evT f 113 20 [oR 125 0, oI x1, oI x2, oI x3] [vR 130 (ix x1)] s else none) (fun _ => rfl) (rg_gd h fun h => ?_)
      refine rg_step 2 (G' := fun f => if inb x3 10 = true then evT f 113 22 [oR 125 0, oI x1, oI x2, oI x3] [vI (s.1 (130 + (ix x1)) (ix x3))] s else none) (fun _ => rfl) (rg_gd h fun h => ?_)
      refine rg_step 2 (G' := fun f => if (s.1 (130 + (ix x1)) (ix x3)) = (cI (-1)) then evT f 113 26 [oR 125 0, oI x1, oI x2, oI x3] [] s else evT f 113 29 [oR 125 0, oI x1, oI x2, oI x3] [] s) (fun _ => rfl) (rg_if h (fun h => ?_) fun h => ?_)
      · exact rg_step 1 (G' := fun f => evT f 113 29 [oR 125 0, oI x1, oI (x2 + cI 1), oI x3] [] s) (fun _ => rfl) ((t_fLock_freeBoxes_b29 hk4) h)
      · exact (t_fLock_freeBoxes_b29 hk4) h
    · exact rg_end 2 (fun _ => rfl) (by cases h; rfl)
theorem t_fLock_freeBoxes_h4 {s : ev_M} {n : Nat} {x1 : Int32} {x2 : Int32} {x3 : Int32} {q : Int32} (h : fLock_freeBoxes_h4 s n x1 x2 x3 = some q) : RR 113 4 [oR 125 0, oI x1, oI x2, oI x3] [] s (cvP s q) := ti_fLock_freeBoxes_h4 n x1 x2 x3 q h
theorem T_fLock_freeBoxes {s : ev_M} {a1 : Int32} {q : Int32} (h : fLock_freeBoxes s a1 = some q) : RR 113 0 [oR 125 0, oI a1, nn, nn] [] s (cvP s q) := by
  exact rg_step 4 (G' := fun f => evT f 113 4 [oR 125 0, oI a1, oI (cI 0), oI (cI 0)] [] s) (fun _ => rfl) ((t_fLock_freeBoxes_h4) h)
theorem T_fLock_tell {s : ev_M} {a1 : Int32} {a2 : Int32} {q : Int32} (h : fLock_tell s a1 a2 = some q) : RR 112 0 [oR 125 0, oI a1, oI a2] [] s (cvP s q) := by
  refine rg_step 2 (G' := fun f => if a2 = cI 0 then evT f 112 32 [oR 125 0, oI a1, oI a2] [] s else if a2 = cI 1 then evT f 112 39 [oR 125 0, oI a1, oI a2] [] s else if a2 = cI 2 then evT f 112 46 [oR 125 0, oI a1, oI a2] [] s else if a2 = cI 3 then evT f 112 52 [oR 125 0, oI a1, oI a2] [] s else evT f 112 59 [oR 125 0, oI a1, oI a2] [] s) (fun _ => rfl) ?_
  refine rg_if h (fun h => ?_) fun h => ?_
  · refine rg_step 4 (G' := fun f => if inb a1 8 = true then evT f 112 38 [oR 125 0, oI a1, oI a2] [vI (s.1 126 (ix a1))] s else none) (fun _ => rfl) (rg_gd h fun h => ?_)
    exact rg_end 1 (fun _ => rfl) (by cases h; rfl)
  refine rg_if h (fun h => ?_) fun h => ?_
  · refine rg_step 4 (G' := fun f => if inb a1 8 = true then evT f 112 45 [oR 125 0, oI a1, oI a2] [vI (s.1 127 (ix a1))] s else none) (fun _ => rfl) (rg_gd h fun h => ?_)
    exact rg_end 1 (fun _ => rfl) (by cases h; rfl)
  refine rg_if h (fun h => ?_) fun h => ?_
  · refine rg_step 3 (G' := fun f => ev_after (evT f 113 0 [oR 125 0, oI a1, nn, nn] [] s) (fun q => evT f 112 51 [oR 125 0, oI a1, oI a2] (q.2 ++ []) q.1)) (fun _ => rfl) (rg_bd1 h fun v1 hc h => rg_call (q := cvP s v1) (T_fLock_freeBoxes hc) ?_)
    exact rg_end 1 (fun _ => rfl) (by cases h; rfl)
  refine rg_if h (fun h => ?_) fun h => ?_
  · refine rg_step 4 (G' := fun f => if inb a1 8 = true then evT f 112 58 [oR 125 0, oI a1, oI a2] [vI (s.1 128 (ix a1))] s else none) (fun _ => rfl) (rg_gd h fun h => ?_)
    exact rg_end 1 (fun _ => rfl) (by cases h; rfl)
  exact rg_end 2 (fun _ => rfl) (by cases h; rfl)
theorem T_fPH_lockerAt {s : ev_M} {a1 : Int32} {a2 : Int32} {q : Int32} (h : fPH_lockerAt s a1 a2 = some q) : RR 293 0 [oR 0 0, oI a1, oI a2] [] s (cvP s q) := by
  refine rg_step 4 (G' := fun f => if (s.1 9 9) = 0 then evT f 293 13 [oR 0 0, oI a1, oI a2] [] s else evT f 293 10 [oR 0 0, oI a1, oI a2] [] s) (fun _ => rfl) (rg_if h (fun h => ?_) fun h => ?_)
  · refine rg_step 4 (G' := fun f => ev_after (evT f 110 0 [oR 125 0, oI a1] [] s) (fun q => evT f 293 21 [oR 0 0, oI a1, oI a2] (q.2 ++ []) q.1)) (fun _ => rfl) (rg_bd1 h fun v1 hc h => rg_call (q := cvP s v1) (T_fLock_has hc) ?_)
    refine rg_step 1 (G' := fun f => if v1 = 0 then evT f 293 36 [oR 0 0, oI a1, oI a2] [] s else evT f 293 24 [oR 0 0, oI a1, oI a2] [] s) (fun _ => rfl) (rg_if h (fun h => ?_) fun h => ?_)
    · exact rg_end 2 (fun _ => rfl) (by cases h; rfl)
    · refine rg_step 5 (G' := fun f => ev_after (evT f 112 0 [oR 125 0, oI a1, oI a2] [] s) (fun q => evT f 293 33 [oR 0 0, oI a1, oI a2] (q.2 ++ []) q.1)) (fun _ => rfl) (rg_bd1 h fun v2 hc h => rg_call (q := cvP s v2) (T_fLock_tell hc) ?_)
      exact rg_end 2 (fun _ => rfl) (by cases h; rfl)
  · exact rg_end 2 (fun _ => rfl) (by cases h; rfl)
theorem t_fM_lockerAt_b60 {k31 : ev_M → Int32 → Int32 → Int32 → Int32 → Option (ev_M × Int32)} (hk31 : ∀ {s : ev_M} {x1 : Int32} {x2 : Int32} {x3 : Int32} {x4 : Int32} {q : ev_M × Int32}, k31 s x1 x2 x3 x4 = some q → RR 514 31 [oR 549 0, oI x1, oI x2, oI x3, oI x4] [] s (cvI q)) {s : ev_M} {x1 : Int32} {x2 : Int32} {x4 : Int32} {y0 : Int32} {j3 : Option ev_V} {q : ev_M × Int32} (h : fM_lockerAt_b60 k31 s x1 x2 x4 y0 = some q) : RR 514 60 [oR 549 0, oI x1, oI x2, j3, oI x4] [vI y0] s (cvI q) := by
  exact rg_step 3 (G' := fun f => evT f 514 31 [oR 549 0, oI x1, oI x2, oI y0, oI (x4 + cI 1)] [] s) (fun _ => rfl) (hk31 h)
theorem ti_fM_lockerAt_h31 : ∀ (n : Nat) (s : ev_M) (x1 : Int32) (x2 : Int32) (x3 : Int32) (x4 : Int32) (q : ev_M × Int32), fM_lockerAt_h31 n s x1 x2 x3 x4 = some q → RR 514 31 [oR 549 0, oI x1, oI x2, oI x3, oI x4] [] s (cvI q) := by
  intro n
  induction n with
  | zero => intro s x1 x2 x3 x4 q h; cases h
  | succ n ih =>
    have hk31 : ∀ {s : ev_M} {x1 : Int32} {x2 : Int32} {x3 : Int32} {x4 : Int32} {q : ev_M × Int32}, fM_lockerAt_h31 n s x1 x2 x3 x4 = some q → RR 514 31 [oR 549 0, oI x1, oI x2, oI x3, oI x4] [] s (cvI q) := fun h => ih _ _ _ _ _ _ h
    intro s x1 x2 x3 x4 q h
    refine rg_step 5 (G' := fun f => if inb x1 8 = true then evT f 514 39 [oR 549 0, oI x1, oI x2, oI x3, oI x4] [vI (s.1 624 (ix x1)), vI x4] s else none) (fun _ => rfl) (rg_gd h fun h => ?_)
    refine rg_step 1 (G' := fun f => if x4 < (s.1 624 (ix x1)) then evT f 514 42 [oR 549 0, oI x1, oI x2, oI x3, oI x4] [] s else evT f 514 67 [oR 549 0, oI x1, oI x2, oI x3, oI x4] [] s) (fun _ => rfl) (rg_if h (fun h => ?_) fun h => ?_)
    · refine rg_step 4 (G' := fun f => ev_after (evT f 484 0 [oR 549 0, oI x1, oI x4, nn, nn] [] s) (fun q => evT f 514 49 [oR 549 0, oI x1, oI x2, oI x3, oI x4] (q.2 ++ []) q.1)) (fun _ => rfl) (rg_bd1 h fun v1 hc h => rg_call (q := cvP s v1) (T_fM_inBox hc) ?_)
      refine rg_step 2 (G' := fun f => if v1 = (cI (-1)) then evT f 514 53 [oR 549 0, oI x1, oI x2, oI x3, oI x4] [] s else evT f 514 59 [oR 549 0, oI x1, oI x2, oI x3, oI x4] [] s) (fun _ => rfl) (rg_if h (fun h => ?_) fun h => ?_)
      · exact rg_step 4 (G' := fun f => evT f 514 60 [oR 549 0, oI x1, oI x2, oI x3, oI x4] [vI (x3 + (cI 1))] s) (fun _ => rfl) ((t_fM_lockerAt_b60 hk31) h)
      · exact rg_step 1 (G' := fun f => evT f 514 60 [oR 549 0, oI x1, oI x2, oI x3, oI x4] [vI x3] s) (fun _ => rfl) ((t_fM_lockerAt_b60 hk31) h)
    · refine rg_step 2 (G' := fun f => if x2 = 0 then evT f 514 71 [oR 549 0, oI x1, oI x2, oI x3, oI x4] [] s else evT f 514 80 [oR 549 0, oI x1, oI x2, oI x3, oI x4] [] s) (fun _ => rfl) (rg_if h (fun h => ?_) fun h => ?_)
      · refine rg_step 4 (G' := fun f => if inb x1 8 = true then evT f 514 77 [oR 549 0, oI x1, oI x2, oI x3, oI x4] [vI (s.1 623 (ix x1))] s else none) (fun _ => rfl) (rg_gd h fun h => ?_)
        exact rg_end 2 (fun _ => rfl) (by cases h; rfl)
      · refine rg_step 3 (G' := fun f => if x2 = (cI 1) then evT f 514 85 [oR 549 0, oI x1, oI x2, oI x3, oI x4] [] s else evT f 514 94 [oR 549 0, oI x1, oI x2, oI x3, oI x4] [] s) (fun _ => rfl) (rg_if h (fun h => ?_) fun h => ?_)
        · refine rg_step 4 (G' := fun f => if inb x1 8 = true then evT f 514 91 [oR 549 0, oI x1, oI x2, oI x3, oI x4] [vI (s.1 624 (ix x1))] s else none) (fun _ => rfl) (rg_gd h fun h => ?_)
          exact rg_end 2 (fun _ => rfl) (by cases h; rfl)
        · refine rg_step 3 (G' := fun f => if x2 = (cI 2) then evT f 514 99 [oR 549 0, oI x1, oI x2, oI x3, oI x4] [] s else evT f 514 103 [oR 549 0, oI x1, oI x2, oI x3, oI x4] [] s) (fun _ => rfl) (rg_if h (fun h => ?_) fun h => ?_)
          · exact rg_end 3 (fun _ => rfl) (by cases h; rfl)
          · refine rg_step 3 (G' := fun f => if x2 = (cI 3) then evT f 514 108 [oR 549 0, oI x1, oI x2, oI x3, oI x4] [] s else evT f 514 117 [oR 549 0, oI x1, oI x2, oI x3, oI x4] [] s) (fun _ => rfl) (rg_if h (fun h => ?_) fun h => ?_)
            · refine rg_step 4 (G' := fun f => if inb x1 8 = true then evT f 514 114 [oR 549 0, oI x1, oI x2, oI x3, oI x4] [vI (s.1 625 (ix x1))] s else none) (fun _ => rfl) (rg_gd h fun h => ?_)
              exact rg_end 2 (fun _ => rfl) (by cases h; rfl)
            · exact rg_end 2 (fun _ => rfl) (by cases h; rfl)
theorem t_fM_lockerAt_h31 {n : Nat} {s : ev_M} {x1 : Int32} {x2 : Int32} {x3 : Int32} {x4 : Int32} {q : ev_M × Int32} (h : fM_lockerAt_h31 n s x1 x2 x3 x4 = some q) : RR 514 31 [oR 549 0, oI x1, oI x2, oI x3, oI x4] [] s (cvI q) := ti_fM_lockerAt_h31 n s x1 x2 x3 x4 q h
theorem T_fM_lockerAt {s : ev_M} {a1 : Int32} {a2 : Int32} {q : ev_M × Int32} (h : fM_lockerAt s a1 a2 = some q) : RR 514 0 [oR 549 0, oI a1, oI a2, nn, nn] [] s (cvI q) := by
  refine rg_step 3 (G' := fun f => evT f 514 5 [oR 549 0, oI a1, oI a2, nn, nn] [] (wI s 549 0 (cI 0))) (fun _ => rfl) (rg_ltM h fun s2 h => ?_)
  refine rg_step 3 (G' := fun f => if (s2.1 549 5) = 0 then evT f 514 15 [oR 549 0, oI a1, oI a2, nn, nn] [] s2 else evT f 514 12 [oR 549 0, oI a1, oI a2, nn, nn] [] s2) (fun _ => rfl) (rg_if h (fun h => ?_) fun h => ?_)
  · refine rg_step 3 (G' := fun f => ev_after (evT f 346 0 [oR 549 0, oI a1] [] s2) (fun q => evT f 514 20 [oR 549 0, oI a1, oI a2, nn, nn] (q.2 ++ []) q.1)) (fun _ => rfl) (rg_bd1 h fun v3 hc h => rg_call (q := cvP s2 v3) (T_fM_isLocker hc) ?_)
    refine rg_step 1 (G' := fun f => if v3 = 0 then evT f 514 23 [oR 549 0, oI a1, oI a2, nn, nn] [] s2 else evT f 514 26 [oR 549 0, oI a1, oI a2, nn, nn] [] s2) (fun _ => rfl) (rg_if h (fun h => ?_) fun h => ?_)
    · exact rg_end 2 (fun _ => rfl) (by cases h; rfl)
    · exact rg_step 4 (G' := fun f => evT f 514 31 [oR 549 0, oI a1, oI a2, oI (cI 0), oI (cI 0)] [] s2) (fun _ => rfl) ((t_fM_lockerAt_h31) h)
  · exact rg_end 2 (fun _ => rfl) (by cases h; rfl)
theorem T_fPH_device {s : ev_M} {a1 : Int32} {a2 : Int32} {q : ev_M × Int32} (h : fPH_device s a1 a2 = some q) : RR 294 0 [oR 0 0, oI a1, oI a2] [] s (cvI q) := by
  refine rg_step 10 (G' := fun f => ev_after (evT f 122 0 [oR 9 0, oI (cI 37), oI a1, oI a2, oI (cI 0), oI (cI 0), oI (cI 0), oI (cI 0)] [] s) (fun q => evT f 294 15 [oR 0 0, oI a1, oI a2] (q.2 ++ []) q.1)) (fun _ => rfl) (rg_bd2 h fun s1 v2 hc h => rg_call (q := cvI (s1, v2)) (T_fLog_stages hc) ?_)
  refine rg_step 1 (G' := fun f => if v2 = 0 then evT f 294 29 [oR 0 0, oI a1, oI a2] [] s1 else evT f 294 18 [oR 0 0, oI a1, oI a2] [] s1) (fun _ => rfl) (rg_if h (fun h => ?_) fun h => ?_)
  · exact rg_end 2 (fun _ => rfl) (by cases h; rfl)
  · refine rg_step 4 (G' := fun f => ev_after (evT f 302 0 [oR 0 0, oR 1 0, nn, nn, nn, nn, nn, nn] [] s1) (fun q => evT f 294 26 [oR 0 0, oI a1, oI a2] (q.2 ++ []) q.1)) (fun _ => rfl) (rg_bd2 h fun s3 v4 hc h => rg_call (q := cvI (s3, v4)) (T_fPH_act_1 hc) ?_)
    exact rg_end 2 (fun _ => rfl) (by cases h; rfl)
theorem T_fM_device {s : ev_M} {a1 : Int32} {a2 : Int32} {q : ev_M × Int32} (h : fM_device s a1 a2 = some q) : RR 516 0 [oR 549 0, oI a1, oI a2] [] s (cvI q) := by
  refine rg_step 5 (G' := fun f => ev_after (evT f 320 0 [oR 549 0, oI (cI 37), oI a1, oI a2] [] s) (fun q => evT f 516 8 [oR 549 0, oI a1, oI a2] (q.2 ++ []) q.1)) (fun _ => rfl) (rg_bd2 h fun s1 v2 hc h => rg_call (q := cvI (s1, v2)) (T_fM_call2 hc) ?_)
  exact rg_end 1 (fun _ => rfl) (by cases h; rfl)
theorem T_fPH_scanned {s : ev_M} {a1 : Int32} {a2 : Int32} {a3 : Int32} {a4 : Int32} {q : ev_M × Int32} (h : fPH_scanned s a1 a2 a3 a4 = some q) : RR 295 0 [oR 0 0, oI a1, oI a2, oI a3, oI a4] [] s (cvI q) := by
  refine rg_step 10 (G' := fun f => ev_after (evT f 122 0 [oR 9 0, oI (cI 38), oI a1, oI a2, oI a3, oI a4, oI (cI 0), oI (cI 0)] [] s) (fun q => evT f 295 16 [oR 0 0, oI a1, oI a2, oI a3, oI a4] (q.2 ++ []) q.1)) (fun _ => rfl) (rg_bd2 h fun s1 v2 hc h => rg_call (q := cvI (s1, v2)) (T_fLog_stages hc) ?_)
  refine rg_step 1 (G' := fun f => if v2 = 0 then evT f 295 30 [oR 0 0, oI a1, oI a2, oI a3, oI a4] [] s1 else evT f 295 19 [oR 0 0, oI a1, oI a2, oI a3, oI a4] [] s1) (fun _ => rfl) (rg_if h (fun h => ?_) fun h => ?_)
  · exact rg_end 2 (fun _ => rfl) (by cases h; rfl)
  · refine rg_step 4 (G' := fun f => ev_after (evT f 302 0 [oR 0 0, oR 1 0, nn, nn, nn, nn, nn, nn] [] s1) (fun q => evT f 295 27 [oR 0 0, oI a1, oI a2, oI a3, oI a4] (q.2 ++ []) q.1)) (fun _ => rfl) (rg_bd2 h fun s3 v4 hc h => rg_call (q := cvI (s3, v4)) (T_fPH_act_1 hc) ?_)
    exact rg_end 2 (fun _ => rfl) (by cases h; rfl)
theorem T_fM_scanned {s : ev_M} {a1 : Int32} {a2 : Int32} {a3 : Int32} {a4 : Int32} {q : ev_M × Int32} (h : fM_scanned s a1 a2 a3 a4 = some q) : RR 518 0 [oR 549 0, oI a1, oI a2, oI a3, oI a4] [] s (cvI q) := by
  refine rg_step 7 (G' := fun f => ev_after (evT f 322 0 [oR 549 0, oI (cI 38), oI a1, oI a2, oI a3, oI a4] [] s) (fun q => evT f 518 11 [oR 549 0, oI a1, oI a2, oI a3, oI a4] (q.2 ++ []) q.1)) (fun _ => rfl) (rg_bd2 h fun s1 v2 hc h => rg_call (q := cvI (s1, v2)) (T_fM_call4 hc) ?_)
  exact rg_end 1 (fun _ => rfl) (by cases h; rfl)
theorem t_fChron_tellEvent_b56 {s : ev_M} {x3 : Int32} {x4 : Int32} {j1 : Option ev_V} {j2 : Option ev_V} {j5 : Option ev_V} {q : Int32} (h : fChron_tellEvent_b56 s x3 x4 = some q) : RR 44 56 [oR 15 0, j1, j2, oI x3, oI x4, j5] [] s (cvP s q) := by
  refine rg_step 3 (G' := fun f => if x4 = (cI (-1)) then evT f 44 62 [oR 15 0, nn, nn, oI x3, oI x4, nn] [] s else evT f 44 66 [oR 15 0, nn, nn, oI x3, oI x4, nn] [] s) (fun _ => rfl) (rg_if h (fun h => ?_) fun h => ?_)
  · exact rg_end 3 (fun _ => rfl) (by cases h; rfl)
  · refine rg_step 4 (G' := fun f => if inb x3 3 = true then evT f 44 72 [oR 15 0, nn, nn, oI x3, oI x4, nn] [vR 17 (ix x3)] s else none) (fun _ => rfl) (rg_gd h fun h => ?_)
    refine rg_step 2 (G' := fun f => if inb x4 5000 = true then evT f 44 75 [oR 15 0, nn, nn, oI x3, oI x4, nn] [vI (s.1 (17 + (ix x3)) (ix x4))] s else none) (fun _ => rfl) (rg_gd h fun h => ?_)
    exact rg_end 1 (fun _ => rfl) (by cases h; rfl)
theorem ti_fChron_tellEvent_h29 {s : ev_M} : ∀ (n : Nat) (x2 : Int32) (x3 : Int32) (x4 : Int32) (x5 : Int32) (j1 : Option ev_V) (q : Int32), fChron_tellEvent_h29 s n x2 x3 x4 x5 = some q → RR 44 29 [oR 15 0, j1, oI x2, oI x3, oI x4, oI x5] [] s (cvP s q) := by
  intro n
  induction n with
  | zero => intro x2 x3 x4 x5 j1 q h; cases h
  | succ n ih =>
    have hk29 : ∀ {x2 : Int32} {x3 : Int32} {x4 : Int32} {x5 : Int32} {j1 : Option ev_V} {q : Int32}, fChron_tellEvent_h29 s n x2 x3 x4 x5 = some q → RR 44 29 [oR 15 0, j1, oI x2, oI x3, oI x4, oI x5] [] s (cvP s q) := fun h => ih _ _ _ _ _ _ h
    intro x2 x3 x4 x5 j1 q h
    refine rg_step 3 (G' := fun f => if x5 < x2 then evT f 44 35 [oR 15 0, nn, oI x2, oI x3, oI x4, oI x5] [] s else evT f 44 56 [oR 15 0, nn, oI x2, oI x3, oI x4, oI x5] [] s) (fun _ => rfl) (rg_if h (fun h => ?_) fun h => ?_)
    · refine rg_step 3 (G' := fun f => if x4 = (cI (-1)) then evT f 44 56 [oR 15 0, nn, oI x2, oI x3, oI x4, oI x5] [] s else evT f 44 41 [oR 15 0, nn, oI x2, oI x3, oI x4, oI x5] [] s) (fun _ => rfl) (rg_if h (fun h => ?_) fun h => ?_)
      · exact (t_fChron_tellEvent_b56) h
      · refine rg_step 4 (G' := fun f => if inb x4 5000 = true then evT f 44 48 [oR 15 0, nn, oI x2, oI x3, oI x4, oI x5] [vI (s.1 22 (ix x4))] s else none) (fun _ => rfl) (rg_gd h fun h => ?_)
        refine rg_step 1 (G' := fun f => evT f 44 50 [oR 15 0, nn, oI x2, oI x3, oI (s.1 22 (ix x4)), oI x5] [] s) (fun _ => rfl) (rg_ltI (P := fun v1 => RG (fun f => evT f 44 50 [oR 15 0, nn, oI x2, oI x3, oI v1, oI x5] [] s) (cvP s q)) h fun v1 h => ?_)
        exact rg_step 2 (G' := fun f => evT f 44 29 [oR 15 0, nn, oI x2, oI x3, oI v1, oI (x5 + cI 1)] [] s) (fun _ => rfl) (hk29 h)
    · exact (t_fChron_tellEvent_b56) h
theorem t_fChron_tellEvent_h29 {s : ev_M} {n : Nat} {x2 : Int32} {x3 : Int32} {x4 : Int32} {x5 : Int32} {j1 : Option ev_V} {q : Int32} (h : fChron_tellEvent_h29 s n x2 x3 x4 x5 = some q) : RR 44 29 [oR 15 0, j1, oI x2, oI x3, oI x4, oI x5] [] s (cvP s q) := ti_fChron_tellEvent_h29 n x2 x3 x4 x5 j1 q h
theorem T_fChron_tellEvent {s : ev_M} {a1 : Int32} {a2 : Int32} {a3 : Int32} {q : Int32} (h : fChron_tellEvent s a1 a2 a3 = some q) : RR 44 0 [oR 15 0, oI a1, oI a2, oI a3, nn, nn] [] s (cvP s q) := by
  refine rg_step 4 (G' := fun f => ev_after (evT f 308 0 [oI a3, oI (cI 0), oI (cI 2)] [] s) (fun q => evT f 44 6 [oR 15 0, oI a1, oI a2, oI a3, nn, nn] (q.2 ++ []) q.1)) (fun _ => rfl) (rg_bd1 h fun v2 hc h => rg_call (q := cvP s v2) (T_fPH_outside hc) ?_)
  refine rg_step 1 (G' := fun f => if v2 = 0 then evT f 44 12 [oR 15 0, oI a1, oI a2, oI a3, nn, nn] [] s else evT f 44 9 [oR 15 0, oI a1, oI a2, oI a3, nn, nn] [] s) (fun _ => rfl) (rg_if h (fun h => ?_) fun h => ?_)
  · refine rg_step 2 (G' := fun f => if a2 < 0 then evT f 44 16 [oR 15 0, oI a1, oI a2, oI a3, nn, nn] [] s else evT f 44 18 [oR 15 0, oI a1, oI a2, oI a3, nn, nn] [] s) (fun _ => rfl) (rg_if h (fun h => ?_) fun h => ?_)
    · exact rg_end 2 (fun _ => rfl) (by cases h; rfl)
    · refine rg_step 4 (G' := fun f => if inb a1 300 = true then evT f 44 24 [oR 15 0, oI a1, oI a2, oI a3, nn, nn] [vI (s.1 20 (ix a1))] s else none) (fun _ => rfl) (rg_gd h fun h => ?_)
      refine rg_step 1 (G' := fun f => evT f 44 26 [oR 15 0, oI a1, oI a2, oI a3, oI (s.1 20 (ix a1)), nn] [] s) (fun _ => rfl) (rg_ltI (P := fun v3 => RG (fun f => evT f 44 26 [oR 15 0, oI a1, oI a2, oI a3, oI v3, nn] [] s) (cvP s q)) h fun v3 h => ?_)
      exact rg_step 2 (G' := fun f => evT f 44 29 [oR 15 0, oI a1, oI a2, oI a3, oI v3, oI (cI 0)] [] s) (fun _ => rfl) ((t_fChron_tellEvent_h29) h)
  · exact rg_end 2 (fun _ => rfl) (by cases h; rfl)
theorem T_fPH_trace {s : ev_M} {a1 : Int32} {a2 : Int32} {a3 : Int32} {q : Int32} (h : fPH_trace s a1 a2 a3 = some q) : RR 296 0 [oR 0 0, oI a1, oI a2, oI a3] [] s (cvP s q) := by
  refine rg_step 4 (G' := fun f => if (s.1 9 9) = 0 then evT f 296 13 [oR 0 0, oI a1, oI a2, oI a3] [] s else evT f 296 10 [oR 0 0, oI a1, oI a2, oI a3] [] s) (fun _ => rfl) (rg_if h (fun h => ?_) fun h => ?_)
  · refine rg_step 4 (G' := fun f => ev_after (evT f 51 0 [oR 100 0, oI a1] [] s) (fun q => evT f 296 21 [oR 0 0, oI a1, oI a2, oI a3] (q.2 ++ []) q.1)) (fun _ => rfl) (rg_bd1 h fun v1 hc h => rg_call (q := cvP s v1) (T_fItems_has hc) ?_)
    refine rg_step 1 (G' := fun f => if v1 = 0 then evT f 296 37 [oR 0 0, oI a1, oI a2, oI a3] [] s else evT f 296 24 [oR 0 0, oI a1, oI a2, oI a3] [] s) (fun _ => rfl) (rg_if h (fun h => ?_) fun h => ?_)
    · exact rg_end 2 (fun _ => rfl) (by cases h; rfl)
    · refine rg_step 6 (G' := fun f => ev_after (evT f 44 0 [oR 15 0, oI a1, oI a2, oI a3, nn, nn] [] s) (fun q => evT f 296 34 [oR 0 0, oI a1, oI a2, oI a3] (q.2 ++ []) q.1)) (fun _ => rfl) (rg_bd1 h fun v2 hc h => rg_call (q := cvP s v2) (T_fChron_tellEvent hc) ?_)
      exact rg_end 2 (fun _ => rfl) (by cases h; rfl)
  · exact rg_end 2 (fun _ => rfl) (by cases h; rfl)
theorem t_fM_trace_b192 {k66 : ev_M → Int32 → Int32 → Int32 → Int32 → Int32 → Int32 → Option (ev_M × Int32)} {k85 : ev_M → Int32 → Int32 → Int32 → Int32 → Int32 → Int32 → Int32 → Int32 → Option (ev_M × Int32)} (hk66 : ∀ {s : ev_M} {x1 : Int32} {x2 : Int32} {x3 : Int32} {x4 : Int32} {x5 : Int32} {x6 : Int32} {j7 : Option ev_V} {j8 : Option ev_V} {j9 : Option ev_V} {q : ev_M × Int32}, k66 s x1 x2 x3 x4 x5 x6 = some q → RR 519 66 [oR 549 0, oI x1, oI x2, oI x3, oI x4, oI x5, oI x6, j7, j8, j9] [] s (cvI q)) (hk85 : ∀ {s : ev_M} {x1 : Int32} {x2 : Int32} {x3 : Int32} {x4 : Int32} {x5 : Int32} {x6 : Int32} {x7 : Int32} {x8 : Int32} {j9 : Option ev_V} {q : ev_M × Int32}, k85 s x1 x2 x3 x4 x5 x6 x7 x8 = some q → RR 519 85 [oR 549 0, oI x1, oI x2, oI x3, oI x4, oI x5, oI x6, oI x7, oI x8, j9] [] s (cvI q)) {s : ev_M} {x1 : Int32} {x2 : Int32} {x3 : Int32} {x4 : Int32} {x5 : Int32} {x6 : Int32} {x8 : Int32} {y0 : Int32} {j7 : Option ev_V} {j9 : Option ev_V} {q : ev_M × Int32} (h : fM_trace_b192 k66 k85 s x1 x2 x3 x4 x5 x6 x8 y0 = some q) : RR 519 192 [oR 549 0, oI x1, oI x2, oI x3, oI x4, oI x5, oI x6, j7, oI x8, j9] [vI y0] s (cvI q) := by
  exact rg_step 3 (G' := fun f => evT f 519 85 [oR 549 0, oI x1, oI x2, oI x3, oI x4, oI x5, oI x6, oI y0, oI (x8 + cI 1), nn] [] s) (fun _ => rfl) (hk85 h)
theorem t_fM_trace_b185 {k66 : ev_M → Int32 → Int32 → Int32 → Int32 → Int32 → Int32 → Option (ev_M × Int32)} {k85 : ev_M → Int32 → Int32 → Int32 → Int32 → Int32 → Int32 → Int32 → Int32 → Option (ev_M × Int32)} (hk66 : ∀ {s : ev_M} {x1 : Int32} {x2 : Int32} {x3 : Int32} {x4 : Int32} {x5 : Int32} {x6 : Int32} {j7 : Option ev_V} {j8 : Option ev_V} {j9 : Option ev_V} {q : ev_M × Int32}, k66 s x1 x2 x3 x4 x5 x6 = some q → RR 519 66 [oR 549 0, oI x1, oI x2, oI x3, oI x4, oI x5, oI x6, j7, j8, j9] [] s (cvI q)) (hk85 : ∀ {s : ev_M} {x1 : Int32} {x2 : Int32} {x3 : Int32} {x4 : Int32} {x5 : Int32} {x6 : Int32} {x7 : Int32} {x8 : Int32} {j9 : Option ev_V} {q : ev_M × Int32}, k85 s x1 x2 x3 x4 x5 x6 x7 x8 = some q → RR 519 85 [oR 549 0, oI x1, oI x2, oI x3, oI x4, oI x5, oI x6, oI x7, oI x8, j9] [] s (cvI q)) {s : ev_M} {x1 : Int32} {x2 : Int32} {x3 : Int32} {x4 : Int32} {x5 : Int32} {x6 : Int32} {x8 : Int32} {j7 : Option ev_V} {j9 : Option ev_V} {q : ev_M × Int32} (h : fM_trace_b185 k66 k85 s x1 x2 x3 x4 x5 x6 x8 = some q) : RR 519 185 [oR 549 0, oI x1, oI x2, oI x3, oI x4, oI x5, oI x6, j7, oI x8, j9] [] s (cvI q) := by
  exact rg_step 2 (G' := fun f => evT f 519 192 [oR 549 0, oI x1, oI x2, oI x3, oI x4, oI x5, oI x6, nn, oI x8, nn] [vI x8] s) (fun _ => rfl) ((t_fM_trace_b192 hk66 hk85) h)
theorem t_fM_trace_b190 {k66 : ev_M → Int32 → Int32 → Int32 → Int32 → Int32 → Int32 → Option (ev_M × Int32)} {k85 : ev_M → Int32 → Int32 → Int32 → Int32 → Int32 → Int32 → Int32 → Int32 → Option (ev_M × Int32)} (hk66 : ∀ {s : ev_M} {x1 : Int32} {x2 : Int32} {x3 : Int32} {x4 : Int32} {x5 : Int32} {x6 : Int32} {j7 : Option ev_V} {j8 : Option ev_V} {j9 : Option ev_V} {q : ev_M × Int32}, k66 s x1 x2 x3 x4 x5 x6 = some q → RR 519 66 [oR 549 0, oI x1, oI x2, oI x3, oI x4, oI x5, oI x6, j7, j8, j9] [] s (cvI q)) (hk85 : ∀ {s : ev_M} {x1 : Int32} {x2 : Int32} {x3 : Int32} {x4 : Int32} {x5 : Int32} {x6 : Int32} {x7 : Int32} {x8 : Int32} {j9 : Option ev_V} {q : ev_M × Int32}, k85 s x1 x2 x3 x4 x5 x6 x7 x8 = some q → RR 519 85 [oR 549 0, oI x1, oI x2, oI x3, oI x4, oI x5, oI x6, oI x7, oI x8, j9] [] s (cvI q)) {s : ev_M} {x1 : Int32} {x2 : Int32} {x3 : Int32} {x4 : Int32} {x5 : Int32} {x6 : Int32} {x7 : Int32} {x8 : Int32} {j9 : Option ev_V} {q : ev_M × Int32} (h : fM_trace_b190 k66 k85 s x1 x2 x3 x4 x5 x6 x7 x8 = some q) : RR 519 190 [oR 549 0, oI x1, oI x2, oI x3, oI x4, oI x5, oI x6, oI x7, oI x8, j9] [] s (cvI q) := by
  exact rg_step 1 (G' := fun f => evT f 519 192 [oR 549 0, oI x1, oI x2, oI x3, oI x4, oI x5, oI x6, oI x7, oI x8, nn] [vI x7] s) (fun _ => rfl) ((t_fM_trace_b192 hk66 hk85) h)
theorem t_fM_trace_b155 {k66 : ev_M → Int32 → Int32 → Int32 → Int32 → Int32 → Int32 → Option (ev_M × Int32)} {k85 : ev_M → Int32 → Int32 → Int32 → Int32 → Int32 → Int32 → Int32 → Int32 → Option (ev_M × Int32)} (hk66 : ∀ {s : ev_M} {x1 : Int32} {x2 : Int32} {x3 : Int32} {x4 : Int32} {x5 : Int32} {x6 : Int32} {j7 : Option ev_V} {j8 : Option ev_V} {j9 : Option ev_V} {q : ev_M × Int32}, k66 s x1 x2 x3 x4 x5 x6 = some q → RR 519 66 [oR 549 0, oI x1, oI x2, oI x3, oI x4, oI x5, oI x6, j7, j8, j9] [] s (cvI q)) (hk85 : ∀ {s : ev_M} {x1 : Int32} {x2 : Int32} {x3 : Int32} {x4 : Int32} {x5 : Int32} {x6 : Int32} {x7 : Int32} {x8 : Int32} {j9 : Option ev_V} {q : ev_M × Int32}, k85 s x1 x2 x3 x4 x5 x6 x7 x8 = some q → RR 519 85 [oR 549 0, oI x1, oI x2, oI x3, oI x4, oI x5, oI x6, oI x7, oI x8, j9] [] s (cvI q)) {s : ev_M} {x1 : Int32} {x2 : Int32} {x3 : Int32} {x4 : Int32} {x5 : Int32} {x6 : Int32} {x7 : Int32} {x8 : Int32} {y0 : Int32} {j9 : Option ev_V} {q : ev_M × Int32} (h : fM_trace_b155 k66 k85 s x1 x2 x3 x4 x5 x6 x7 x8 y0 = some q) : RR 519 155 [oR 549 0, oI x1, oI x2, oI x3, oI x4, oI x5, oI x6, oI x7, oI x8, j9] [vI y0] s (cvI q) := by
  refine rg_step 3 (G' := fun f => if y0 = 0 then evT f 519 190 [oR 549 0, oI x1, oI x2, oI x3, oI x4, oI x5, oI x6, oI x7, oI x8, oI y0] [] s else evT f 519 162 [oR 549 0, oI x1, oI x2, oI x3, oI x4, oI x5, oI x6, oI x7, oI x8, oI y0] [] s) (fun _ => rfl) (rg_if h (fun h => ?_) fun h => ?_)
  · exact (t_fM_trace_b190 hk66 hk85) h
  · refine rg_step 3 (G' := fun f => if x7 = (cI (-1)) then evT f 519 185 [oR 549 0, oI x1, oI x2, oI x3, oI x4, oI x5, oI x6, oI x7, oI x8, oI y0] [] s else evT f 519 168 [oR 549 0, oI x1, oI x2, oI x3, oI x4, oI x5, oI x6, oI x7, oI x8, oI y0] [] s) (fun _ => rfl) (rg_if h (fun h => ?_) fun h => ?_)
    · exact (t_fM_trace_b185 hk66 hk85) h
    · refine rg_step 4 (G' := fun f => if inb x8 5000 = true then evT f 519 175 [oR 549 0, oI x1, oI x2, oI x3, oI x4, oI x5, oI x6, oI x7, oI x8, oI y0] [vI (s.1 643 (ix x8))] s else none) (fun _ => rfl) (rg_gd h fun h => ?_)
      refine rg_step 4 (G' := fun f => if inb x7 5000 = true then evT f 519 182 [oR 549 0, oI x1, oI x2, oI x3, oI x4, oI x5, oI x6, oI x7, oI x8, oI y0] [vI (s.1 643 (ix x7)), vI (s.1 643 (ix x8))] s else none) (fun _ => rfl) (rg_gd h fun h => ?_)
      refine rg_step 1 (G' := fun f => if (s.1 643 (ix x8)) < (s.1 643 (ix x7)) then evT f 519 185 [oR 549 0, oI x1, oI x2, oI x3, oI x4, oI x5, oI x6, oI x7, oI x8, oI y0] [] s else evT f 519 190 [oR 549 0, oI x1, oI x2, oI x3, oI x4, oI x5, oI x6, oI x7, oI x8, oI y0] [] s) (fun _ => rfl) (rg_if h (fun h => ?_) fun h => ?_)
      · exact (t_fM_trace_b185 hk66 hk85) h
      · exact (t_fM_trace_b190 hk66 hk85) h
theorem t_fM_trace_b150 {k66 : ev_M → Int32 → Int32 → Int32 → Int32 → Int32 → Int32 → Option (ev_M × Int32)} {k85 : ev_M → Int32 → Int32 → Int32 → Int32 → Int32 → Int32 → Int32 → Int32 → Option (ev_M × Int32)} (hk66 : ∀ {s : ev_M} {x1 : Int32} {x2 : Int32} {x3 : Int32} {x4 : Int32} {x5 : Int32} {x6 : Int32} {j7 : Option ev_V} {j8 : Option ev_V} {j9 : Option ev_V} {q : ev_M × Int32}, k66 s x1 x2 x3 x4 x5 x6 = some q → RR 519 66 [oR 549 0, oI x1, oI x2, oI x3, oI x4, oI x5, oI x6, j7, j8, j9] [] s (cvI q)) (hk85 : ∀ {s : ev_M} {x1 : Int32} {x2 : Int32} {x3 : Int32} {x4 : Int32} {x5 : Int32} {x6 : Int32} {x7 : Int32} {x8 : Int32} {j9 : Option ev_V} {q : ev_M × Int32}, k85 s x1 x2 x3 x4 x5 x6 x7 x8 = some q → RR 519 85 [oR 549 0, oI x1, oI x2, oI x3, oI x4, oI x5, oI x6, oI x7, oI x8, j9] [] s (cvI q)) {s : ev_M} {x1 : Int32} {x2 : Int32} {x3 : Int32} {x4 : Int32} {x5 : Int32} {x6 : Int32} {x7 : Int32} {x8 : Int32} {j9 : Option ev_V} {q : ev_M × Int32} (h : fM_trace_b150 k66 k85 s x1 x2 x3 x4 x5 x6 x7 x8 = some q) : RR 519 150 [oR 549 0, oI x1, oI x2, oI x3, oI x4, oI x5, oI x6, oI x7, oI x8, j9] [] s (cvI q) := by
  exact rg_step 2 (G' := fun f => evT f 519 155 [oR 549 0, oI x1, oI x2, oI x3, oI x4, oI x5, oI x6, oI x7, oI x8, nn] [vI (cI 1)] s) (fun _ => rfl) ((t_fM_trace_b155 hk66 hk85) h)
theorem t_fM_trace_b154 {k66 : ev_M → Int32 → Int32 → Int32 → Int32 → Int32 → Int32 → Option (ev_M × Int32)} {k85 : ev_M → Int32 → Int32 → Int32 → Int32 → Int32 → Int32 → Int32 → Int32 → Option (ev_M × Int32)} (hk66 : ∀ {s : ev_M} {x1 : Int32} {x2 : Int32} {x3 : Int32} {x4 : Int32} {x5 : Int32} {x6 : Int32} {j7 : Option ev_V} {j8 : Option ev_V} {j9 : Option ev_V} {q : ev_M × Int32}, k66 s x1 x2 x3 x4 x5 x6 = some q → RR 519 66 [oR 549 0, oI x1, oI x2, oI x3, oI x4, oI x5, oI x6, j7, j8, j9] [] s (cvI q)) (hk85 : ∀ {s : ev_M} {x1 : Int32} {x2 : Int32} {x3 : Int32} {x4 : Int32} {x5 : Int32} {x6 : Int32} {x7 : Int32} {x8 : Int32} {j9 : Option ev_V} {q : ev_M × Int32}, k85 s x1 x2 x3 x4 x5 x6 x7 x8 = some q → RR 519 85 [oR 549 0, oI x1, oI x2, oI x3, oI x4, oI x5, oI x6, oI x7, oI x8, j9] [] s (cvI q)) {s : ev_M} {x1 : Int32} {x2 : Int32} {x3 : Int32} {x4 : Int32} {x5 : Int32} {x6 : Int32} {x7 : Int32} {x8 : Int32} {j9 : Option ev_V} {q : ev_M × Int32} (h : fM_trace_b154 k66 k85 s x1 x2 x3 x4 x5 x6 x7 x8 = some q) : RR 519 154 [oR 549 0, oI x1, oI x2, oI x3, oI x4, oI x5, oI x6, oI x7, oI x8, j9] [] s (cvI q) := by
  exact rg_step 1 (G' := fun f => evT f 519 155 [oR 549 0, oI x1, oI x2, oI x3, oI x4, oI x5, oI x6, oI x7, oI x8, nn] [vI (cI 0)] s) (fun _ => rfl) ((t_fM_trace_b155 hk66 hk85) h)
theorem ti_fM_trace_h85 {k66 : ev_M → Int32 → Int32 → Int32 → Int32 → Int32 → Int32 → Option (ev_M × Int32)} (hk66 : ∀ {s : ev_M} {x1 : Int32} {x2 : Int32} {x3 : Int32} {x4 : Int32} {x5 : Int32} {x6 : Int32} {j7 : Option ev_V} {j8 : Option ev_V} {j9 : Option ev_V} {q : ev_M × Int32}, k66 s x1 x2 x3 x4 x5 x6 = some q → RR 519 66 [oR 549 0, oI x1, oI x2, oI x3, oI x4, oI x5, oI x6, j7, j8, j9] [] s (cvI q)) : ∀ (n : Nat) (s : ev_M) (x1 : Int32) (x2 : Int32) (x3 : Int32) (x4 : Int32) (x5 : Int32) (x6 : Int32) (x7 : Int32) (x8 : Int32) (j9 : Option ev_V) (q : ev_M × Int32), fM_trace_h85 k66 n s x1 x2 x3 x4 x5 x6 x7 x8 = some q → RR 519 85 [oR 549 0, oI x1, oI x2, oI x3, oI x4, oI x5, oI x6, oI x7, oI x8, j9] [] s (cvI q) := by
  intro n
  induction n with
  | zero => intro s x1 x2 x3 x4 x5 x6 x7 x8 j9 q h; cases h
  | succ n ih =>
    have hk85 : ∀ {s : ev_M} {x1 : Int32} {x2 : Int32} {x3 : Int32} {x4 : Int32} {x5 : Int32} {x6 : Int32} {x7 : Int32} {x8 : Int32} {j9 : Option ev_V} {q : ev_M × Int32}, fM_trace_h85 k66 n s x1 x2 x3 x4 x5 x6 x7 x8 = some q → RR 519 85 [oR 549 0, oI x1, oI x2, oI x3, oI x4, oI x5, oI x6, oI x7, oI x8, j9] [] s (cvI q) := fun h => ih _ _ _ _ _ _ _ _ _ _ _ h
    intro s x1 x2 x3 x4 x5 x6 x7 x8 j9 q h
    refine rg_step 3 (G' := fun f => if x8 < x4 then evT f 519 92 [oR 549 0, oI x1, oI x2, oI x3, oI x4, oI x5, oI x6, oI x7, oI x8, nn] [] s else evT f 519 200 [oR 549 0, oI x1, oI x2, oI x3, oI x4, oI x5, oI x6, oI x7, oI x8, nn] [] s) (fun _ => rfl) (rg_if h (fun h => ?_) fun h => ?_)
    · refine rg_step 4 (G' := fun f => if inb x8 5000 = true then evT f 519 99 [oR 549 0, oI x1, oI x2, oI x3, oI x4, oI x5, oI x6, oI x7, oI x8, nn] [vI (s.1 640 (ix x8))] s else none) (fun _ => rfl) (rg_gd h fun h => ?_)
      refine rg_step 2 (G' := fun f => if (s.1 640 (ix x8)) = x1 then evT f 519 103 [oR 549 0, oI x1, oI x2, oI x3, oI x4, oI x5, oI x6, oI x7, oI x8, nn] [] s else evT f 519 154 [oR 549 0, oI x1, oI x2, oI x3, oI x4, oI x5, oI x6, oI x7, oI x8, nn] [] s) (fun _ => rfl) (rg_if h (fun h => ?_) fun h => ?_)
      · refine rg_step 3 (G' := fun f => if x5 = (cI (-1)) then evT f 519 150 [oR 549 0, oI x1, oI x2, oI x3, oI x4, oI x5, oI x6, oI x7, oI x8, nn] [] s else evT f 519 109 [oR 549 0, oI x1, oI x2, oI x3, oI x4, oI x5, oI x6, oI x7, oI x8, nn] [] s) (fun _ => rfl) (rg_if h (fun h => ?_) fun h => ?_)
        · exact (t_fM_trace_b150 hk66 hk85) h
        · refine rg_step 4 (G' := fun f => if inb x8 5000 = true then evT f 519 116 [oR 549 0, oI x1, oI x2, oI x3, oI x4, oI x5, oI x6, oI x7, oI x8, nn] [vI (s.1 643 (ix x8))] s else none) (fun _ => rfl) (rg_gd h fun h => ?_)
          refine rg_step 4 (G' := fun f => if inb x5 5000 = true then evT f 519 123 [oR 549 0, oI x1, oI x2, oI x3, oI x4, oI x5, oI x6, oI x7, oI x8, nn] [vI (s.1 643 (ix x5)), vI (s.1 643 (ix x8))] s else none) (fun _ => rfl) (rg_gd h fun h => ?_)
          refine rg_step 1 (G' := fun f => if (s.1 643 (ix x8)) ≤ (s.1 643 (ix x5)) then evT f 519 126 [oR 549 0, oI x1, oI x2, oI x3, oI x4, oI x5, oI x6, oI x7, oI x8, nn] [] s else evT f 519 150 [oR 549 0, oI x1, oI x2, oI x3, oI x4, oI x5, oI x6, oI x7, oI x8, nn] [] s) (fun _ => rfl) (rg_if h (fun h => ?_) fun h => ?_)
          · refine rg_step 4 (G' := fun f => if inb x8 5000 = true then evT f 519 133 [oR 549 0, oI x1, oI x2, oI x3, oI x4, oI x5, oI x6, oI x7, oI x8, nn] [vI (s.1 643 (ix x8))] s else none) (fun _ => rfl) (rg_gd h fun h => ?_)
            refine rg_step 4 (G' := fun f => if inb x5 5000 = true then evT f 519 140 [oR 549 0, oI x1, oI x2, oI x3, oI x4, oI x5, oI x6, oI x7, oI x8, nn] [vI (s.1 643 (ix x5)), vI (s.1 643 (ix x8))] s else none) (fun _ => rfl) (rg_gd h fun h => ?_)
            refine rg_step 1 (G' := fun f => if (s.1 643 (ix x8)) = (s.1 643 (ix x5)) then evT f 519 143 [oR 549 0, oI x1, oI x2, oI x3, oI x4, oI x5, oI x6, oI x7, oI x8, nn] [] s else evT f 519 154 [oR 549 0, oI x1, oI x2, oI x3, oI x4, oI x5, oI x6, oI x7, oI x8, nn] [] s) (fun _ => rfl) (rg_if h (fun h => ?_) fun h => ?_)
            · refine rg_step 3 (G' := fun f => if x8 ≤ x5 then evT f 519 154 [oR 549 0, oI x1, oI x2, oI x3, oI x4, oI x5, oI x6, oI x7, oI x8, nn] [] s else evT f 519 150 [oR 549 0, oI x1, oI x2, oI x3, oI x4, oI x5, oI x6, oI x7, oI x8, nn] [] s) (fun _ => rfl) (rg_if h (fun h => ?_) fun h => ?_)
              · exact (t_fM_trace_b154 hk66 hk85) h
              · exact (t_fM_trace_b150 hk66 hk85) h
            · exact (t_fM_trace_b154 hk66 hk85) h
          · exact (t_fM_trace_b150 hk66 hk85) h
      · exact (t_fM_trace_b154 hk66 hk85) h
    · refine rg_step 3 (G' := fun f => if x7 = (cI (-1)) then evT f 519 206 [oR 549 0, oI x1, oI x2, oI x3, oI x4, oI x5, oI x6, oI x7, oI x8, nn] [] s else evT f 519 208 [oR 549 0, oI x1, oI x2, oI x3, oI x4, oI x5, oI x6, oI x7, oI x8, nn] [] s) (fun _ => rfl) (rg_if h (fun h => ?_) fun h => ?_)
      · exact rg_end 2 (fun _ => rfl) (by cases h; rfl)
      · exact rg_step 4 (G' := fun f => evT f 519 66 [oR 549 0, oI x1, oI x2, oI x3, oI x4, oI x7, oI (x6 + cI 1), oI x7, oI x8, nn] [] s) (fun _ => rfl) (hk66 h)
theorem t_fM_trace_h85 {k66 : ev_M → Int32 → Int32 → Int32 → Int32 → Int32 → Int32 → Option (ev_M × Int32)} (hk66 : ∀ {s : ev_M} {x1 : Int32} {x2 : Int32} {x3 : Int32} {x4 : Int32} {x5 : Int32} {x6 : Int32} {j7 : Option ev_V} {j8 : Option ev_V} {j9 : Option ev_V} {q : ev_M × Int32}, k66 s x1 x2 x3 x4 x5 x6 = some q → RR 519 66 [oR 549 0, oI x1, oI x2, oI x3, oI x4, oI x5, oI x6, j7, j8, j9] [] s (cvI q)) {n : Nat} {s : ev_M} {x1 : Int32} {x2 : Int32} {x3 : Int32} {x4 : Int32} {x5 : Int32} {x6 : Int32} {x7 : Int32} {x8 : Int32} {j9 : Option ev_V} {q : ev_M × Int32} (h : fM_trace_h85 k66 n s x1 x2 x3 x4 x5 x6 x7 x8 = some q) : RR 519 85 [oR 549 0, oI x1, oI x2, oI x3, oI x4, oI x5, oI x6, oI x7, oI x8, j9] [] s (cvI q) := ti_fM_trace_h85 hk66 n s x1 x2 x3 x4 x5 x6 x7 x8 j9 q h
theorem t_fM_trace_b218 {s : ev_M} {x3 : Int32} {x5 : Int32} {j1 : Option ev_V} {j2 : Option ev_V} {j4 : Option ev_V} {j6 : Option ev_V} {j7 : Option ev_V} {j8 : Option ev_V} {j9 : Option ev_V} {q : ev_M × Int32} (h : fM_trace_b218 s x3 x5 = some q) : RR 519 218 [oR 549 0, j1, j2, oI x3, j4, oI x5, j6, j7, j8, j9] [] s (cvI q) := by
  refine rg_step 3 (G' := fun f => if x5 = (cI (-1)) then evT f 519 224 [oR 549 0, nn, nn, oI x3, nn, oI x5, nn, nn, nn, nn] [] s else evT f 519 228 [oR 549 0, nn, nn, oI x3, nn, oI x5, nn, nn, nn, nn] [] s) (fun _ => rfl) (rg_if h (fun h => ?_) fun h => ?_)
  · exact rg_end 3 (fun _ => rfl) (by cases h; rfl)
  · refine rg_step 2 (G' := fun f => if x3 = 0 then evT f 519 232 [oR 549 0, nn, nn, oI x3, nn, oI x5, nn, nn, nn, nn] [] s else evT f 519 242 [oR 549 0, nn, nn, oI x3, nn, oI x5, nn, nn, nn, nn] [] s) (fun _ => rfl) (rg_if h (fun h => ?_) fun h => ?_)
    · refine rg_step 4 (G' := fun f => if inb x5 5000 = true then evT f 519 239 [oR 549 0, nn, nn, oI x3, nn, oI x5, nn, nn, nn, nn] [vI (s.1 641 (ix x5))] s else none) (fun _ => rfl) (rg_gd h fun h => ?_)
      exact rg_end 2 (fun _ => rfl) (by cases h; rfl)
    · refine rg_step 3 (G' := fun f => if x3 = (cI 1) then evT f 519 247 [oR 549 0, nn, nn, oI x3, nn, oI x5, nn, nn, nn, nn] [] s else evT f 519 257 [oR 549 0, nn, nn, oI x3, nn, oI x5, nn, nn, nn, nn] [] s) (fun _ => rfl) (rg_if h (fun h => ?_) fun h => ?_)
      · refine rg_step 4 (G' := fun f => if inb x5 5000 = true then evT f 519 254 [oR 549 0, nn, nn, oI x3, nn, oI x5, nn, nn, nn, nn] [vI (s.1 642 (ix x5))] s else none) (fun _ => rfl) (rg_gd h fun h => ?_)
        exact rg_end 2 (fun _ => rfl) (by cases h; rfl)
      · refine rg_step 4 (G' := fun f => if inb x5 5000 = true then evT f 519 264 [oR 549 0, nn, nn, oI x3, nn, oI x5, nn, nn, nn, nn] [vI (s.1 643 (ix x5))] s else none) (fun _ => rfl) (rg_gd h fun h => ?_)
        exact rg_end 1 (fun _ => rfl) (by cases h; rfl)
theorem ti_fM_trace_h66 : ∀ (n : Nat) (s : ev_M) (x1 : Int32) (x2 : Int32) (x3 : Int32) (x4 : Int32) (x5 : Int32) (x6 : Int32) (j7 : Option ev_V) (j8 : Option ev_V) (j9 : Option ev_V) (q : ev_M × Int32), fM_trace_h66 n s x1 x2 x3 x4 x5 x6 = some q → RR 519 66 [oR 549 0, oI x1, oI x2, oI x3, oI x4, oI x5, oI x6, j7, j8, j9] [] s (cvI q) := by
  intro n
  induction n with
  | zero => intro s x1 x2 x3 x4 x5 x6 j7 j8 j9 q h; cases h
  | succ n ih =>
    have hk66 : ∀ {s : ev_M} {x1 : Int32} {x2 : Int32} {x3 : Int32} {x4 : Int32} {x5 : Int32} {x6 : Int32} {j7 : Option ev_V} {j8 : Option ev_V} {j9 : Option ev_V} {q : ev_M × Int32}, fM_trace_h66 n s x1 x2 x3 x4 x5 x6 = some q → RR 519 66 [oR 549 0, oI x1, oI x2, oI x3, oI x4, oI x5, oI x6, j7, j8, j9] [] s (cvI q) := fun h => ih _ _ _ _ _ _ _ _ _ _ _ h
    intro s x1 x2 x3 x4 x5 x6 j7 j8 j9 q h
    refine rg_step 3 (G' := fun f => if x6 ≤ x2 then evT f 519 72 [oR 549 0, oI x1, oI x2, oI x3, oI x4, oI x5, oI x6, nn, nn, nn] [] s else evT f 519 218 [oR 549 0, oI x1, oI x2, oI x3, oI x4, oI x5, oI x6, nn, nn, nn] [] s) (fun _ => rfl) (rg_if h (fun h => ?_) fun h => ?_)
    · refine rg_step 3 (G' := fun f => if x6 ≤ x4 then evT f 519 79 [oR 549 0, oI x1, oI x2, oI x3, oI x4, oI x5, oI x6, nn, nn, nn] [] s else evT f 519 218 [oR 549 0, oI x1, oI x2, oI x3, oI x4, oI x5, oI x6, nn, nn, nn] [] s) (fun _ => rfl) (rg_if h (fun h => ?_) fun h => ?_)
      · exact rg_step 4 (G' := fun f => evT f 519 85 [oR 549 0, oI x1, oI x2, oI x3, oI x4, oI x5, oI x6, oI (cI (-1)), oI (cI 0), nn] [] s) (fun _ => rfl) ((t_fM_trace_h85 hk66) h)
      · exact (t_fM_trace_b218) h
    · exact (t_fM_trace_b218) h
theorem t_fM_trace_h66 {n : Nat} {s : ev_M} {x1 : Int32} {x2 : Int32} {x3 : Int32} {x4 : Int32} {x5 : Int32} {x6 : Int32} {j7 : Option ev_V} {j8 : Option ev_V} {j9 : Option ev_V} {q : ev_M × Int32} (h : fM_trace_h66 n s x1 x2 x3 x4 x5 x6 = some q) : RR 519 66 [oR 549 0, oI x1, oI x2, oI x3, oI x4, oI x5, oI x6, j7, j8, j9] [] s (cvI q) := ti_fM_trace_h66 n s x1 x2 x3 x4 x5 x6 j7 j8 j9 q h
theorem t_fM_trace_b58 {s : ev_M} {x1 : Int32} {x2 : Int32} {x3 : Int32} {y0 : Int32} {j4 : Option ev_V} {j5 : Option ev_V} {j6 : Option ev_V} {j7 : Option ev_V} {j8 : Option ev_V} {j9 : Option ev_V} {q : ev_M × Int32} (h : fM_trace_b58 s x1 x2 x3 y0 = some q) : RR 519 58 [oR 549 0, oI x1, oI x2, oI x3, j4, j5, j6, j7, j8, j9] [vI y0] s (cvI q) := by
  exact rg_step 5 (G' := fun f => evT f 519 66 [oR 549 0, oI x1, oI x2, oI x3, oI y0, oI (cI (-1)), oI (cI 0), nn, nn, nn] [] s) (fun _ => rfl) ((t_fM_trace_h66) h)
theorem T_fM_trace {s : ev_M} {a1 : Int32} {a2 : Int32} {a3 : Int32} {q : ev_M × Int32} (h : fM_trace s a1 a2 a3 = some q) : RR 519 0 [oR 549 0, oI a1, oI a2, oI a3, nn, nn, nn, nn, nn, nn] [] s (cvI q) := by
  refine rg_step 3 (G' := fun f => evT f 519 5 [oR 549 0, oI a1, oI a2, oI a3, nn, nn, nn, nn, nn, nn] [] (wI s 549 0 (cI 0))) (fun _ => rfl) (rg_ltM h fun s1 h => ?_)
  refine rg_step 3 (G' := fun f => if (s1.1 549 5) = 0 then evT f 519 15 [oR 549 0, oI a1, oI a2, oI a3, nn, nn, nn, nn, nn, nn] [] s1 else evT f 519 12 [oR 549 0, oI a1, oI a2, oI a3, nn, nn, nn, nn, nn, nn] [] s1) (fun _ => rfl) (rg_if h (fun h => ?_) fun h => ?_)
  · refine rg_step 3 (G' := fun f => ev_after (evT f 342 0 [oR 549 0, oI a1] [] s1) (fun q => evT f 519 20 [oR 549 0, oI a1, oI a2, oI a3, nn, nn, nn, nn, nn, nn] (q.2 ++ []) q.1)) (fun _ => rfl) (rg_bd1 h fun v2 hc h => rg_call (q := cvP s1 v2) (T_fM_isItem hc) ?_)
    refine rg_step 1 (G' := fun f => if v2 = 0 then evT f 519 23 [oR 549 0, oI a1, oI a2, oI a3, nn, nn, nn, nn, nn, nn] [] s1 else evT f 519 26 [oR 549 0, oI a1, oI a2, oI a3, nn, nn, nn, nn, nn, nn] [] s1) (fun _ => rfl) (rg_if h (fun h => ?_) fun h => ?_)
    · exact rg_end 2 (fun _ => rfl) (by cases h; rfl)
    · refine rg_step 4 (G' := fun f => ev_after (evT f 311 0 [oI a3, oI (cI 0), oI (cI 2)] [] s1) (fun q => evT f 519 32 [oR 549 0, oI a1, oI a2, oI a3, nn, nn, nn, nn, nn, nn] (q.2 ++ []) q.1)) (fun _ => rfl) (rg_bd1 h fun v3 hc h => rg_call (q := cvP s1 v3) (T_fM_in hc) ?_)
      refine rg_step 1 (G' := fun f => if v3 = 0 then evT f 519 35 [oR 549 0, oI a1, oI a2, oI a3, nn, nn, nn, nn, nn, nn] [] s1 else evT f 519 38 [oR 549 0, oI a1, oI a2, oI a3, nn, nn, nn, nn, nn, nn] [] s1) (fun _ => rfl) (rg_if h (fun h => ?_) fun h => ?_)
      · exact rg_end 2 (fun _ => rfl) (by cases h; rfl)
      · refine rg_step 4 (G' := fun f => if (s1.1 549 129) < (cI 5000) then evT f 519 48 [oR 549 0, oI a1, oI a2, oI a3, nn, nn, nn, nn, nn, nn] [] s1 else evT f 519 55 [oR 549 0, oI a1, oI a2, oI a3, nn, nn, nn, nn, nn, nn] [] s1) (fun _ => rfl) (rg_if h (fun h => ?_) fun h => ?_)
        · exact rg_step 3 (G' := fun f => evT f 519 58 [oR 549 0, oI a1, oI a2, oI a3, nn, nn, nn, nn, nn, nn] [vI (s1.1 549 129)] s1) (fun _ => rfl) ((t_fM_trace_b58) h)
        · exact rg_step 1 (G' := fun f => evT f 519 58 [oR 549 0, oI a1, oI a2, oI a3, nn, nn, nn, nn, nn, nn] [vI (cI 5000)] s1) (fun _ => rfl) ((t_fM_trace_b58) h)
  · exact rg_end 2 (fun _ => rfl) (by cases h; rfl)
theorem T_fChron_tellNotice {s : ev_M} {a1 : Int32} {a2 : Int32} {q : Int32} (h : fChron_tellNotice s a1 a2 = some q) : RR 45 0 [oR 15 0, oI a1, oI a2] [] s (cvP s q) := by
  refine rg_step 4 (G' := fun f => ev_after (evT f 308 0 [oI a2, oI (cI 0), oI (cI 3)] [] s) (fun q => evT f 45 6 [oR 15 0, oI a1, oI a2] (q.2 ++ []) q.1)) (fun _ => rfl) (rg_bd1 h fun v1 hc h => rg_call (q := cvP s v1) (T_fPH_outside hc) ?_)
  refine rg_step 1 (G' := fun f => if v1 = 0 then evT f 45 12 [oR 15 0, oI a1, oI a2] [] s else evT f 45 9 [oR 15 0, oI a1, oI a2] [] s) (fun _ => rfl) (rg_if h (fun h => ?_) fun h => ?_)
  · refine rg_step 6 (G' := fun f => ev_after (evT f 535 0 [oI (s.1 15 7), oI (cI 3000)] [] s) (fun q => evT f 45 24 [oR 15 0, oI a1, oI a2] (q.2 ++ [vI (cI 0), vI a1]) q.1)) (fun _ => rfl) (rg_bd1 h fun v2 hc h => rg_call (q := cvP s v2) (T_fMath_min hc) ?_)
    refine rg_step 3 (G' := fun f => ev_after (evT f 308 0 [oI a1, oI (cI 0), oI (v2 - (cI 1))] [] s) (fun q => evT f 45 29 [oR 15 0, oI a1, oI a2] (q.2 ++ []) q.1)) (fun _ => rfl) (rg_bd1 h fun v3 hc h => rg_call (q := cvP s v3) (T_fPH_outside hc) ?_)
    refine rg_step 1 (G' := fun f => if v3 = 0 then evT f 45 36 [oR 15 0, oI a1, oI a2] [] s else evT f 45 32 [oR 15 0, oI a1, oI a2] [] s) (fun _ => rfl) (rg_if h (fun h => ?_) fun h => ?_)
    · refine rg_step 4 (G' := fun f => if inb a2 4 = true then evT f 45 42 [oR 15 0, oI a1, oI a2] [vR 24 (ix a2)] s else none) (fun _ => rfl) (rg_gd h fun h => ?_)
      refine rg_step 2 (G' := fun f => if inb a1 3000 = true then evT f 45 44 [oR 15 0, oI a1, oI a2] [vI (s.1 (24 + (ix a2)) (ix a1))] s else none) (fun _ => rfl) (rg_gd h fun h => ?_)
      exact rg_end 1 (fun _ => rfl) (by cases h; rfl)
    · exact rg_end 3 (fun _ => rfl) (by cases h; rfl)
  · exact rg_end 2 (fun _ => rfl) (by cases h; rfl)
theorem T_fPH_notice {s : ev_M} {a1 : Int32} {a2 : Int32} {q : Int32} (h : fPH_notice s a1 a2 = some q) : RR 298 0 [oR 0 0, oI a1, oI a2] [] s (cvP s q) := by
  refine rg_step 4 (G' := fun f => if (s.1 9 9) = 0 then evT f 298 15 [oR 0 0, oI a1, oI a2] [] s else evT f 298 10 [oR 0 0, oI a1, oI a2] [] s) (fun _ => rfl) (rg_if h (fun h => ?_) fun h => ?_)
  · refine rg_step 5 (G' := fun f => ev_after (evT f 45 0 [oR 15 0, oI a1, oI a2] [] s) (fun q => evT f 298 24 [oR 0 0, oI a1, oI a2] (q.2 ++ []) q.1)) (fun _ => rfl) (rg_bd1 h fun v1 hc h => rg_call (q := cvP s v1) (T_fChron_tellNotice hc) ?_)
    exact rg_end 1 (fun _ => rfl) (by cases h; rfl)
  · exact rg_end 3 (fun _ => rfl) (by cases h; rfl)
theorem t_fM_notice_b49 {s : ev_M} {x1 : Int32} {x2 : Int32} {y0 : Int32} {y1 : Int32} {y2 : Int32} {q : ev_M × Int32} (h : fM_notice_b49 s x1 x2 y0 y1 y2 = some q) : RR 522 49 [oR 549 0, oI x1, oI x2] [vI y2, vI y1, vI y0] s (cvI q) := by
  refine rg_step 3 (G' := fun f => ev_after (evT f 311 0 [oI y0, oI y1, oI (y2 - (cI 1))] [] s) (fun q => evT f 522 54 [oR 549 0, oI x1, oI x2] (q.2 ++ []) q.1)) (fun _ => rfl) (rg_bd1 h fun v1 hc h => rg_call (q := cvP s v1) (T_fM_in hc) ?_)
  refine rg_step 1 (G' := fun f => if v1 = 0 then evT f 522 57 [oR 549 0, oI x1, oI x2] [] s else evT f 522 59 [oR 549 0, oI x1, oI x2] [] s) (fun _ => rfl) (rg_if h (fun h => ?_) fun h => ?_)
  · exact rg_end 2 (fun _ => rfl) (by cases h; rfl)
  · refine rg_step 2 (G' := fun f => if x2 = 0 then evT f 522 63 [oR 549 0, oI x1, oI x2] [] s else evT f 522 77 [oR 549 0, oI x1, oI x2] [] s) (fun _ => rfl) (rg_if h (fun h => ?_) fun h => ?_)
    · refine rg_step 6 (G' := fun f => if inb x1 3000 = true then evT f 522 73 [oR 549 0, oI x1, oI x2] [vI (s.1 644 (ix x1)), vR 587 0] s else none) (fun _ => rfl) (rg_gd h fun h => ?_)
      refine rg_step 1 (G' := fun f => if inb (s.1 644 (ix x1)) 300 = true then evT f 522 74 [oR 549 0, oI x1, oI x2] [vI (s.1 587 (ix (s.1 644 (ix x1))))] s else none) (fun _ => rfl) (rg_gd h fun h => ?_)
      exact rg_end 2 (fun _ => rfl) (by cases h; rfl)
    · refine rg_step 3 (G' := fun f => if x2 = (cI 1) then evT f 522 82 [oR 549 0, oI x1, oI x2] [] s else evT f 522 91 [oR 549 0, oI x1, oI x2] [] s) (fun _ => rfl) (rg_if h (fun h => ?_) fun h => ?_)
      · refine rg_step 4 (G' := fun f => if inb x1 3000 = true then evT f 522 88 [oR 549 0, oI x1, oI x2] [vI (s.1 644 (ix x1))] s else none) (fun _ => rfl) (rg_gd h fun h => ?_)
        exact rg_end 2 (fun _ => rfl) (by cases h; rfl)
      · refine rg_step 3 (G' := fun f => if x2 = (cI 2) then evT f 522 96 [oR 549 0, oI x1, oI x2] [] s else evT f 522 105 [oR 549 0, oI x1, oI x2] [] s) (fun _ => rfl) (rg_if h (fun h => ?_) fun h => ?_)
        · refine rg_step 4 (G' := fun f => if inb x1 3000 = true then evT f 522 102 [oR 549 0, oI x1, oI x2] [vI (s.1 645 (ix x1))] s else none) (fun _ => rfl) (rg_gd h fun h => ?_)
          exact rg_end 2 (fun _ => rfl) (by cases h; rfl)
        · refine rg_step 4 (G' := fun f => if inb x1 3000 = true then evT f 522 111 [oR 549 0, oI x1, oI x2] [vI (s.1 646 (ix x1))] s else none) (fun _ => rfl) (rg_gd h fun h => ?_)
          exact rg_end 1 (fun _ => rfl) (by cases h; rfl)
theorem T_fM_notice {s : ev_M} {a1 : Int32} {a2 : Int32} {q : ev_M × Int32} (h : fM_notice s a1 a2 = some q) : RR 522 0 [oR 549 0, oI a1, oI a2] [] s (cvI q) := by
  refine rg_step 3 (G' := fun f => evT f 522 5 [oR 549 0, oI a1, oI a2] [] (wI s 549 0 (cI 0))) (fun _ => rfl) (rg_ltM h fun s2 h => ?_)
  refine rg_step 3 (G' := fun f => if (s2.1 549 5) = 0 then evT f 522 15 [oR 549 0, oI a1, oI a2] [] s2 else evT f 522 12 [oR 549 0, oI a1, oI a2] [] s2) (fun _ => rfl) (rg_if h (fun h => ?_) fun h => ?_)
  · refine rg_step 4 (G' := fun f => ev_after (evT f 311 0 [oI a2, oI (cI 0), oI (cI 3)] [] s2) (fun q => evT f 522 21 [oR 549 0, oI a1, oI a2] (q.2 ++ []) q.1)) (fun _ => rfl) (rg_bd1 h fun v3 hc h => rg_call (q := cvP s2 v3) (T_fM_in hc) ?_)
    refine rg_step 1 (G' := fun f => if v3 = 0 then evT f 522 24 [oR 549 0, oI a1, oI a2] [] s2 else evT f 522 27 [oR 549 0, oI a1, oI a2] [] s2) (fun _ => rfl) (rg_if h (fun h => ?_) fun h => ?_)
    · exact rg_end 2 (fun _ => rfl) (by cases h; rfl)
    · refine rg_step 6 (G' := fun f => if (s2.1 549 134) < (cI 3000) then evT f 522 39 [oR 549 0, oI a1, oI a2] [vI (cI 0), vI a1] s2 else evT f 522 46 [oR 549 0, oI a1, oI a2] [vI (cI 0), vI a1] s2) (fun _ => rfl) (rg_if h (fun h => ?_) fun h => ?_)
      · exact rg_step 3 (G' := fun f => evT f 522 49 [oR 549 0, oI a1, oI a2] [vI (s2.1 549 134), vI (cI 0), vI a1] s2) (fun _ => rfl) ((t_fM_notice_b49) h)
      · exact rg_step 1 (G' := fun f => evT f 522 49 [oR 549 0, oI a1, oI a2] [vI (cI 3000), vI (cI 0), vI a1] s2) (fun _ => rfl) ((t_fM_notice_b49) h)
  · exact rg_end 2 (fun _ => rfl) (by cases h; rfl)
theorem T_fPH_tick {s : ev_M} {a1 : Int32} {q : ev_M × Int32} (h : fPH_tick s a1 = some q) : RR 299 0 [oR 0 0, oI a1] [] s (cvI q) := by
  refine rg_step 10 (G' := fun f => ev_after (evT f 122 0 [oR 9 0, oI (cI 40), oI a1, oI (cI 0), oI (cI 0), oI (cI 0), oI (cI 0), oI (cI 0)] [] s) (fun q => evT f 299 15 [oR 0 0, oI a1] (q.2 ++ []) q.1)) (fun _ => rfl) (rg_bd2 h fun s1 v2 hc h => rg_call (q := cvI (s1, v2)) (T_fLog_stages hc) ?_)
  refine rg_step 1 (G' := fun f => if v2 = 0 then evT f 299 29 [oR 0 0, oI a1] [] s1 else evT f 299 18 [oR 0 0, oI a1] [] s1) (fun _ => rfl) (rg_if h (fun h => ?_) fun h => ?_)
  · exact rg_end 2 (fun _ => rfl) (by cases h; rfl)
  · refine rg_step 4 (G' := fun f => ev_after (evT f 302 0 [oR 0 0, oR 1 0, nn, nn, nn, nn, nn, nn] [] s1) (fun q => evT f 299 26 [oR 0 0, oI a1] (q.2 ++ []) q.1)) (fun _ => rfl) (rg_bd2 h fun s3 v4 hc h => rg_call (q := cvI (s3, v4)) (T_fPH_act_1 hc) ?_)
    exact rg_end 2 (fun _ => rfl) (by cases h; rfl)
theorem T_fM_tick {s : ev_M} {a1 : Int32} {q : ev_M × Int32} (h : fM_tick s a1 = some q) : RR 527 0 [oR 549 0, oI a1] [] s (cvI q) := by
  refine rg_step 4 (G' := fun f => ev_after (evT f 319 0 [oR 549 0, oI (cI 40), oI a1] [] s) (fun q => evT f 527 7 [oR 549 0, oI a1] (q.2 ++ []) q.1)) (fun _ => rfl) (rg_bd2 h fun s1 v2 hc h => rg_call (q := cvI (s1, v2)) (T_fM_call1 hc) ?_)
  exact rg_end 1 (fun _ => rfl) (by cases h; rfl)
theorem T_fPH_now {s : ev_M} {q : Int32} (h : fPH_now s = some q) : RR 300 0 [oR 0 0] [] s (cvP s q) := by
  refine rg_step 4 (G' := fun f => if (s.1 9 9) = 0 then evT f 300 15 [oR 0 0] [] s else evT f 300 10 [oR 0 0] [] s) (fun _ => rfl) (rg_if h (fun h => ?_) fun h => ?_)
  · exact rg_end 4 (fun _ => rfl) (by cases h; rfl)
  · exact rg_end 3 (fun _ => rfl) (by cases h; rfl)
theorem T_fM_now {s : ev_M} {q : ev_M × Int32} (h : fM_now s = some q) : RR 528 0 [oR 549 0] [] s (cvI q) := by
  refine rg_step 3 (G' := fun f => evT f 528 5 [oR 549 0] [] (wI s 549 0 (cI 0))) (fun _ => rfl) (rg_ltM h fun s1 h => ?_)
  refine rg_step 3 (G' := fun f => if (s1.1 549 5) = 0 then evT f 528 17 [oR 549 0] [] s1 else evT f 528 12 [oR 549 0] [] s1) (fun _ => rfl) (rg_if h (fun h => ?_) fun h => ?_)
  · exact rg_end 3 (fun _ => rfl) (by cases h; rfl)
  · exact rg_end 3 (fun _ => rfl) (by cases h; rfl)
theorem t_fMoney_faults_b49 {s : ev_M} {k7 : Int64 → Int32 → Int32 → Option Int32} (hk7 : ∀ {x1 : Int64} {x3 : Int32} {x4 : Int32} {j2 : Option ev_V} {q : Int32}, k7 x1 x3 x4 = some q → RR 165 7 [oR 78 0, oL x1, j2, oI x3, oI x4] [] s (cvP s q)) {x1 : Int64} {x3 : Int32} {x4 : Int32} {j2 : Option ev_V} {q : Int32} (h : fMoney_faults_b49 s k7 x1 x3 x4 = some q) : RR 165 49 [oR 78 0, oL x1, j2, oI x3, oI x4] [] s (cvP s q) := by
  exact rg_step 2 (G' := fun f => evT f 165 7 [oR 78 0, oL x1, nn, oI x3, oI (x4 + cI 1)] [] s) (fun _ => rfl) (hk7 h)
theorem ti_fMoney_faults_h7 {s : ev_M} : ∀ (n : Nat) (x1 : Int64) (x3 : Int32) (x4 : Int32) (j2 : Option ev_V) (q : Int32), fMoney_faults_h7 s n x1 x3 x4 = some q → RR 165 7 [oR 78 0, oL x1, j2, oI x3, oI x4] [] s (cvP s q) := by
  intro n
  induction n with
  | zero => intro x1 x3 x4 j2 q h; cases h
  | succ n ih =>
    have hk7 : ∀ {x1 : Int64} {x3 : Int32} {x4 : Int32} {j2 : Option ev_V} {q : Int32}, fMoney_faults_h7 s n x1 x3 x4 = some q → RR 165 7 [oR 78 0, oL x1, j2, oI x3, oI x4] [] s (cvP s q) := fun h => ih _ _ _ _ _ h
    intro x1 x3 x4 j2 q h
    refine rg_step 6 (G' := fun f => if x4 < ((cI 4) + (s.1 78 3)) then evT f 165 18 [oR 78 0, oL x1, nn, oI x3, oI x4] [] s else evT f 165 55 [oR 78 0, oL x1, nn, oI x3, oI x4] [] s) (fun _ => rfl) (rg_if h (fun h => ?_) fun h => ?_)
    · refine rg_step 5 (G' := fun f => if inb x4 34 = true then evT f 165 26 [oR 78 0, oL x1, nn, oI x3, oI x4] [vL (s.2.1 80 (ix x4)), vL x1] s else none) (fun _ => rfl) (rg_gd h fun h => ?_)
      refine rg_step 2 (G' := fun f => evT f 165 28 [oR 78 0, oL (x1 + (s.2.1 80 (ix x4))), nn, oI x3, oI x4] [] s) (fun _ => rfl) (rg_ltL (P := fun v1 => RG (fun f => evT f 165 28 [oR 78 0, oL v1, nn, oI x3, oI x4] [] s) (cvP s q)) h fun v1 h => ?_)
      refine rg_step 3 (G' := fun f => if x4 < (cI 4) then evT f 165 49 [oR 78 0, oL v1, nn, oI x3, oI x4] [] s else evT f 165 34 [oR 78 0, oL v1, nn, oI x3, oI x4] [] s) (fun _ => rfl) (rg_if h (fun h => ?_) fun h => ?_)
      · exact (t_fMoney_faults_b49 hk7) h
      · refine rg_step 4 (G' := fun f => if inb x4 34 = true then evT f 165 41 [oR 78 0, oL v1, nn, oI x3, oI x4] [vL (s.2.1 80 (ix x4))] s else none) (fun _ => rfl) (rg_gd h fun h => ?_)
        refine rg_step 3 (G' := fun f => if (lg_cmp (s.2.1 80 (ix x4)) (cL 0)) < 0 then evT f 165 46 [oR 78 0, oL v1, nn, oI x3, oI x4] [] s else evT f 165 49 [oR 78 0, oL v1, nn, oI x3, oI x4] [] s) (fun _ => rfl) (rg_if h (fun h => ?_) fun h => ?_)
        · exact rg_step 1 (G' := fun f => evT f 165 49 [oR 78 0, oL v1, nn, oI (x3 + cI 1), oI x4] [] s) (fun _ => rfl) ((t_fMoney_faults_b49 hk7) h)
        · exact (t_fMoney_faults_b49 hk7) h
    · refine rg_step 4 (G' := fun f => if (lg_cmp x1 (cL 0)) = 0 then evT f 165 61 [oR 78 0, oL x1, nn, oI x3, oI x4] [] s else evT f 165 65 [oR 78 0, oL x1, nn, oI x3, oI x4] [] s) (fun _ => rfl) (rg_if h (fun h => ?_) fun h => ?_)
      · exact rg_end 3 (fun _ => rfl) (by cases h; rfl)
      · exact rg_end 4 (fun _ => rfl) (by cases h; rfl)
theorem t_fMoney_faults_h7 {s : ev_M} {n : Nat} {x1 : Int64} {x3 : Int32} {x4 : Int32} {j2 : Option ev_V} {q : Int32} (h : fMoney_faults_h7 s n x1 x3 x4 = some q) : RR 165 7 [oR 78 0, oL x1, j2, oI x3, oI x4] [] s (cvP s q) := ti_fMoney_faults_h7 n x1 x3 x4 j2 q h
theorem T_fMoney_faults {s : ev_M} {q : Int32} (h : fMoney_faults s = some q) : RR 165 0 [oR 78 0, nn, nn, nn, nn] [] s (cvP s q) := by
  exact rg_step 6 (G' := fun f => evT f 165 7 [oR 78 0, oL (cL 0), nn, oI (cI 0), oI (cI 0)] [] s) (fun _ => rfl) ((t_fMoney_faults_h7) h)
theorem t_fLines_overladen_b31 {s : ev_M} {k4 : Int32 → Int32 → Option Int32} (hk4 : ∀ {x1 : Int32} {x2 : Int32} {q : Int32}, k4 x1 x2 = some q → RR 106 4 [oR 449 0, oI x1, oI x2] [] s (cvP s q)) {x1 : Int32} {x2 : Int32} {q : Int32} (h : fLines_overladen_b31 s k4 x1 x2 = some q) : RR 106 31 [oR 449 0, oI x1, oI x2] [] s (cvP s q) := by
  exact rg_step 2 (G' := fun f => evT f 106 4 [oR 449 0, oI x1, oI (x2 + cI 1)] [] s) (fun _ => rfl) (hk4 h)
theorem ti_fLines_overladen_h4 {s : ev_M} : ∀ (n : Nat) (x1 : Int32) (x2 : Int32) (q : Int32), fLines_overladen_h4 s n x1 x2 = some q → RR 106 4 [oR 449 0, oI x1, oI x2] [] s (cvP s q) := by
  intro n
  induction n with
  | zero => intro x1 x2 q h; cases h
  | succ n ih =>
    have hk4 : ∀ {x1 : Int32} {x2 : Int32} {q : Int32}, fLines_overladen_h4 s n x1 x2 = some q → RR 106 4 [oR 449 0, oI x1, oI x2] [] s (cvP s q) := fun h => ih _ _ _ h
    intro x1 x2 q h
    refine rg_step 4 (G' := fun f => if x2 < (s.1 449 4) then evT f 106 12 [oR 449 0, oI x1, oI x2] [] s else evT f 106 37 [oR 449 0, oI x1, oI x2] [] s) (fun _ => rfl) (rg_if h (fun h => ?_) fun h => ?_)
    · refine rg_step 3 (G' := fun f => ev_after (evT f 105 0 [oR 449 0, oI x2, nn, nn] [] s) (fun q => evT f 106 17 [oR 449 0, oI x1, oI x2] (q.2 ++ []) q.1)) (fun _ => rfl) (rg_bd1 h fun v1 hc h => rg_call (q := cvP s v1) (T_fLines_carriedBy hc) ?_)
      refine rg_step 6 (G' := fun f => if inb x2 20 = true then evT f 106 25 [oR 449 0, oI x1, oI x2] [vI (s.1 (451 + (ix (cI 4))) (ix x2)), vI v1] s else none) (fun _ => rfl) (rg_gd h fun h => ?_)
      refine rg_step 1 (G' := fun f => if v1 ≤ (s.1 (451 + (ix (cI 4))) (ix x2)) then evT f 106 31 [oR 449 0, oI x1, oI x2] [] s else evT f 106 28 [oR 449 0, oI x1, oI x2] [] s) (fun _ => rfl) (rg_if h (fun h => ?_) fun h => ?_)
      · exact (t_fLines_overladen_b31 hk4) h
      · exact rg_step 1 (G' := fun f => evT f 106 31 [oR 449 0, oI (x1 + cI 1), oI x2] [] s) (fun _ => rfl) ((t_fLines_overladen_b31 hk4) h)
    · exact rg_end 2 (fun _ => rfl) (by cases h; rfl)
theorem t_fLines_overladen_h4 {s : ev_M} {n : Nat} {x1 : Int32} {x2 : Int32} {q : Int32} (h : fLines_overladen_h4 s n x1 x2 = some q) : RR 106 4 [oR 449 0, oI x1, oI x2] [] s (cvP s q) := ti_fLines_overladen_h4 n x1 x2 q h
theorem T_fLines_overladen {s : ev_M} {q : Int32} (h : fLines_overladen s = some q) : RR 106 0 [oR 449 0, nn, nn] [] s (cvP s q) := by
  exact rg_step 4 (G' := fun f => evT f 106 4 [oR 449 0, oI (cI 0), oI (cI 0)] [] s) (fun _ => rfl) ((t_fLines_overladen_h4) h)
theorem t_fItems_misplaced_b38 {s : ev_M} {k4 : Int32 → Int32 → Int32 → Option Int32} (hk4 : ∀ {x1 : Int32} {x2 : Int32} {x3 : Int32} {q : Int32}, k4 x1 x2 x3 = some q → RR 83 4 [oR 100 0, oI x1, oI x2, oI x3] [] s (cvP s q)) {x1 : Int32} {x2 : Int32} {x3 : Int32} {q : Int32} (h : fItems_misplaced_b38 s k4 x1 x2 x3 = some q) : RR 83 38 [oR 100 0, oI x1, oI x2, oI x3] [] s (cvP s q) := by
  exact rg_step 2 (G' := fun f => evT f 83 4 [oR 100 0, oI x1, oI x2, oI (x3 + cI 1)] [] s) (fun _ => rfl) (hk4 h)
theorem t_fItems_misplaced_b32 {s : ev_M} {k4 : Int32 → Int32 → Int32 → Option Int32} (hk4 : ∀ {x1 : Int32} {x2 : Int32} {x3 : Int32} {q : Int32}, k4 x1 x2 x3 = some q → RR 83 4 [oR 100 0, oI x1, oI x2, oI x3] [] s (cvP s q)) {x1 : Int32} {x2 : Int32} {x3 : Int32} {y0 : Int32} {y1 : Int32} {q : Int32} (h : fItems_misplaced_b32 s k4 x1 x2 x3 y0 y1 = some q) : RR 83 32 [oR 100 0, oI x1, oI x2, oI x3] [vI y1, vI y0] s (cvP s q) := by
  refine rg_step 1 (G' := fun f => if y0 = y1 then evT f 83 38 [oR 100 0, oI x1, oI x2, oI x3] [] s else evT f 83 35 [oR 100 0, oI x1, oI x2, oI x3] [] s) (fun _ => rfl) (rg_if h (fun h => ?_) fun h => ?_)
  · exact (t_fItems_misplaced_b38 hk4) h
  · exact rg_step 1 (G' := fun f => evT f 83 38 [oR 100 0, oI x1, oI (x2 + cI 1), oI x3] [] s) (fun _ => rfl) ((t_fItems_misplaced_b38 hk4) h)
theorem ti_fItems_misplaced_h4 {s : ev_M} : ∀ (n : Nat) (x1 : Int32) (x2 : Int32) (x3 : Int32) (q : Int32), fItems_misplaced_h4 s n x1 x2 x3 = some q → RR 83 4 [oR 100 0, oI x1, oI x2, oI x3] [] s (cvP s q) := by
  intro n
  induction n with
  | zero => intro x1 x2 x3 q h; cases h
  | succ n ih =>
    have hk4 : ∀ {x1 : Int32} {x2 : Int32} {x3 : Int32} {q : Int32}, fItems_misplaced_h4 s n x1 x2 x3 = some q → RR 83 4 [oR 100 0, oI x1, oI x2, oI x3] [] s (cvP s q) := fun h => ih _ _ _ _ h
    intro x1 x2 x3 q h
    refine rg_step 4 (G' := fun f => if x3 < (s.1 100 5) then evT f 83 12 [oR 100 0, oI x1, oI x2, oI x3] [] s else evT f 83 44 [oR 100 0, oI x1, oI x2, oI x3] [] s) (fun _ => rfl) (rg_if h (fun h => ?_) fun h => ?_)
    · refine rg_step 4 (G' := fun f => if inb x3 300 = true then evT f 83 18 [oR 100 0, oI x1, oI x2, oI x3] [vI (s.1 124 (ix x3))] s else none) (fun _ => rfl) (rg_gd h fun h => ?_)
      refine rg_step 4 (G' := fun f => ev_after (evT f 52 0 [oR 100 0, oI x3, oI x1] [] s) (fun q => evT f 83 24 [oR 100 0, oI x1, oI x2, oI x3] (q.2 ++ [vI (s.1 124 (ix x3))]) q.1)) (fun _ => rfl) (rg_bd1 h fun v1 hc h => rg_call (q := cvP s v1) (T_fItems_is hc) ?_)
      refine rg_step 1 (G' := fun f => if v1 = 0 then evT f 83 31 [oR 100 0, oI x1, oI x2, oI x3] [vI (s.1 124 (ix x3))] s else evT f 83 27 [oR 100 0, oI x1, oI x2, oI x3] [vI (s.1 124 (ix x3))] s) (fun _ => rfl) (rg_if h (fun h => ?_) fun h => ?_)
      · exact rg_step 1 (G' := fun f => evT f 83 32 [oR 100 0, oI x1, oI x2, oI x3] [vI (cI 0), vI (s.1 124 (ix x3))] s) (fun _ => rfl) ((t_fItems_misplaced_b32 hk4) h)
      · exact rg_step 2 (G' := fun f => evT f 83 32 [oR 100 0, oI x1, oI x2, oI x3] [vI (cI 1), vI (s.1 124 (ix x3))] s) (fun _ => rfl) ((t_fItems_misplaced_b32 hk4) h)
    · exact rg_end 2 (fun _ => rfl) (by cases h; rfl)
theorem t_fItems_misplaced_h4 {s : ev_M} {n : Nat} {x1 : Int32} {x2 : Int32} {x3 : Int32} {q : Int32} (h : fItems_misplaced_h4 s n x1 x2 x3 = some q) : RR 83 4 [oR 100 0, oI x1, oI x2, oI x3] [] s (cvP s q) := ti_fItems_misplaced_h4 n x1 x2 x3 q h
theorem T_fItems_misplaced {s : ev_M} {a1 : Int32} {q : Int32} (h : fItems_misplaced s a1 = some q) : RR 83 0 [oR 100 0, oI a1, nn, nn] [] s (cvP s q) := by
  exact rg_step 4 (G' := fun f => evT f 83 4 [oR 100 0, oI a1, oI (cI 0), oI (cI 0)] [] s) (fun _ => rfl) ((t_fItems_misplaced_h4) h)
theorem ti_fArr_fillI_124_h5 : ∀ (n : Nat) (s : ev_M) (x1 : Int32) (x2 : Int32) (x3 : Int32) (q : ev_M), fArr_fillI_124_h5 n s x1 x2 x3 = some q → RR 537 5 [oR 124 0, oI x1, oI x2, oI x3] [] s (cvV q) := by
  intro n
  induction n with
  | zero => intro s x1 x2 x3 q h; cases h
  | succ n ih =>
    have hk5 : ∀ {s : ev_M} {x1 : Int32} {x2 : Int32} {x3 : Int32} {q : ev_M}, fArr_fillI_124_h5 n s x1 x2 x3 = some q → RR 537 5 [oR 124 0, oI x1, oI x2, oI x3] [] s (cvV q) := fun h => ih _ _ _ _ _ h
    intro s x1 x2 x3 q h
    refine rg_step 3 (G' := fun f => if x2 < x3 then evT f 537 10 [oR 124 0, oI x1, oI x2, oI x3] [] s else evT f 537 20 [oR 124 0, oI x1, oI x2, oI x3] [] s) (fun _ => rfl) (rg_if h (fun h => ?_) fun h => ?_)
    · refine rg_step 4 (G' := fun f => if inb x2 300 = true then evT f 537 14 [oR 124 0, oI x1, oI x2, oI x3] [] (wI s 124 (ix x2) x1) else none) (fun _ => rfl) (rg_gd h fun h => rg_ltM h fun s1 h => ?_)
      exact rg_step 2 (G' := fun f => evT f 537 5 [oR 124 0, oI x1, oI (x2 + cI 1), oI x3] [] s1) (fun _ => rfl) (hk5 h)
    · exact rg_end 1 (fun _ => rfl) (by cases h; rfl)
theorem t_fArr_fillI_124_h5 {n : Nat} {s : ev_M} {x1 : Int32} {x2 : Int32} {x3 : Int32} {q : ev_M} (h : fArr_fillI_124_h5 n s x1 x2 x3 = some q) : RR 537 5 [oR 124 0, oI x1, oI x2, oI x3] [] s (cvV q) := ti_fArr_fillI_124_h5 n s x1 x2 x3 q h
theorem T_fArr_fillI_124 {s : ev_M} {a1 : Int32} {q : ev_M} (h : fArr_fillI_124 s a1 = some q) : RR 537 0 [oR 124 0, oI a1, nn, nn] [] s (cvV q) := by
  exact rg_step 5 (G' := fun f => evT f 537 5 [oR 124 0, oI a1, oI (cI 0), oI (cI 300)] [] s) (fun _ => rfl) ((t_fArr_fillI_124_h5) h)
theorem ti_fLines_misplaced_h25 {k15 : ev_M → Int32 → Option (ev_M × Int32)} (hk15 : ∀ {s : ev_M} {x2 : Int32} {j3 : Option ev_V} {q : ev_M × Int32}, k15 s x2 = some q → RR 107 15 [oR 449 0, oR 124 0, oI x2, j3] [] s (cvI q)) : ∀ (n : Nat) (s : ev_M) (x2 : Int32) (x3 : Int32) (q : ev_M × Int32), fLines_misplaced_h25 k15 n s x2 x3 = some q → RR 107 25 [oR 449 0, oR 124 0, oI x2, oI x3] [] s (cvI q) := by
  intro n
  induction n with
  | zero => intro s x2 x3 q h; cases h
  | succ n ih =>
    have hk25 : ∀ {s : ev_M} {x2 : Int32} {x3 : Int32} {q : ev_M × Int32}, fLines_misplaced_h25 k15 n s x2 x3 = some q → RR 107 25 [oR 449 0, oR 124 0, oI x2, oI x3] [] s (cvI q) := fun h => ih _ _ _ _ h
    intro s x2 x3 q h
    refine rg_step 7 (G' := fun f => if inb x2 80 = true then evT f 107 34 [oR 449 0, oR 124 0, oI x2, oI x3] [vI (s.1 (459 + (ix (cI 3))) (ix x2)), vI x3] s else none) (fun _ => rfl) (rg_gd h fun h => ?_)
    refine rg_step 1 (G' := fun f => if x3 < (s.1 (459 + (ix (cI 3))) (ix x2)) then evT f 107 37 [oR 449 0, oR 124 0, oI x2, oI x3] [] s else evT f 107 57 [oR 449 0, oR 124 0, oI x2, oI x3] [] s) (fun _ => rfl) (rg_if h (fun h => ?_) fun h => ?_)
    · refine rg_step 5 (G' := fun f => if inb x2 80 = true then evT f 107 44 [oR 449 0, oR 124 0, oI x2, oI x3] [vR 466 (ix x2), vR 124 0] s else none) (fun _ => rfl) (rg_gd h fun h => ?_)
      refine rg_step 2 (G' := fun f => if inb x3 40 = true then evT f 107 46 [oR 449 0, oR 124 0, oI x2, oI x3] [vI (s.1 (466 + (ix x2)) (ix x3)), vR 124 0] s else none) (fun _ => rfl) (rg_gd h fun h => ?_)
      refine rg_step 2 (G' := fun f => if inb (s.1 (466 + (ix x2)) (ix x3)) 300 = true then evT f 107 48 [oR 449 0, oR 124 0, oI x2, oI x3] [vI (s.1 124 (ix (s.1 (466 + (ix x2)) (ix x3)))), vI (s.1 (466 + (ix x2)) (ix x3)), vR 124 0] s else none) (fun _ => rfl) (rg_gd h fun h => ?_)
      refine rg_step 3 (G' := fun f => if inb (s.1 (466 + (ix x2)) (ix x3)) 300 = true then evT f 107 51 [oR 449 0, oR 124 0, oI x2, oI x3] [] (wI s 124 (ix (s.1 (466 + (ix x2)) (ix x3))) ((s.1 124 (ix (s.1 (466 + (ix x2)) (ix x3)))) + (cI 1))) else none) (fun _ => rfl) (rg_gd h fun h => rg_ltM h fun s1 h => ?_)
      exact rg_step 2 (G' := fun f => evT f 107 25 [oR 449 0, oR 124 0, oI x2, oI (x3 + cI 1)] [] s1) (fun _ => rfl) (hk25 h)
    · exact rg_step 2 (G' := fun f => evT f 107 15 [oR 449 0, oR 124 0, oI (x2 + cI 1), oI x3] [] s) (fun _ => rfl) (hk15 h)
theorem t_fLines_misplaced_h25 {k15 : ev_M → Int32 → Option (ev_M × Int32)} (hk15 : ∀ {s : ev_M} {x2 : Int32} {j3 : Option ev_V} {q : ev_M × Int32}, k15 s x2 = some q → RR 107 15 [oR 449 0, oR 124 0, oI x2, j3] [] s (cvI q)) {n : Nat} {s : ev_M} {x2 : Int32} {x3 : Int32} {q : ev_M × Int32} (h : fLines_misplaced_h25 k15 n s x2 x3 = some q) : RR 107 25 [oR 449 0, oR 124 0, oI x2, oI x3] [] s (cvI q) := ti_fLines_misplaced_h25 hk15 n s x2 x3 q h
theorem ti_fLines_misplaced_h15 : ∀ (n : Nat) (s : ev_M) (x2 : Int32) (j3 : Option ev_V) (q : ev_M × Int32), fLines_misplaced_h15 n s x2 = some q → RR 107 15 [oR 449 0, oR 124 0, oI x2, j3] [] s (cvI q) := by
  intro n
  induction n with
  | zero => intro s x2 j3 q h; cases h
  | succ n ih =>
    have hk15 : ∀ {s : ev_M} {x2 : Int32} {j3 : Option ev_V} {q : ev_M × Int32}, fLines_misplaced_h15 n s x2 = some q → RR 107 15 [oR 449 0, oR 124 0, oI x2, j3] [] s (cvI q) := fun h => ih _ _ _ _ h
    intro s x2 j3 q h
    refine rg_step 4 (G' := fun f => if x2 < (s.1 449 6) then evT f 107 23 [oR 449 0, oR 124 0, oI x2, nn] [] s else evT f 107 63 [oR 449 0, oR 124 0, oI x2, nn] [] s) (fun _ => rfl) (rg_if h (fun h => ?_) fun h => ?_)
    · exact rg_step 2 (G' := fun f => evT f 107 25 [oR 449 0, oR 124 0, oI x2, oI (cI 0)] [] s) (fun _ => rfl) ((t_fLines_misplaced_h25 hk15) h)
    · refine rg_step 4 (G' := fun f => ev_after (evT f 83 0 [oR 100 0, oI (cI 2), nn, nn] [] s) (fun q => evT f 107 71 [oR 449 0, oR 124 0, oI x2, nn] (q.2 ++ []) q.1)) (fun _ => rfl) (rg_bd1 h fun v2 hc h => rg_call (q := cvP s v2) (T_fItems_misplaced hc) ?_)
      exact rg_end 1 (fun _ => rfl) (by cases h; rfl)
theorem t_fLines_misplaced_h15 {n : Nat} {s : ev_M} {x2 : Int32} {j3 : Option ev_V} {q : ev_M × Int32} (h : fLines_misplaced_h15 n s x2 = some q) : RR 107 15 [oR 449 0, oR 124 0, oI x2, j3] [] s (cvI q) := ti_fLines_misplaced_h15 n s x2 j3 q h
theorem T_fLines_misplaced {s : ev_M} {q : ev_M × Int32} (h : fLines_misplaced s = some q) : RR 107 0 [oR 449 0, nn, nn, nn] [] s (cvI q) := by
  refine rg_step 7 (G' := fun f => ev_after (evT f 537 0 [oR 124 0, oI (cI 0), nn, nn] [] s) (fun q => evT f 107 13 [oR 449 0, oR 124 0, nn, nn] (q.2 ++ []) q.1)) (fun _ => rfl) (rg_bd1 h fun s3 hc h => rg_call (q := cvV s3) (T_fArr_fillI_124 hc) ?_)
  exact rg_step 2 (G' := fun f => evT f 107 15 [oR 449 0, oR 124 0, oI (cI 0), nn] [] s3) (fun _ => rfl) ((t_fLines_misplaced_h15) h)
theorem ti_fRounds_misplaced_h25 {k15 : ev_M → Int32 → Option (ev_M × Int32)} (hk15 : ∀ {s : ev_M} {x2 : Int32} {j3 : Option ev_V} {q : ev_M × Int32}, k15 s x2 = some q → RR 194 15 [oR 138 0, oR 124 0, oI x2, j3] [] s (cvI q)) : ∀ (n : Nat) (s : ev_M) (x2 : Int32) (x3 : Int32) (q : ev_M × Int32), fRounds_misplaced_h25 k15 n s x2 x3 = some q → RR 194 25 [oR 138 0, oR 124 0, oI x2, oI x3] [] s (cvI q) := by
  intro n
  induction n with
  | zero => intro s x2 x3 q h; cases h
  | succ n ih =>
    have hk25 : ∀ {s : ev_M} {x2 : Int32} {x3 : Int32} {q : ev_M × Int32}, fRounds_misplaced_h25 k15 n s x2 x3 = some q → RR 194 25 [oR 138 0, oR 124 0, oI x2, oI x3] [] s (cvI q) := fun h => ih _ _ _ _ h
    intro s x2 x3 q h
    refine rg_step 7 (G' := fun f => if inb x2 12 = true then evT f 194 34 [oR 138 0, oR 124 0, oI x2, oI x3] [vI (s.1 (140 + (ix (cI 4))) (ix x2)), vI x3] s else none) (fun _ => rfl) (rg_gd h fun h => ?_)
    refine rg_step 1 (G' := fun f => if x3 < (s.1 (140 + (ix (cI 4))) (ix x2)) then evT f 194 37 [oR 138 0, oR 124 0, oI x2, oI x3] [] s else evT f 194 57 [oR 138 0, oR 124 0, oI x2, oI x3] [] s) (fun _ => rfl) (rg_if h (fun h => ?_) fun h => ?_)
    · refine rg_step 5 (G' := fun f => if inb x2 12 = true then evT f 194 44 [oR 138 0, oR 124 0, oI x2, oI x3] [vR 160 (ix x2), vR 124 0] s else none) (fun _ => rfl) (rg_gd h fun h => ?_)
      refine rg_step 2 (G' := fun f => if inb x3 300 = true then evT f 194 46 [oR 138 0, oR 124 0, oI x2, oI x3] [vI (s.1 (160 + (ix x2)) (ix x3)), vR 124 0] s else none) (fun _ => rfl) (rg_gd h fun h => ?_)
      refine rg_step 2 (G' := fun f => if inb (s.1 (160 + (ix x2)) (ix x3)) 300 = true then evT f 194 48 [oR 138 0, oR 124 0, oI x2, oI x3] [vI (s.1 124 (ix (s.1 (160 + (ix x2)) (ix x3)))), vI (s.1 (160 + (ix x2)) (ix x3)), vR 124 0] s else none) (fun _ => rfl) (rg_gd h fun h => ?_)
      refine rg_step 3 (G' := fun f => if inb (s.1 (160 + (ix x2)) (ix x3)) 300 = true then evT f 194 51 [oR 138 0, oR 124 0, oI x2, oI x3] [] (wI s 124 (ix (s.1 (160 + (ix x2)) (ix x3))) ((s.1 124 (ix (s.1 (160 + (ix x2)) (ix x3)))) + (cI 1))) else none) (fun _ => rfl) (rg_gd h fun h => rg_ltM h fun s1 h => ?_)
      exact rg_step 2 (G' := fun f => evT f 194 25 [oR 138 0, oR 124 0, oI x2, oI (x3 + cI 1)] [] s1) (fun _ => rfl) (hk25 h)
    · exact rg_step 2 (G' := fun f => evT f 194 15 [oR 138 0, oR 124 0, oI (x2 + cI 1), oI x3] [] s) (fun _ => rfl) (hk15 h)
theorem t_fRounds_misplaced_h25 {k15 : ev_M → Int32 → Option (ev_M × Int32)} (hk15 : ∀ {s : ev_M} {x2 : Int32} {j3 : Option ev_V} {q : ev_M × Int32}, k15 s x2 = some q → RR 194 15 [oR 138 0, oR 124 0, oI x2, j3] [] s (cvI q)) {n : Nat} {s : ev_M} {x2 : Int32} {x3 : Int32} {q : ev_M × Int32} (h : fRounds_misplaced_h25 k15 n s x2 x3 = some q) : RR 194 25 [oR 138 0, oR 124 0, oI x2, oI x3] [] s (cvI q) := ti_fRounds_misplaced_h25 hk15 n s x2 x3 q h
theorem ti_fRounds_misplaced_h15 : ∀ (n : Nat) (s : ev_M) (x2 : Int32) (j3 : Option ev_V) (q : ev_M × Int32), fRounds_misplaced_h15 n s x2 = some q → RR 194 15 [oR 138 0, oR 124 0, oI x2, j3] [] s (cvI q) := by
  intro n
  induction n with
  | zero => intro s x2 j3 q h; cases h
  | succ n ih =>
    have hk15 : ∀ {s : ev_M} {x2 : Int32} {j3 : Option ev_V} {q : ev_M × Int32}, fRounds_misplaced_h15 n s x2 = some q → RR 194 15 [oR 138 0, oR 124 0, oI x2, j3] [] s (cvI q) := fun h => ih _ _ _ _ h
    intro s x2 j3 q h
    refine rg_step 4 (G' := fun f => if x2 < (s.1 138 3) then evT f 194 23 [oR 138 0, oR 124 0, oI x2, nn] [] s else evT f 194 63 [oR 138 0, oR 124 0, oI x2, nn] [] s) (fun _ => rfl) (rg_if h (fun h => ?_) fun h => ?_)
    · exact rg_step 2 (G' := fun f => evT f 194 25 [oR 138 0, oR 124 0, oI x2, oI (cI 0)] [] s) (fun _ => rfl) ((t_fRounds_misplaced_h25 hk15) h)
    · refine rg_step 4 (G' := fun f => ev_after (evT f 83 0 [oR 100 0, oI (cI 3), nn, nn] [] s) (fun q => evT f 194 71 [oR 138 0, oR 124 0, oI x2, nn] (q.2 ++ []) q.1)) (fun _ => rfl) (rg_bd1 h fun v2 hc h => rg_call (q := cvP s v2) (T_fItems_misplaced hc) ?_)
      exact rg_end 1 (fun _ => rfl) (by cases h; rfl)
theorem t_fRounds_misplaced_h15 {n : Nat} {s : ev_M} {x2 : Int32} {j3 : Option ev_V} {q : ev_M × Int32} (h : fRounds_misplaced_h15 n s x2 = some q) : RR 194 15 [oR 138 0, oR 124 0, oI x2, j3] [] s (cvI q) := ti_fRounds_misplaced_h15 n s x2 j3 q h
theorem T_fRounds_misplaced {s : ev_M} {q : ev_M × Int32} (h : fRounds_misplaced s = some q) : RR 194 0 [oR 138 0, nn, nn, nn] [] s (cvI q) := by
  refine rg_step 7 (G' := fun f => ev_after (evT f 537 0 [oR 124 0, oI (cI 0), nn, nn] [] s) (fun q => evT f 194 13 [oR 138 0, oR 124 0, nn, nn] (q.2 ++ []) q.1)) (fun _ => rfl) (rg_bd1 h fun s3 hc h => rg_call (q := cvV s3) (T_fArr_fillI_124 hc) ?_)
  exact rg_step 2 (G' := fun f => evT f 194 15 [oR 138 0, oR 124 0, oI (cI 0), nn] [] s3) (fun _ => rfl) ((t_fRounds_misplaced_h15) h)
theorem t_fLock_misplaced_b67 {k15 : ev_M → Int32 → Option (ev_M × Int32)} {k25 : ev_M → Int32 → Int32 → Option (ev_M × Int32)} (hk15 : ∀ {s : ev_M} {x2 : Int32} {j3 : Option ev_V} {q : ev_M × Int32}, k15 s x2 = some q → RR 120 15 [oR 125 0, oR 124 0, oI x2, j3] [] s (cvI q)) (hk25 : ∀ {s : ev_M} {x2 : Int32} {x3 : Int32} {q : ev_M × Int32}, k25 s x2 x3 = some q → RR 120 25 [oR 125 0, oR 124 0, oI x2, oI x3] [] s (cvI q)) {s : ev_M} {x2 : Int32} {x3 : Int32} {q : ev_M × Int32} (h : fLock_misplaced_b67 k15 k25 s x2 x3 = some q) : RR 120 67 [oR 125 0, oR 124 0, oI x2, oI x3] [] s (cvI q) := by
  exact rg_step 2 (G' := fun f => evT f 120 25 [oR 125 0, oR 124 0, oI x2, oI (x3 + cI 1)] [] s) (fun _ => rfl) (hk25 h)
theorem ti_fLock_misplaced_h25 {k15 : ev_M → Int32 → Option (ev_M × Int32)} (hk15 : ∀ {s : ev_M} {x2 : Int32} {j3 : Option ev_V} {q : ev_M × Int32}, k15 s x2 = some q → RR 120 15 [oR 125 0, oR 124 0, oI x2, j3] [] s (cvI q)) : ∀ (n : Nat) (s : ev_M) (x2 : Int32) (x3 : Int32) (q : ev_M × Int32), fLock_misplaced_h25 k15 n s x2 x3 = some q → RR 120 25 [oR 125 0, oR 124 0, oI x2, oI x3] [] s (cvI q) := by
  intro n
  induction n with
  | zero => intro s x2 x3 q h; cases h
  | succ n ih =>
    have hk25 : ∀ {s : ev_M} {x2 : Int32} {x3 : Int32} {q : ev_M × Int32}, fLock_misplaced_h25 k15 n s x2 x3 = some q → RR 120 25 [oR 125 0, oR 124 0, oI x2, oI x3] [] s (cvI q) := fun h => ih _ _ _ _ h
    intro s x2 x3 q h
    refine rg_step 5 (G' := fun f => if inb x2 8 = true then evT f 120 32 [oR 125 0, oR 124 0, oI x2, oI x3] [vI (s.1 127 (ix x2)), vI x3] s else none) (fun _ => rfl) (rg_gd h fun h => ?_)
    refine rg_step 1 (G' := fun f => if x3 < (s.1 127 (ix x2)) then evT f 120 35 [oR 125 0, oR 124 0, oI x2, oI x3] [] s else evT f 120 73 [oR 125 0, oR 124 0, oI x2, oI x3] [] s) (fun _ => rfl) (rg_if h (fun h => ?_) fun h => ?_)
    · refine rg_step 6 (G' := fun f => if inb x2 8 = true then evT f 120 45 [oR 125 0, oR 124 0, oI x2, oI x3] [vR 130 (ix x2), vR 100 0] s else none) (fun _ => rfl) (rg_gd h fun h => ?_)
      refine rg_step 2 (G' := fun f => if inb x3 10 = true then evT f 120 47 [oR 125 0, oR 124 0, oI x2, oI x3] [vI (s.1 (130 + (ix x2)) (ix x3)), vR 100 0] s else none) (fun _ => rfl) (rg_gd h fun h => ?_)
      refine rg_step 1 (G' := fun f => ev_after (evT f 51 0 [oR 100 0, oI (s.1 (130 + (ix x2)) (ix x3))] [] s) (fun q => evT f 120 50 [oR 125 0, oR 124 0, oI x2, oI x3] (q.2 ++ []) q.1)) (fun _ => rfl) (rg_bd1 h fun v1 hc h => rg_call (q := cvP s v1) (T_fItems_has hc) ?_)
      refine rg_step 1 (G' := fun f => if v1 = 0 then evT f 120 67 [oR 125 0, oR 124 0, oI x2, oI x3] [] s else evT f 120 53 [oR 125 0, oR 124 0, oI x2, oI x3] [] s) (fun _ => rfl) (rg_if h (fun h => ?_) fun h => ?_)
      · exact (t_fLock_misplaced_b67 hk15 hk25) h
      · refine rg_step 5 (G' := fun f => if inb x2 8 = true then evT f 120 60 [oR 125 0, oR 124 0, oI x2, oI x3] [vR 130 (ix x2), vR 124 0] s else none) (fun _ => rfl) (rg_gd h fun h => ?_)
        refine rg_step 2 (G' := fun f => if inb x3 10 = true then evT f 120 62 [oR 125 0, oR 124 0, oI x2, oI x3] [vI (s.1 (130 + (ix x2)) (ix x3)), vR 124 0] s else none) (fun _ => rfl) (rg_gd h fun h => ?_)
        refine rg_step 2 (G' := fun f => if inb (s.1 (130 + (ix x2)) (ix x3)) 300 = true then evT f 120 64 [oR 125 0, oR 124 0, oI x2, oI x3] [vI (s.1 124 (ix (s.1 (130 + (ix x2)) (ix x3)))), vI (s.1 (130 + (ix x2)) (ix x3)), vR 124 0] s else none) (fun _ => rfl) (rg_gd h fun h => ?_)
        refine rg_step 3 (G' := fun f => if inb (s.1 (130 + (ix x2)) (ix x3)) 300 = true then evT f 120 67 [oR 125 0, oR 124 0, oI x2, oI x3] [] (wI s 124 (ix (s.1 (130 + (ix x2)) (ix x3))) ((s.1 124 (ix (s.1 (130 + (ix x2)) (ix x3)))) + (cI 1))) else none) (fun _ => rfl) (rg_gd h fun h => rg_ltM h fun s2 h => ?_)
        exact (t_fLock_misplaced_b67 hk15 hk25) h
    · exact rg_step 2 (G' := fun f => evT f 120 15 [oR 125 0, oR 124 0, oI (x2 + cI 1), oI x3] [] s) (fun _ => rfl) (hk15 h)
theorem t_fLock_misplaced_h25 {k15 : ev_M → Int32 → Option (ev_M × Int32)} (hk15 : ∀ {s : ev_M} {x2 : Int32} {j3 : Option ev_V} {q : ev_M × Int32}, k15 s x2 = some q → RR 120 15 [oR 125 0, oR 124 0, oI x2, j3] [] s (cvI q)) {n : Nat} {s : ev_M} {x2 : Int32} {x3 : Int32} {q : ev_M × Int32} (h : fLock_misplaced_h25 k15 n s x2 x3 = some q) : RR 120 25 [oR 125 0, oR 124 0, oI x2, oI x3] [] s (cvI q) := ti_fLock_misplaced_h25 hk15 n s x2 x3 q h
theorem t_fLock_misplaced_b124 {k83 : ev_M → Int32 → Int32 → Option (ev_M × Int32)} (hk83 : ∀ {s : ev_M} {x2 : Int32} {x3 : Int32} {q : ev_M × Int32}, k83 s x2 x3 = some q → RR 120 83 [oR 125 0, oR 124 0, oI x2, oI x3] [] s (cvI q)) {s : ev_M} {x2 : Int32} {x3 : Int32} {q : ev_M × Int32} (h : fLock_misplaced_b124 k83 s x2 x3 = some q) : RR 120 124 [oR 125 0, oR 124 0, oI x2, oI x3] [] s (cvI q) := by
  exact rg_step 2 (G' := fun f => evT f 120 83 [oR 125 0, oR 124 0, oI x2, oI (x3 + cI 1)] [] s) (fun _ => rfl) (hk83 h)
theorem t_fLock_misplaced_b118 {k83 : ev_M → Int32 → Int32 → Option (ev_M × Int32)} (hk83 : ∀ {s : ev_M} {x2 : Int32} {x3 : Int32} {q : ev_M × Int32}, k83 s x2 x3 = some q → RR 120 83 [oR 125 0, oR 124 0, oI x2, oI x3] [] s (cvI q)) {s : ev_M} {x2 : Int32} {x3 : Int32} {y0 : Int32} {y1 : Int32} {q : ev_M × Int32} (h : fLock_misplaced_b118 k83 s x2 x3 y0 y1 = some q) : RR 120 118 [oR 125 0, oR 124 0, oI x2, oI x3] [vI y1, vI y0] s (cvI q) := by
  refine rg_step 1 (G' := fun f => if y0 = y1 then evT f 120 124 [oR 125 0, oR 124 0, oI x2, oI x3] [] s else evT f 120 121 [oR 125 0, oR 124 0, oI x2, oI x3] [] s) (fun _ => rfl) (rg_if h (fun h => ?_) fun h => ?_)
  · exact (t_fLock_misplaced_b124 hk83) h
  · exact rg_step 1 (G' := fun f => evT f 120 124 [oR 125 0, oR 124 0, oI (x2 + cI 1), oI x3] [] s) (fun _ => rfl) ((t_fLock_misplaced_b124 hk83) h)
theorem ti_fLock_misplaced_h83 : ∀ (n : Nat) (s : ev_M) (x2 : Int32) (x3 : Int32) (q : ev_M × Int32), fLock_misplaced_h83 n s x2 x3 = some q → RR 120 83 [oR 125 0, oR 124 0, oI x2, oI x3] [] s (cvI q) := by
  intro n
  induction n with
  | zero => intro s x2 x3 q h; cases h
  | succ n ih =>
    have hk83 : ∀ {s : ev_M} {x2 : Int32} {x3 : Int32} {q : ev_M × Int32}, fLock_misplaced_h83 n s x2 x3 = some q → RR 120 83 [oR 125 0, oR 124 0, oI x2, oI x3] [] s (cvI q) := fun h => ih _ _ _ _ h
    intro s x2 x3 q h
    refine rg_step 5 (G' := fun f => if x3 < (s.1 100 5) then evT f 120 94 [oR 125 0, oR 124 0, oI x2, oI x3] [] s else evT f 120 130 [oR 125 0, oR 124 0, oI x2, oI x3] [] s) (fun _ => rfl) (rg_if h (fun h => ?_) fun h => ?_)
    · refine rg_step 3 (G' := fun f => if inb x3 300 = true then evT f 120 97 [oR 125 0, oR 124 0, oI x2, oI x3] [vI (s.1 124 (ix x3))] s else none) (fun _ => rfl) (rg_gd h fun h => ?_)
      refine rg_step 7 (G' := fun f => if inb x3 300 = true then evT f 120 109 [oR 125 0, oR 124 0, oI x2, oI x3] [vI (s.1 (102 + (ix (cI 15))) (ix x3)), vI (s.1 124 (ix x3))] s else none) (fun _ => rfl) (rg_gd h fun h => ?_)
      refine rg_step 2 (G' := fun f => if (s.1 (102 + (ix (cI 15))) (ix x3)) = (cI (-1)) then evT f 120 113 [oR 125 0, oR 124 0, oI x2, oI x3] [vI (s.1 124 (ix x3))] s else evT f 120 117 [oR 125 0, oR 124 0, oI x2, oI x3] [vI (s.1 124 (ix x3))] s) (fun _ => rfl) (rg_if h (fun h => ?_) fun h => ?_)
      · exact rg_step 2 (G' := fun f => evT f 120 118 [oR 125 0, oR 124 0, oI x2, oI x3] [vI (cI 0), vI (s.1 124 (ix x3))] s) (fun _ => rfl) ((t_fLock_misplaced_b118 hk83) h)
      · exact rg_step 1 (G' := fun f => evT f 120 118 [oR 125 0, oR 124 0, oI x2, oI x3] [vI (cI 1), vI (s.1 124 (ix x3))] s) (fun _ => rfl) ((t_fLock_misplaced_b118 hk83) h)
    · exact rg_end 2 (fun _ => rfl) (by cases h; rfl)
theorem t_fLock_misplaced_h83 {n : Nat} {s : ev_M} {x2 : Int32} {x3 : Int32} {q : ev_M × Int32} (h : fLock_misplaced_h83 n s x2 x3 = some q) : RR 120 83 [oR 125 0, oR 124 0, oI x2, oI x3] [] s (cvI q) := ti_fLock_misplaced_h83 n s x2 x3 q h
theorem ti_fLock_misplaced_h15 : ∀ (n : Nat) (s : ev_M) (x2 : Int32) (j3 : Option ev_V) (q : ev_M × Int32), fLock_misplaced_h15 n s x2 = some q → RR 120 15 [oR 125 0, oR 124 0, oI x2, j3] [] s (cvI q) := by
  intro n
  induction n with
  | zero => intro s x2 j3 q h; cases h
  | succ n ih =>
    have hk15 : ∀ {s : ev_M} {x2 : Int32} {j3 : Option ev_V} {q : ev_M × Int32}, fLock_misplaced_h15 n s x2 = some q → RR 120 15 [oR 125 0, oR 124 0, oI x2, j3] [] s (cvI q) := fun h => ih _ _ _ _ h
    intro s x2 j3 q h
    refine rg_step 4 (G' := fun f => if x2 < (s.1 125 3) then evT f 120 23 [oR 125 0, oR 124 0, oI x2, nn] [] s else evT f 120 79 [oR 125 0, oR 124 0, oI x2, nn] [] s) (fun _ => rfl) (rg_if h (fun h => ?_) fun h => ?_)
    · exact rg_step 2 (G' := fun f => evT f 120 25 [oR 125 0, oR 124 0, oI x2, oI (cI 0)] [] s) (fun _ => rfl) ((t_fLock_misplaced_h25 hk15) h)
    · exact rg_step 4 (G' := fun f => evT f 120 83 [oR 125 0, oR 124 0, oI (cI 0), oI (cI 0)] [] s) (fun _ => rfl) ((t_fLock_misplaced_h83) h)
theorem t_fLock_misplaced_h15 {n : Nat} {s : ev_M} {x2 : Int32} {j3 : Option ev_V} {q : ev_M × Int32} (h : fLock_misplaced_h15 n s x2 = some q) : RR 120 15 [oR 125 0, oR 124 0, oI x2, j3] [] s (cvI q) := ti_fLock_misplaced_h15 n s x2 j3 q h
theorem T_fLock_misplaced {s : ev_M} {q : ev_M × Int32} (h : fLock_misplaced s = some q) : RR 120 0 [oR 125 0, nn, nn, nn] [] s (cvI q) := by
  refine rg_step 7 (G' := fun f => ev_after (evT f 537 0 [oR 124 0, oI (cI 0), nn, nn] [] s) (fun q => evT f 120 13 [oR 125 0, oR 124 0, nn, nn] (q.2 ++ []) q.1)) (fun _ => rfl) (rg_bd1 h fun s3 hc h => rg_call (q := cvV s3) (T_fArr_fillI_124 hc) ?_)
  exact rg_step 2 (G' := fun f => evT f 120 15 [oR 125 0, oR 124 0, oI (cI 0), nn] [] s3) (fun _ => rfl) ((t_fLock_misplaced_h15) h)
theorem T_fPH_audit {s : ev_M} {q : ev_M × Int32} (h : fPH_audit s = some q) : RR 301 0 [oR 0 0] [] s (cvI q) := by
  refine rg_step 4 (G' := fun f => if (s.1 9 9) = 0 then evT f 301 13 [oR 0 0] [] s else evT f 301 10 [oR 0 0] [] s) (fun _ => rfl) (rg_if h (fun h => ?_) fun h => ?_)
  · refine rg_step 3 (G' := fun f => ev_after (evT f 165 0 [oR 78 0, nn, nn, nn, nn] [] s) (fun q => evT f 301 20 [oR 0 0] (q.2 ++ []) q.1)) (fun _ => rfl) (rg_bd1 h fun v1 hc h => rg_call (q := cvP s v1) (T_fMoney_faults hc) ?_)
    refine rg_step 3 (G' := fun f => ev_after (evT f 106 0 [oR 449 0, nn, nn] [] s) (fun q => evT f 301 27 [oR 0 0] (q.2 ++ [vI v1]) q.1)) (fun _ => rfl) (rg_bd1 h fun v2 hc h => rg_call (q := cvP s v2) (T_fLines_overladen hc) ?_)
    refine rg_step 4 (G' := fun f => ev_after (evT f 107 0 [oR 449 0, nn, nn, nn] [] s) (fun q => evT f 301 35 [oR 0 0] (q.2 ++ [vI (v1 + v2)]) q.1)) (fun _ => rfl) (rg_bd2 h fun s3 v4 hc h => rg_call (q := cvI (s3, v4)) (T_fLines_misplaced hc) ?_)
    refine rg_step 4 (G' := fun f => ev_after (evT f 194 0 [oR 138 0, nn, nn, nn] [] s3) (fun q => evT f 301 43 [oR 0 0] (q.2 ++ [vI ((v1 + v2) + v4)]) q.1)) (fun _ => rfl) (rg_bd2 h fun s5 v6 hc h => rg_call (q := cvI (s5, v6)) (T_fRounds_misplaced hc) ?_)
    refine rg_step 4 (G' := fun f => ev_after (evT f 120 0 [oR 125 0, nn, nn, nn] [] s5) (fun q => evT f 301 51 [oR 0 0] (q.2 ++ [vI (((v1 + v2) + v4) + v6)]) q.1)) (fun _ => rfl) (rg_bd2 h fun s7 v8 hc h => rg_call (q := cvI (s7, v8)) (T_fLock_misplaced hc) ?_)
    exact rg_end 2 (fun _ => rfl) (by cases h; rfl)
  · exact rg_end 2 (fun _ => rfl) (by cases h; rfl)
theorem T_fM_audit {s : ev_M} {q : ev_M × Int32} (h : fM_audit s = some q) : RR 529 0 [oR 549 0] [] s (cvI q) := by
  refine rg_step 3 (G' := fun f => evT f 529 5 [oR 549 0] [] (wI s 549 0 (cI 0))) (fun _ => rfl) (rg_ltM h fun s1 h => ?_)
  refine rg_step 3 (G' := fun f => if (s1.1 549 5) = 0 then evT f 529 17 [oR 549 0] [] s1 else evT f 529 12 [oR 549 0] [] s1) (fun _ => rfl) (rg_if h (fun h => ?_) fun h => ?_)
  · exact rg_end 2 (fun _ => rfl) (by cases h; rfl)
  · exact rg_end 3 (fun _ => rfl) (by cases h; rfl)
theorem t_fLaw_b3122 {k23 : ev_M → Int32 → Option (ev_M × Int32)} (hk23 : ∀ {s : ev_M} {x4 : Int32} {j5 : Option ev_V} {j6 : Option ev_V} {q : ev_M × Int32}, k23 s x4 = some q → RR 539 23 [oR 1020 0, oR 0 0, oR 549 0, oR 681 0, oI x4, j5, j6] [] s (cvI q)) {s : ev_M} {x4 : Int32} {j5 : Option ev_V} {j6 : Option ev_V} {q : ev_M × Int32} (h : fLaw_b3122 k23 s x4 = some q) : RR 539 3122 [oR 1020 0, oR 0 0, oR 549 0, oR 681 0, oI x4, j5, j6] [] s (cvI q) := by
  exact rg_step 2 (G' := fun f => evT f 539 23 [oR 1020 0, oR 0 0, oR 549 0, oR 681 0, oI (x4 + cI 7), nn, nn] [] s) (fun _ => rfl) (hk23 h)
theorem t_fLaw_b457 {k23 : ev_M → Int32 → Option (ev_M × Int32)} (hk23 : ∀ {s : ev_M} {x4 : Int32} {j5 : Option ev_V} {j6 : Option ev_V} {q : ev_M × Int32}, k23 s x4 = some q → RR 539 23 [oR 1020 0, oR 0 0, oR 549 0, oR 681 0, oI x4, j5, j6] [] s (cvI q)) {s : ev_M} {x4 : Int32} {j5 : Option ev_V} {j6 : Option ev_V} {q : ev_M × Int32} (h : fLaw_b457 k23 s x4 = some q) : RR 539 457 [oR 1020 0, oR 0 0, oR 549 0, oR 681 0, oI x4, j5, j6] [] s (cvI q) := by
  exact rg_step 1 (G' := fun f => evT f 539 3122 [oR 1020 0, oR 0 0, oR 549 0, oR 681 0, oI x4, nn, nn] [] s) (fun _ => rfl) ((t_fLaw_b3122 hk23) h)
theorem t_fLaw_b637 {k23 : ev_M → Int32 → Option (ev_M × Int32)} (hk23 : ∀ {s : ev_M} {x4 : Int32} {j5 : Option ev_V} {j6 : Option ev_V} {q : ev_M × Int32}, k23 s x4 = some q → RR 539 23 [oR 1020 0, oR 0 0, oR 549 0, oR 681 0, oI x4, j5, j6] [] s (cvI q)) {s : ev_M} {x4 : Int32} {j5 : Option ev_V} {j6 : Option ev_V} {q : ev_M × Int32} (h : fLaw_b637 k23 s x4 = some q) : RR 539 637 [oR 1020 0, oR 0 0, oR 549 0, oR 681 0, oI x4, j5, j6] [] s (cvI q) := by
  exact rg_step 1 (G' := fun f => evT f 539 3122 [oR 1020 0, oR 0 0, oR 549 0, oR 681 0, oI x4, nn, nn] [] s) (fun _ => rfl) ((t_fLaw_b3122 hk23) h)
theorem t_fLaw_b717 {k23 : ev_M → Int32 → Option (ev_M × Int32)} (hk23 : ∀ {s : ev_M} {x4 : Int32} {j5 : Option ev_V} {j6 : Option ev_V} {q : ev_M × Int32}, k23 s x4 = some q → RR 539 23 [oR 1020 0, oR 0 0, oR 549 0, oR 681 0, oI x4, j5, j6] [] s (cvI q)) {s : ev_M} {x4 : Int32} {j5 : Option ev_V} {j6 : Option ev_V} {q : ev_M × Int32} (h : fLaw_b717 k23 s x4 = some q) : RR 539 717 [oR 1020 0, oR 0 0, oR 549 0, oR 681 0, oI x4, j5, j6] [] s (cvI q) := by
  exact rg_step 1 (G' := fun f => evT f 539 3122 [oR 1020 0, oR 0 0, oR 549 0, oR 681 0, oI x4, nn, nn] [] s) (fun _ => rfl) ((t_fLaw_b3122 hk23) h)
theorem t_fLaw_b3026 {k23 : ev_M → Int32 → Option (ev_M × Int32)} (hk23 : ∀ {s : ev_M} {x4 : Int32} {j5 : Option ev_V} {j6 : Option ev_V} {q : ev_M × Int32}, k23 s x4 = some q → RR 539 23 [oR 1020 0, oR 0 0, oR 549 0, oR 681 0, oI x4, j5, j6] [] s (cvI q)) {s : ev_M} {x4 : Int32} {y0 : Int32} {y2 : Int32} {y3 : Int32} {y4 : Int32} {j5 : Option ev_V} {j6 : Option ev_V} {q : ev_M × Int32} (h : fLaw_b3026 k23 s x4 y0 y2 y3 y4 = some q) : RR 539 3026 [oR 1020 0, oR 0 0, oR 549 0, oR 681 0, oI x4, j5, j6] [vI y4, vI y3, vI y2, vR 549 0, vI y0] s (cvI q) := by
  refine rg_step 1 (G' := fun f => ev_after (evT f 521 0 [oR 549 0, oI y2, oI y3, oI y4] [] s) (fun q => evT f 539 3029 [oR 1020 0, oR 0 0, oR 549 0, oR 681 0, oI x4, nn, nn] (q.2 ++ [vI y0]) q.1)) (fun _ => rfl) (rg_bd2 h fun s1 v2 hc h => rg_call (q := cvI (s1, v2)) (T_fM_wish hc) ?_)
  refine rg_step 1 (G' := fun f => if y0 = v2 then evT f 539 3122 [oR 1020 0, oR 0 0, oR 549 0, oR 681 0, oI x4, nn, nn] [] s1 else evT f 539 3032 [oR 1020 0, oR 0 0, oR 549 0, oR 681 0, oI x4, nn, nn] [] s1) (fun _ => rfl) (rg_if h (fun h => ?_) fun h => ?_)
  · exact (t_fLaw_b3122 hk23) h
  · exact rg_end 2 (fun _ => rfl) (by cases h; rfl)
theorem t_fLaw_b2996 {k23 : ev_M → Int32 → Option (ev_M × Int32)} (hk23 : ∀ {s : ev_M} {x4 : Int32} {j5 : Option ev_V} {j6 : Option ev_V} {q : ev_M × Int32}, k23 s x4 = some q → RR 539 23 [oR 1020 0, oR 0 0, oR 549 0, oR 681 0, oI x4, j5, j6] [] s (cvI q)) {s : ev_M} {x4 : Int32} {y1 : Int32} {y2 : Int32} {y3 : Int32} {j5 : Option ev_V} {j6 : Option ev_V} {q : ev_M × Int32} (h : fLaw_b2996 k23 s x4 y1 y2 y3 = some q) : RR 539 2996 [oR 1020 0, oR 0 0, oR 549 0, oR 681 0, oI x4, j5, j6] [vI y3, vI y2, vI y1, vR 0 0] s (cvI q) := by
  refine rg_step 1 (G' := fun f => ev_after (evT f 297 0 [oR 0 0, oI y1, oI y2, oI y3] [] s) (fun q => evT f 539 2999 [oR 1020 0, oR 0 0, oR 549 0, oR 681 0, oI x4, nn, nn] (q.2 ++ []) q.1)) (fun _ => rfl) (rg_bd2 h fun s3 v4 hc h => rg_call (q := cvI (s3, v4)) (T_fPH_wish hc) ?_)
  refine rg_step 6 (G' := fun f => if inb (x4 + (cI 1)) (ix (s3.1 1021 0)) = true then evT f 539 3006 [oR 1020 0, oR 0 0, oR 549 0, oR 681 0, oI x4, nn, nn] [vI (s3.1 1020 (ix (x4 + (cI 1)))), vR 549 0, vI v4] s3 else none) (fun _ => rfl) (rg_gd h fun h => ?_)
  refine rg_step 5 (G' := fun f => if inb (x4 + (cI 2)) (ix (s3.1 1021 0)) = true then evT f 539 3012 [oR 1020 0, oR 0 0, oR 549 0, oR 681 0, oI x4, nn, nn] [vI (s3.1 1020 (ix (x4 + (cI 2)))), vI (s3.1 1020 (ix (x4 + (cI 1)))), vR 549 0, vI v4] s3 else none) (fun _ => rfl) (rg_gd h fun h => ?_)
  refine rg_step 5 (G' := fun f => if inb (x4 + (cI 3)) (ix (s3.1 1021 0)) = true then evT f 539 3018 [oR 1020 0, oR 0 0, oR 549 0, oR 681 0, oI x4, nn, nn] [vI (s3.1 1020 (ix (x4 + (cI 3)))), vI (s3.1 1020 (ix (x4 + (cI 2)))), vI (s3.1 1020 (ix (x4 + (cI 1)))), vR 549 0, vI v4] s3 else none) (fun _ => rfl) (rg_gd h fun h => ?_)
  refine rg_step 1 (G' := fun f => if (s3.1 1020 (ix (x4 + (cI 3)))) = 0 then evT f 539 3025 [oR 1020 0, oR 0 0, oR 549 0, oR 681 0, oI x4, nn, nn] [vI (s3.1 1020 (ix (x4 + (cI 2)))), vI (s3.1 1020 (ix (x4 + (cI 1)))), vR 549 0, vI v4] s3 else evT f 539 3021 [oR 1020 0, oR 0 0, oR 549 0, oR 681 0, oI x4, nn, nn] [vI (s3.1 1020 (ix (x4 + (cI 2)))), vI (s3.1 1020 (ix (x4 + (cI 1)))), vR 549 0, vI v4] s3) (fun _ => rfl) (rg_if h (fun h => ?_) fun h => ?_)
  · exact rg_step 1 (G' := fun f => evT f 539 3026 [oR 1020 0, oR 0 0, oR 549 0, oR 681 0, oI x4, nn, nn] [vI (cI 0), vI (s3.1 1020 (ix (x4 + (cI 2)))), vI (s3.1 1020 (ix (x4 + (cI 1)))), vR 549 0, vI v4] s3) (fun _ => rfl) ((t_fLaw_b3026 hk23) h)
  · exact rg_step 2 (G' := fun f => evT f 539 3026 [oR 1020 0, oR 0 0, oR 549 0, oR 681 0, oI x4, nn, nn] [vI (cI 1), vI (s3.1 1020 (ix (x4 + (cI 2)))), vI (s3.1 1020 (ix (x4 + (cI 1)))), vR 549 0, vI v4] s3) (fun _ => rfl) ((t_fLaw_b3026 hk23) h)
theorem ti_fLaw_h23 : ∀ (n : Nat) (s : ev_M) (x4 : Int32) (j5 : Option ev_V) (j6 : Option ev_V) (q : ev_M × Int32), fLaw_h23 n s x4 = some q → RR 539 23 [oR 1020 0, oR 0 0, oR 549 0, oR 681 0, oI x4, j5, j6] [] s (cvI q) := by
  intro n
  induction n with
  | zero => intro s x4 j5 j6 q h; cases h
  | succ n ih =>
    have hk23 : ∀ {s : ev_M} {x4 : Int32} {j5 : Option ev_V} {j6 : Option ev_V} {q : ev_M × Int32}, fLaw_h23 n s x4 = some q → RR 539 23 [oR 1020 0, oR 0 0, oR 549 0, oR 681 0, oI x4, j5, j6] [] s (cvI q) := fun h => ih _ _ _ _ _ h
    intro s x4 j5 j6 q h
    refine rg_step 6 (G' := fun f => if x4 ≤ ((s.1 1021 0) - (cI 7)) then evT f 539 33 [oR 1020 0, oR 0 0, oR 549 0, oR 681 0, oI x4, nn, nn] [] s else evT f 539 3128 [oR 1020 0, oR 0 0, oR 549 0, oR 681 0, oI x4, nn, nn] [] s) (fun _ => rfl) (rg_if h (fun h => ?_) fun h => ?_)
    · refine rg_step 3 (G' := fun f => if inb x4 (ix (s.1 1021 0)) = true then evT f 539 37 [oR 1020 0, oR 0 0, oR 549 0, oR 681 0, oI x4, nn, nn] [vI (s.1 1020 (ix x4))] s else none) (fun _ => rfl) (rg_gd h fun h => ?_)
      refine rg_step 3 (G' := fun f => if ((s.1 1020 (ix x4)) &&& (cI 127)) = cI 0 then evT f 539 356 [oR 1020 0, oR 0 0, oR 549 0, oR 681 0, oI x4, nn, nn] [] s else if ((s.1 1020 (ix x4)) &&& (cI 127)) = cI 1 then evT f 539 460 [oR 1020 0, oR 0 0, oR 549 0, oR 681 0, oI x4, nn, nn] [] s else if ((s.1 1020 (ix x4)) &&& (cI 127)) = cI 2 then evT f 539 496 [oR 1020 0, oR 0 0, oR 549 0, oR 681 0, oI x4, nn, nn] [] s else if ((s.1 1020 (ix x4)) &&& (cI 127)) = cI 3 then evT f 539 509 [oR 1020 0, oR 0 0, oR 549 0, oR 681 0, oI x4, nn, nn] [] s else if ((s.1 1020 (ix x4)) &&& (cI 127)) = cI 4 then evT f 539 546 [oR 1020 0, oR 0 0, oR 549 0, oR 681 0, oI x4, nn, nn] [] s else if ((s.1 1020 (ix x4)) &&& (cI 127)) = cI 5 then evT f 539 559 [oR 1020 0, oR 0 0, oR 549 0, oR 681 0, oI x4, nn, nn] [] s else if ((s.1 1020 (ix x4)) &&& (cI 127)) = cI 6 then evT f 539 572 [oR 1020 0, oR 0 0, oR 549 0, oR 681 0, oI x4, nn, nn] [] s else if ((s.1 1020 (ix x4)) &&& (cI 127)) = cI 7 then evT f 539 640 [oR 1020 0, oR 0 0, oR 549 0, oR 681 0, oI x4, nn, nn] [] s else if ((s.1 1020 (ix x4)) &&& (cI 127)) = cI 8 then evT f 539 720 [oR 1020 0, oR 0 0, oR 549 0, oR 681 0, oI x4, nn, nn] [] s else if ((s.1 1020 (ix x4)) &&& (cI 127)) = cI 9 then evT f 539 745 [oR 1020 0, oR 0 0, oR 549 0, oR 681 0, oI x4, nn, nn] [] s else if ((s.1 1020 (ix x4)) &&& (cI 127)) = cI 10 then evT f 539 758 [oR 1020 0, oR 0 0, oR 549 0, oR 681 0, oI x4, nn, nn] [] s else if ((s.1 1020 (ix x4)) &&& (cI 127)) = cI 11 then evT f 539 819 [oR 1020 0, oR 0 0, oR 549 0, oR 681 0, oI x4, nn, nn] [] s else if ((s.1 1020 (ix x4)) &&& (cI 127)) = cI 12 then evT f 539 868 [oR 1020 0, oR 0 0, oR 549 0, oR 681 0, oI x4, nn, nn] [] s else if ((s.1 1020 (ix x4)) &&& (cI 127)) = cI 13 then evT f 539 905 [oR 1020 0, oR 0 0, oR 549 0, oR 681 0, oI x4, nn, nn] [] s else if ((s.1 1020 (ix x4)) &&& (cI 127)) = cI 14 then evT f 539 942 [oR 1020 0, oR 0 0, oR 549 0, oR 681 0, oI x4, nn, nn] [] s else if ((s.1 1020 (ix x4)) &&& (cI 127)) = cI 15 then evT f 539 967 [oR 1020 0, oR 0 0, oR 549 0, oR 681 0, oI x4, nn, nn] [] s else if ((s.1 1020 (ix x4)) &&& (cI 127)) = cI 16 then evT f 539 1004 [oR 1020 0, oR 0 0, oR 549 0, oR 681 0, oI x4, nn, nn] [] s else if ((s.1 1020 (ix x4)) &&& (cI 127)) = cI 17 then evT f 539 1029 [oR 1020 0, oR 0 0, oR 549 0, oR 681 0, oI x4, nn, nn] [] s else if ((s.1 1020 (ix x4)) &&& (cI 127)) = cI 18 then evT f 539 1042 [oR 1020 0, oR 0 0, oR 549 0, oR 681 0, oI x4, nn, nn] [] s else if ((s.1 1020 (ix x4)) &&& (cI 127)) = cI 19 then evT f 539 1079 [oR 1020 0, oR 0 0, oR 549 0, oR 681 0, oI x4, nn, nn] [] s else if ((s.1 1020 (ix x4)) &&& (cI 127)) = cI 20 then evT f 539 1128 [oR 1020 0, oR 0 0, oR 549 0, oR 681 0, oI x4, nn, nn] [] s else if ((s.1 1020 (ix x4)) &&& (cI 127)) = cI 21 then evT f 539 1215 [oR 1020 0, oR 0 0, oR 549 0, oR 681 0, oI x4, nn, nn] [] s else if ((s.1 1020 (ix x4)) &&& (cI 127)) = cI 22 then evT f 539 1252 [oR 1020 0, oR 0 0, oR 549 0, oR 681 0, oI x4, nn, nn] [] s else if ((s.1 1020 (ix x4)) &&& (cI 127)) = cI 23 then evT f 539 1277 [oR 1020 0, oR 0 0, oR 549 0, oR 681 0, oI x4, nn, nn] [] s else if ((s.1 1020 (ix x4)) &&& (cI 127)) = cI 24 then evT f 539 1326 [oR 1020 0, oR 0 0, oR 549 0, oR 681 0, oI x4, nn, nn] [] s else if ((s.1 1020 (ix x4)) &&& (cI 127)) = cI 25 then evT f 539 1363 [oR 1020 0, oR 0 0, oR 549 0, oR 681 0, oI x4, nn, nn] [] s else if ((s.1 1020 (ix x4)) &&& (cI 127)) = cI 26 then evT f 539 1400 [oR 1020 0, oR 0 0, oR 549 0, oR 681 0, oI x4, nn, nn] [] s else if ((s.1 1020 (ix x4)) &&& (cI 127)) = cI 27 then evT f 539 1437 [oR 1020 0, oR 0 0, oR 549 0, oR 681 0, oI x4, nn, nn] [] s else if ((s.1 1020 (ix x4)) &&& (cI 127)) = cI 28 then evT f 539 1450 [oR 1020 0, oR 0 0, oR 549 0, oR 681 0, oI x4, nn, nn] [] s else if ((s.1 1020 (ix x4)) &&& (cI 127)) = cI 29 then evT f 539 1463 [oR 1020 0, oR 0 0, oR 549 0, oR 681 0, oI x4, nn, nn] [] s else if ((s.1 1020 (ix x4)) &&& (cI 127)) = cI 30 then evT f 539 1524 [oR 1020 0, oR 0 0, oR 549 0, oR 681 0, oI x4, nn, nn] [] s else if ((s.1 1020 (ix x4)) &&& (cI 127)) = cI 31 then evT f 539 1573 [oR 1020 0, oR 0 0, oR 549 0, oR 681 0, oI x4, nn, nn] [] s else if ((s.1 1020 (ix x4)) &&& (cI 127)) = cI 32 then evT f 539 1610 [oR 1020 0, oR 0 0, oR 549 0, oR 681 0, oI x4, nn, nn] [] s else if ((s.1 1020 (ix x4)) &&& (cI 127)) = cI 33 then evT f 539 1635 [oR 1020 0, oR 0 0, oR 549 0, oR 681 0, oI x4, nn, nn] [] s else if ((s.1 1020 (ix x4)) &&& (cI 127)) = cI 34 then evT f 539 1672 [oR 1020 0, oR 0 0, oR 549 0, oR 681 0, oI x4, nn, nn] [] s else if ((s.1 1020 (ix x4)) &&& (cI 127)) = cI 35 then evT f 539 1697 [oR 1020 0, oR 0 0, oR 549 0, oR 681 0, oI x4, nn, nn] [] s else if ((s.1 1020 (ix x4)) &&& (cI 127)) = cI 36 then evT f 539 1710 [oR 1020 0, oR 0 0, oR 549 0, oR 681 0, oI x4, nn, nn] [] s else if ((s.1 1020 (ix x4)) &&& (cI 127)) = cI 37 then evT f 539 1735 [oR 1020 0, oR 0 0, oR 549 0, oR 681 0, oI x4, nn, nn] [] s else if ((s.1 1020 (ix x4)) &&& (cI 127)) = cI 38 then evT f 539 1772 [oR 1020 0, oR 0 0, oR 549 0, oR 681 0, oI x4, nn, nn] [] s else if ((s.1 1020 (ix x4)) &&& (cI 127)) = cI 39 then evT f 539 1797 [oR 1020 0, oR 0 0, oR 549 0, oR 681 0, oI x4, nn, nn] [] s else if ((s.1 1020 (ix x4)) &&& (cI 127)) = cI 40 then evT f 539 1870 [oR 1020 0, oR 0 0, oR 549 0, oR 681 0, oI x4, nn, nn] [] s else if ((s.1 1020 (ix x4)) &&& (cI 127)) = cI 41 then evT f 539 1907 [oR 1020 0, oR 0 0, oR 549 0, oR 681 0, oI x4, nn, nn] [] s else if ((s.1 1020 (ix x4)) &&& (cI 127)) = cI 42 then evT f 539 1944 [oR 1020 0, oR 0 0, oR 549 0, oR 681 0, oI x4, nn, nn] [] s else if ((s.1 1020 (ix x4)) &&& (cI 127)) = cI 43 then evT f 539 1981 [oR 1020 0, oR 0 0, oR 549 0, oR 681 0, oI x4, nn, nn] [] s else if ((s.1 1020 (ix x4)) &&& (cI 127)) = cI 44 then evT f 539 2006 [oR 1020 0, oR 0 0, oR 549 0, oR 681 0, oI x4, nn, nn] [] s else if ((s.1 1020 (ix x4)) &&& (cI 127)) = cI 45 then evT f 539 2031 [oR 1020 0, oR 0 0, oR 549 0, oR 681 0, oI x4, nn, nn] [] s else if ((s.1 1020 (ix x4)) &&& (cI 127)) = cI 46 then evT f 539 2068 [oR 1020 0, oR 0 0, oR 549 0, oR 681 0, oI x4, nn, nn] [] s else if ((s.1 1020 (ix x4)) &&& (cI 127)) = cI 47 then evT f 539 2117 [oR 1020 0, oR 0 0, oR 549 0, oR 681 0, oI x4, nn, nn] [] s else if ((s.1 1020 (ix x4)) &&& (cI 127)) = cI 48 then evT f 539 2178 [oR 1020 0, oR 0 0, oR 549 0, oR 681 0, oI x4, nn, nn] [] s else if ((s.1 1020 (ix x4)) &&& (cI 127)) = cI 49 then evT f 539 2203 [oR 1020 0, oR 0 0, oR 549 0, oR 681 0, oI x4, nn, nn] [] s else if ((s.1 1020 (ix x4)) &&& (cI 127)) = cI 50 then evT f 539 2228 [oR 1020 0, oR 0 0, oR 549 0, oR 681 0, oI x4, nn, nn] [] s else if ((s.1 1020 (ix x4)) &&& (cI 127)) = cI 51 then evT f 539 2265 [oR 1020 0, oR 0 0, oR 549 0, oR 681 0, oI x4, nn, nn] [] s else if ((s.1 1020 (ix x4)) &&& (cI 127)) = cI 52 then evT f 539 2326 [oR 1020 0, oR 0 0, oR 549 0, oR 681 0, oI x4, nn, nn] [] s else if ((s.1 1020 (ix x4)) &&& (cI 127)) = cI 53 then evT f 539 2363 [oR 1020 0, oR 0 0, oR 549 0, oR 681 0, oI x4, nn, nn] [] s else if ((s.1 1020 (ix x4)) &&& (cI 127)) = cI 54 then evT f 539 2388 [oR 1020 0, oR 0 0, oR 549 0, oR 681 0, oI x4, nn, nn] [] s else if ((s.1 1020 (ix x4)) &&& (cI 127)) = cI 55 then evT f 539 2413 [oR 1020 0, oR 0 0, oR 549 0, oR 681 0, oI x4, nn, nn] [] s else if ((s.1 1020 (ix x4)) &&& (cI 127)) = cI 56 then evT f 539 2450 [oR 1020 0, oR 0 0, oR 549 0, oR 681 0, oI x4, nn, nn] [] s else if ((s.1 1020 (ix x4)) &&& (cI 127)) = cI 57 then evT f 539 2476 [oR 1020 0, oR 0 0, oR 549 0, oR 681 0, oI x4, nn, nn] [] s else if ((s.1 1020 (ix x4)) &&& (cI 127)) = cI 58 then evT f 539 2513 [oR 1020 0, oR 0 0, oR 549 0, oR 681 0, oI x4, nn, nn] [] s else if ((s.1 1020 (ix x4)) &&& (cI 127)) = cI 59 then evT f 539 2526 [oR 1020 0, oR 0 0, oR 549 0, oR 681 0, oI x4, nn, nn] [] s else if ((s.1 1020 (ix x4)) &&& (cI 127)) = cI 60 then evT f 539 2551 [oR 1020 0, oR 0 0, oR 549 0, oR 681 0, oI x4, nn, nn] [] s else if ((s.1 1020 (ix x4)) &&& (cI 127)) = cI 61 then evT f 539 2576 [oR 1020 0, oR 0 0, oR 549 0, oR 681 0, oI x4, nn, nn] [] s else if ((s.1 1020 (ix x4)) &&& (cI 127)) = cI 62 then evT f 539 2625 [oR 1020 0, oR 0 0, oR 549 0, oR 681 0, oI x4, nn, nn] [] s else if ((s.1 1020 (ix x4)) &&& (cI 127)) = cI 63 then evT f 539 2674 [oR 1020 0, oR 0 0, oR 549 0, oR 681 0, oI x4, nn, nn] [] s else if ((s.1 1020 (ix x4)) &&& (cI 127)) = cI 64 then evT f 539 2711 [oR 1020 0, oR 0 0, oR 549 0, oR 681 0, oI x4, nn, nn] [] s else if ((s.1 1020 (ix x4)) &&& (cI 127)) = cI 65 then evT f 539 2748 [oR 1020 0, oR 0 0, oR 549 0, oR 681 0, oI x4, nn, nn] [] s else if ((s.1 1020 (ix x4)) &&& (cI 127)) = cI 66 then evT f 539 2785 [oR 1020 0, oR 0 0, oR 549 0, oR 681 0, oI x4, nn, nn] [] s else if ((s.1 1020 (ix x4)) &&& (cI 127)) = cI 67 then evT f 539 2822 [oR 1020 0, oR 0 0, oR 549 0, oR 681 0, oI x4, nn, nn] [] s else if ((s.1 1020 (ix x4)) &&& (cI 127)) = cI 68 then evT f 539 2859 [oR 1020 0, oR 0 0, oR 549 0, oR 681 0, oI x4, nn, nn] [] s else if ((s.1 1020 (ix x4)) &&& (cI 127)) = cI 69 then evT f 539 2920 [oR 1020 0, oR 0 0, oR 549 0, oR 681 0, oI x4, nn, nn] [] s else if ((s.1 1020 (ix x4)) &&& (cI 127)) = cI 70 then evT f 539 2969 [oR 1020 0, oR 0 0, oR 549 0, oR 681 0, oI x4, nn, nn] [] s else if ((s.1 1020 (ix x4)) &&& (cI 127)) = cI 71 then evT f 539 3034 [oR 1020 0, oR 0 0, oR 549 0, oR 681 0, oI x4, nn, nn] [] s else if ((s.1 1020 (ix x4)) &&& (cI 127)) = cI 72 then evT f 539 3071 [oR 1020 0, oR 0 0, oR 549 0, oR 681 0, oI x4, nn, nn] [] s else if ((s.1 1020 (ix x4)) &&& (cI 127)) = cI 73 then evT f 539 3096 [oR 1020 0, oR 0 0, oR 549 0, oR 681 0, oI x4, nn, nn] [] s else if ((s.1 1020 (ix x4)) &&& (cI 127)) = cI 74 then evT f 539 3109 [oR 1020 0, oR 0 0, oR 549 0, oR 681 0, oI x4, nn, nn] [] s else evT f 539 3122 [oR 1020 0, oR 0 0, oR 549 0, oR 681 0, oI x4, nn, nn] [] s) (fun _ => rfl) ?_
      refine rg_if h (fun h => ?_) fun h => ?_
      · refine rg_step 6 (G' := fun f => if inb (x4 + (cI 1)) (ix (s.1 1021 0)) = true then evT f 539 363 [oR 1020 0, oR 0 0, oR 549 0, oR 681 0, oI x4, nn, nn] [vI (s.1 1020 (ix (x4 + (cI 1)))), vR 0 0] s else none) (fun _ => rfl) (rg_gd h fun h => ?_)
        refine rg_step 5 (G' := fun f => if inb (x4 + (cI 2)) (ix (s.1 1021 0)) = true then evT f 539 369 [oR 1020 0, oR 0 0, oR 549 0, oR 681 0, oI x4, nn, nn] [vI (s.1 1020 (ix (x4 + (cI 2)))), vI (s.1 1020 (ix (x4 + (cI 1)))), vR 0 0] s else none) (fun _ => rfl) (rg_gd h fun h => ?_)
        refine rg_step 5 (G' := fun f => if inb (x4 + (cI 3)) (ix (s.1 1021 0)) = true then evT f 539 375 [oR 1020 0, oR 0 0, oR 549 0, oR 681 0, oI x4, nn, nn] [vI (s.1 1020 (ix (x4 + (cI 3)))), vI (s.1 1020 (ix (x4 + (cI 2)))), vI (s.1 1020 (ix (x4 + (cI 1)))), vR 0 0] s else none) (fun _ => rfl) (rg_gd h fun h => ?_)
        refine rg_step 5 (G' := fun f => if inb (x4 + (cI 4)) (ix (s.1 1021 0)) = true then evT f 539 381 [oR 1020 0, oR 0 0, oR 549 0, oR 681 0, oI x4, nn, nn] [vI (s.1 1020 (ix (x4 + (cI 4)))), vI (s.1 1020 (ix (x4 + (cI 3)))), vI (s.1 1020 (ix (x4 + (cI 2)))), vI (s.1 1020 (ix (x4 + (cI 1)))), vR 0 0] s else none) (fun _ => rfl) (rg_gd h fun h => ?_)
        refine rg_step 5 (G' := fun f => if inb (x4 + (cI 5)) (ix (s.1 1021 0)) = true then evT f 539 387 [oR 1020 0, oR 0 0, oR 549 0, oR 681 0, oI x4, nn, nn] [vI (s.1 1020 (ix (x4 + (cI 5)))), vI (s.1 1020 (ix (x4 + (cI 4)))), vI (s.1 1020 (ix (x4 + (cI 3)))), vI (s.1 1020 (ix (x4 + (cI 2)))), vI (s.1 1020 (ix (x4 + (cI 1)))), vR 0 0] s else none) (fun _ => rfl) (rg_gd h fun h => ?_)
        refine rg_step 2 (G' := fun f => ev_after ((fFeed s (s.1 1020 (ix (x4 + (cI 1)))) (s.1 1020 (ix (x4 + (cI 2)))) (s.1 1020 (ix (x4 + (cI 3)))) (s.1 1020 (ix (x4 + (cI 4)))) (s.1 1020 (ix (x4 + (cI 5))))).map cvI) (fun q => evT f 539 391 [oR 1020 0, oR 0 0, oR 549 0, oR 681 0, oI x4, nn, nn] (q.2 ++ []) q.1)) (fun _ => rfl) (rg_bd2 h fun s5 v6 hc h => rg_prm (q := cvI (s5, v6)) (by rw [hc]; rfl) ?_)
        refine rg_step 7 (G' := fun f => if inb (x4 + (cI 1)) (ix (s5.1 1021 0)) = true then evT f 539 400 [oR 1020 0, oR 0 0, oR 549 0, oR 681 0, oI x4, oI v6, nn] [vI (s5.1 1020 (ix (x4 + (cI 1)))), vR 549 0] s5 else none) (fun _ => rfl) (rg_gd h fun h => ?_)
        refine rg_step 5 (G' := fun f => if inb (x4 + (cI 2)) (ix (s5.1 1021 0)) = true then evT f 539 406 [oR 1020 0, oR 0 0, oR 549 0, oR 681 0, oI x4, oI v6, nn] [vI (s5.1 1020 (ix (x4 + (cI 2)))), vI (s5.1 1020 (ix (x4 + (cI 1)))), vR 549 0] s5 else none) (fun _ => rfl) (rg_gd h fun h => ?_)
        refine rg_step 5 (G' := fun f => if inb (x4 + (cI 3)) (ix (s5.1 1021 0)) = true then evT f 539 412 [oR 1020 0, oR 0 0, oR 549 0, oR 681 0, oI x4, oI v6, nn] [vI (s5.1 1020 (ix (x4 + (cI 3)))), vI (s5.1 1020 (ix (x4 + (cI 2)))), vI (s5.1 1020 (ix (x4 + (cI 1)))), vR 549 0] s5 else none) (fun _ => rfl) (rg_gd h fun h => ?_)
        refine rg_step 5 (G' := fun f => if inb (x4 + (cI 4)) (ix (s5.1 1021 0)) = true then evT f 539 418 [oR 1020 0, oR 0 0, oR 549 0, oR 681 0, oI x4, oI v6, nn] [vI (s5.1 1020 (ix (x4 + (cI 4)))), vI (s5.1 1020 (ix (x4 + (cI 3)))), vI (s5.1 1020 (ix (x4 + (cI 2)))), vI (s5.1 1020 (ix (x4 + (cI 1)))), vR 549 0] s5 else none) (fun _ => rfl) (rg_gd h fun h => ?_)
        refine rg_step 5 (G' := fun f => if inb (x4 + (cI 5)) (ix (s5.1 1021 0)) = true then evT f 539 424 [oR 1020 0, oR 0 0, oR 549 0, oR 681 0, oI x4, oI v6, nn] [vI (s5.1 1020 (ix (x4 + (cI 5)))), vI (s5.1 1020 (ix (x4 + (cI 4)))), vI (s5.1 1020 (ix (x4 + (cI 3)))), vI (s5.1 1020 (ix (x4 + (cI 2)))), vI (s5.1 1020 (ix (x4 + (cI 1)))), vR 549 0] s5 else none) (fun _ => rfl) (rg_gd h fun h => ?_)
        refine rg_step 1 (G' := fun f => ev_after (evT f 323 0 [oR 549 0, oI (s5.1 1020 (ix (x4 + (cI 1)))), oI (s5.1 1020 (ix (x4 + (cI 2)))), oI (s5.1 1020 (ix (x4 + (cI 3)))), oI (s5.1 1020 (ix (x4 + (cI 4)))), oI (s5.1 1020 (ix (x4 + (cI 5)))), nn, nn] [] s5) (fun q => evT f 539 427 [oR 1020 0, oR 0 0, oR 549 0, oR 681 0, oI x4, oI v6, nn] (q.2 ++ []) q.1)) (fun _ => rfl) (rg_bd2 h fun s7 v8 hc h => rg_call (q := cvI (s7, v8)) (T_fM_feed hc) ?_)
        refine rg_step 3 (G' := fun f => ev_after (evT f 310 0 [oR 549 0] [] s7) (fun q => evT f 539 433 [oR 1020 0, oR 0 0, oR 549 0, oR 681 0, oI x4, oI v6, oI v8] (q.2 ++ []) q.1)) (fun _ => rfl) (rg_bd1 h fun v9 hc h => rg_call (q := cvP s7 v9) (T_fM_thrown hc) ?_)
        refine rg_step 2 (G' := fun f => if v9 = v6 then evT f 539 440 [oR 1020 0, oR 0 0, oR 549 0, oR 681 0, oI x4, oI v6, oI v8] [] s7 else evT f 539 438 [oR 1020 0, oR 0 0, oR 549 0, oR 681 0, oI x4, oI v6, oI v8] [] s7) (fun _ => rfl) (rg_if h (fun h => ?_) fun h => ?_)
        · refine rg_step 2 (G' := fun f => if v6 = 0 then evT f 539 445 [oR 1020 0, oR 0 0, oR 549 0, oR 681 0, oI x4, oI v6, oI v8] [] s7 else evT f 539 457 [oR 1020 0, oR 0 0, oR 549 0, oR 681 0, oI x4, oI v6, oI v8] [] s7) (fun _ => rfl) (rg_if h (fun h => ?_) fun h => ?_)
          · refine rg_step 7 (G' := fun f => if (lg_cmp (s7.2.1 681 (ix (cI 0))) (Int32.toInt64 v8)) = 0 then evT f 539 457 [oR 1020 0, oR 0 0, oR 549 0, oR 681 0, oI x4, oI v6, oI v8] [] s7 else evT f 539 455 [oR 1020 0, oR 0 0, oR 549 0, oR 681 0, oI x4, oI v6, oI v8] [] s7) (fun _ => rfl) (rg_if h (fun h => ?_) fun h => ?_)
            · exact (t_fLaw_b457 hk23) h
            · exact rg_end 2 (fun _ => rfl) (by cases h; rfl)
          · exact (t_fLaw_b457 hk23) h
        · exact rg_end 2 (fun _ => rfl) (by cases h; rfl)
      refine rg_if h (fun h => ?_) fun h => ?_
      · refine rg_step 6 (G' := fun f => if inb (x4 + (cI 1)) (ix (s.1 1021 0)) = true then evT f 539 467 [oR 1020 0, oR 0 0, oR 549 0, oR 681 0, oI x4, nn, nn] [vI (s.1 1020 (ix (x4 + (cI 1)))), vR 0 0] s else none) (fun _ => rfl) (rg_gd h fun h => ?_)
        refine rg_step 1 (G' := fun f => ev_after ((fEnd s (s.1 1020 (ix (x4 + (cI 1))))).map cvI) (fun q => evT f 539 470 [oR 1020 0, oR 0 0, oR 549 0, oR 681 0, oI x4, nn, nn] (q.2 ++ []) q.1)) (fun _ => rfl) (rg_bd2 h fun s10 v11 hc h => rg_prm (q := cvI (s10, v11)) (by rw [hc]; rfl) ?_)
        refine rg_step 7 (G' := fun f => if inb (x4 + (cI 1)) (ix (s10.1 1021 0)) = true then evT f 539 479 [oR 1020 0, oR 0 0, oR 549 0, oR 681 0, oI x4, oI v11, nn] [vI (s10.1 1020 (ix (x4 + (cI 1)))), vR 549 0] s10 else none) (fun _ => rfl) (rg_gd h fun h => ?_)
        refine rg_step 1 (G' := fun f => ev_after (evT f 324 0 [oR 549 0, oI (s10.1 1020 (ix (x4 + (cI 1))))] [] s10) (fun q => evT f 539 482 [oR 1020 0, oR 0 0, oR 549 0, oR 681 0, oI x4, oI v11, nn] (q.2 ++ []) q.1)) (fun _ => rfl) (rg_bd1 h fun s12 hc h => rg_call (q := cvV s12) (T_fM_end hc) ?_)
        refine rg_step 2 (G' := fun f => ev_after (evT f 310 0 [oR 549 0] [] s12) (fun q => evT f 539 486 [oR 1020 0, oR 0 0, oR 549 0, oR 681 0, oI x4, oI v11, nn] (q.2 ++ []) q.1)) (fun _ => rfl) (rg_bd1 h fun v13 hc h => rg_call (q := cvP s12 v13) (T_fM_thrown hc) ?_)
        refine rg_step 2 (G' := fun f => if v13 = v11 then evT f 539 493 [oR 1020 0, oR 0 0, oR 549 0, oR 681 0, oI x4, oI v11, nn] [] s12 else evT f 539 491 [oR 1020 0, oR 0 0, oR 549 0, oR 681 0, oI x4, oI v11, nn] [] s12) (fun _ => rfl) (rg_if h (fun h => ?_) fun h => ?_)
        · exact rg_step 1 (G' := fun f => evT f 539 3122 [oR 1020 0, oR 0 0, oR 549 0, oR 681 0, oI x4, oI v11, nn] [] s12) (fun _ => rfl) ((t_fLaw_b3122 hk23) h)
        · exact rg_end 2 (fun _ => rfl) (by cases h; rfl)
      refine rg_if h (fun h => ?_) fun h => ?_
      · refine rg_step 2 (G' := fun f => ev_after (evT f 231 0 [oR 0 0] [] s) (fun q => evT f 539 500 [oR 1020 0, oR 0 0, oR 549 0, oR 681 0, oI x4, nn, nn] (q.2 ++ []) q.1)) (fun _ => rfl) (rg_bd2 h fun s14 v15 hc h => rg_call (q := cvI (s14, v15)) (T_fPH_sync hc) ?_)
        refine rg_step 2 (G' := fun f => ev_after (evT f 329 0 [oR 549 0, nn, nn, nn, nn, nn] [] s14) (fun q => evT f 539 504 [oR 1020 0, oR 0 0, oR 549 0, oR 681 0, oI x4, nn, nn] (q.2 ++ [vI v15]) q.1)) (fun _ => rfl) (rg_bd2 h fun s16 v17 hc h => rg_call (q := cvI (s16, v17)) (T_fM_sync hc) ?_)
        refine rg_step 1 (G' := fun f => if v15 = v17 then evT f 539 3122 [oR 1020 0, oR 0 0, oR 549 0, oR 681 0, oI x4, nn, nn] [] s16 else evT f 539 507 [oR 1020 0, oR 0 0, oR 549 0, oR 681 0, oI x4, nn, nn] [] s16) (fun _ => rfl) (rg_if h (fun h => ?_) fun h => ?_)
        · exact (t_fLaw_b3122 hk23) h
        · exact rg_end 2 (fun _ => rfl) (by cases h; rfl)
      refine rg_if h (fun h => ?_) fun h => ?_
      · refine rg_step 6 (G' := fun f => if inb (x4 + (cI 1)) (ix (s.1 1021 0)) = true then evT f 539 516 [oR 1020 0, oR 0 0, oR 549 0, oR 681 0, oI x4, nn, nn] [vI (s.1 1020 (ix (x4 + (cI 1)))), vR 0 0] s else none) (fun _ => rfl) (rg_gd h fun h => ?_)
        refine rg_step 5 (G' := fun f => if inb (x4 + (cI 2)) (ix (s.1 1021 0)) = true then evT f 539 522 [oR 1020 0, oR 0 0, oR 549 0, oR 681 0, oI x4, nn, nn] [vI (s.1 1020 (ix (x4 + (cI 2)))), vI (s.1 1020 (ix (x4 + (cI 1)))), vR 0 0] s else none) (fun _ => rfl) (rg_gd h fun h => ?_)
        refine rg_step 1 (G' := fun f => ev_after (evT f 232 0 [oR 0 0, oI (s.1 1020 (ix (x4 + (cI 1)))), oI (s.1 1020 (ix (x4 + (cI 2))))] [] s) (fun q => evT f 539 525 [oR 1020 0, oR 0 0, oR 549 0, oR 681 0, oI x4, nn, nn] (q.2 ++ []) q.1)) (fun _ => rfl) (rg_bd2 h fun s18 v19 hc h => rg_call (q := cvI (s18, v19)) (T_fPH_cut hc) ?_)
        refine rg_step 6 (G' := fun f => if inb (x4 + (cI 1)) (ix (s18.1 1021 0)) = true then evT f 539 532 [oR 1020 0, oR 0 0, oR 549 0, oR 681 0, oI x4, nn, nn] [vI (s18.1 1020 (ix (x4 + (cI 1)))), vR 549 0, vI v19] s18 else none) (fun _ => rfl) (rg_gd h fun h => ?_)
        refine rg_step 5 (G' := fun f => if inb (x4 + (cI 2)) (ix (s18.1 1021 0)) = true then evT f 539 538 [oR 1020 0, oR 0 0, oR 549 0, oR 681 0, oI x4, nn, nn] [vI (s18.1 1020 (ix (x4 + (cI 2)))), vI (s18.1 1020 (ix (x4 + (cI 1)))), vR 549 0, vI v19] s18 else none) (fun _ => rfl) (rg_gd h fun h => ?_)
        refine rg_step 1 (G' := fun f => ev_after (evT f 330 0 [oR 549 0, oI (s18.1 1020 (ix (x4 + (cI 1)))), oI (s18.1 1020 (ix (x4 + (cI 2))))] [] s18) (fun q => evT f 539 541 [oR 1020 0, oR 0 0, oR 549 0, oR 681 0, oI x4, nn, nn] (q.2 ++ [vI v19]) q.1)) (fun _ => rfl) (rg_bd2 h fun s20 v21 hc h => rg_call (q := cvI (s20, v21)) (T_fM_cut hc) ?_)
        refine rg_step 1 (G' := fun f => if v19 = v21 then evT f 539 3122 [oR 1020 0, oR 0 0, oR 549 0, oR 681 0, oI x4, nn, nn] [] s20 else evT f 539 544 [oR 1020 0, oR 0 0, oR 549 0, oR 681 0, oI x4, nn, nn] [] s20) (fun _ => rfl) (rg_if h (fun h => ?_) fun h => ?_)
        · exact (t_fLaw_b3122 hk23) h
        · exact rg_end 2 (fun _ => rfl) (by cases h; rfl)
      refine rg_if h (fun h => ?_) fun h => ?_
      · refine rg_step 2 (G' := fun f => ev_after (evT f 233 0 [oR 0 0, nn, nn] [] s) (fun q => evT f 539 550 [oR 1020 0, oR 0 0, oR 549 0, oR 681 0, oI x4, nn, nn] (q.2 ++ []) q.1)) (fun _ => rfl) (rg_bd2 h fun s22 v23 hc h => rg_call (q := cvI (s22, v23)) (T_fPH_start hc) ?_)
        refine rg_step 2 (G' := fun f => ev_after (evT f 335 0 [oR 549 0, nn, nn, nn] [] s22) (fun q => evT f 539 554 [oR 1020 0, oR 0 0, oR 549 0, oR 681 0, oI x4, nn, nn] (q.2 ++ [vI v23]) q.1)) (fun _ => rfl) (rg_bd2 h fun s24 v25 hc h => rg_call (q := cvI (s24, v25)) (T_fM_start hc) ?_)
        refine rg_step 1 (G' := fun f => if v23 = v25 then evT f 539 3122 [oR 1020 0, oR 0 0, oR 549 0, oR 681 0, oI x4, nn, nn] [] s24 else evT f 539 557 [oR 1020 0, oR 0 0, oR 549 0, oR 681 0, oI x4, nn, nn] [] s24) (fun _ => rfl) (rg_if h (fun h => ?_) fun h => ?_)
        · exact (t_fLaw_b3122 hk23) h
        · exact rg_end 2 (fun _ => rfl) (by cases h; rfl)
      refine rg_if h (fun h => ?_) fun h => ?_
      · refine rg_step 2 (G' := fun f => ev_after (evT f 234 0 [oR 0 0] [] s) (fun q => evT f 539 563 [oR 1020 0, oR 0 0, oR 549 0, oR 681 0, oI x4, nn, nn] (q.2 ++ []) q.1)) (fun _ => rfl) (rg_bd1 h fun v26 hc h => rg_call (q := cvP s v26) (T_fPH_verify hc) ?_)
        refine rg_step 2 (G' := fun f => ev_after (evT f 336 0 [oR 549 0, nn] [] s) (fun q => evT f 539 567 [oR 1020 0, oR 0 0, oR 549 0, oR 681 0, oI x4, nn, nn] (q.2 ++ [vI v26]) q.1)) (fun _ => rfl) (rg_bd2 h fun s27 v28 hc h => rg_call (q := cvI (s27, v28)) (T_fM_verify hc) ?_)
        refine rg_step 1 (G' := fun f => if v26 = v28 then evT f 539 3122 [oR 1020 0, oR 0 0, oR 549 0, oR 681 0, oI x4, nn, nn] [] s27 else evT f 539 570 [oR 1020 0, oR 0 0, oR 549 0, oR 681 0, oI x4, nn, nn] [] s27) (fun _ => rfl) (rg_if h (fun h => ?_) fun h => ?_)
        · exact (t_fLaw_b3122 hk23) h
        · exact rg_end 2 (fun _ => rfl) (by cases h; rfl)
      refine rg_if h (fun h => ?_) fun h => ?_
      · refine rg_step 6 (G' := fun f => if inb (x4 + (cI 1)) (ix (s.1 1021 0)) = true then evT f 539 579 [oR 1020 0, oR 0 0, oR 549 0, oR 681 0, oI x4, nn, nn] [vI (s.1 1020 (ix (x4 + (cI 1)))), vR 0 0] s else none) (fun _ => rfl) (rg_gd h fun h => ?_)
        refine rg_step 5 (G' := fun f => if inb (x4 + (cI 2)) (ix (s.1 1021 0)) = true then evT f 539 585 [oR 1020 0, oR 0 0, oR 549 0, oR 681 0, oI x4, nn, nn] [vI (s.1 1020 (ix (x4 + (cI 2)))), vI (s.1 1020 (ix (x4 + (cI 1)))), vR 0 0] s else none) (fun _ => rfl) (rg_gd h fun h => ?_)
        refine rg_step 2 (G' := fun f => ev_after ((fOctet s (s.1 1020 (ix (x4 + (cI 1)))) (s.1 1020 (ix (x4 + (cI 2))))).map cvI) (fun q => evT f 539 589 [oR 1020 0, oR 0 0, oR 549 0, oR 681 0, oI x4, nn, nn] (q.2 ++ []) q.1)) (fun _ => rfl) (rg_bd2 h fun s29 v30 hc h => rg_prm (q := cvI (s29, v30)) (by rw [hc]; rfl) ?_)
        refine rg_step 7 (G' := fun f => if inb (x4 + (cI 1)) (ix (s29.1 1021 0)) = true then evT f 539 598 [oR 1020 0, oR 0 0, oR 549 0, oR 681 0, oI x4, oI v30, nn] [vI (s29.1 1020 (ix (x4 + (cI 1)))), vR 549 0] s29 else none) (fun _ => rfl) (rg_gd h fun h => ?_)
        refine rg_step 5 (G' := fun f => if inb (x4 + (cI 2)) (ix (s29.1 1021 0)) = true then evT f 539 604 [oR 1020 0, oR 0 0, oR 549 0, oR 681 0, oI x4, oI v30, nn] [vI (s29.1 1020 (ix (x4 + (cI 2)))), vI (s29.1 1020 (ix (x4 + (cI 1)))), vR 549 0] s29 else none) (fun _ => rfl) (rg_gd h fun h => ?_)
        refine rg_step 1 (G' := fun f => ev_after (evT f 337 0 [oR 549 0, oI (s29.1 1020 (ix (x4 + (cI 1)))), oI (s29.1 1020 (ix (x4 + (cI 2))))] [] s29) (fun q => evT f 539 607 [oR 1020 0, oR 0 0, oR 549 0, oR 681 0, oI x4, oI v30, nn] (q.2 ++ []) q.1)) (fun _ => rfl) (rg_bd2 h fun s31 v32 hc h => rg_call (q := cvI (s31, v32)) (T_fM_octet hc) ?_)
        refine rg_step 3 (G' := fun f => ev_after (evT f 310 0 [oR 549 0] [] s31) (fun q => evT f 539 613 [oR 1020 0, oR 0 0, oR 549 0, oR 681 0, oI x4, oI v30, oI v32] (q.2 ++ []) q.1)) (fun _ => rfl) (rg_bd1 h fun v33 hc h => rg_call (q := cvP s31 v33) (T_fM_thrown hc) ?_)
        refine rg_step 2 (G' := fun f => if v33 = v30 then evT f 539 620 [oR 1020 0, oR 0 0, oR 549 0, oR 681 0, oI x4, oI v30, oI v32] [] s31 else evT f 539 618 [oR 1020 0, oR 0 0, oR 549 0, oR 681 0, oI x4, oI v30, oI v32] [] s31) (fun _ => rfl) (rg_if h (fun h => ?_) fun h => ?_)
        · refine rg_step 2 (G' := fun f => if v30 = 0 then evT f 539 625 [oR 1020 0, oR 0 0, oR 549 0, oR 681 0, oI x4, oI v30, oI v32] [] s31 else evT f 539 637 [oR 1020 0, oR 0 0, oR 549 0, oR 681 0, oI x4, oI v30, oI v32] [] s31) (fun _ => rfl) (rg_if h (fun h => ?_) fun h => ?_)
          · refine rg_step 7 (G' := fun f => if (lg_cmp (s31.2.1 681 (ix (cI 0))) (Int32.toInt64 v32)) = 0 then evT f 539 637 [oR 1020 0, oR 0 0, oR 549 0, oR 681 0, oI x4, oI v30, oI v32] [] s31 else evT f 539 635 [oR 1020 0, oR 0 0, oR 549 0, oR 681 0, oI x4, oI v30, oI v32] [] s31) (fun _ => rfl) (rg_if h (fun h => ?_) fun h => ?_)
            · exact (t_fLaw_b637 hk23) h
            · exact rg_end 2 (fun _ => rfl) (by cases h; rfl)
          · exact (t_fLaw_b637 hk23) h
        · exact rg_end 2 (fun _ => rfl) (by cases h; rfl)
      refine rg_if h (fun h => ?_) fun h => ?_
      · refine rg_step 6 (G' := fun f => if inb (x4 + (cI 1)) (ix (s.1 1021 0)) = true then evT f 539 647 [oR 1020 0, oR 0 0, oR 549 0, oR 681 0, oI x4, nn, nn] [vI (s.1 1020 (ix (x4 + (cI 1)))), vR 0 0] s else none) (fun _ => rfl) (rg_gd h fun h => ?_)
        refine rg_step 5 (G' := fun f => if inb (x4 + (cI 2)) (ix (s.1 1021 0)) = true then evT f 539 653 [oR 1020 0, oR 0 0, oR 549 0, oR 681 0, oI x4, nn, nn] [vI (s.1 1020 (ix (x4 + (cI 2)))), vI (s.1 1020 (ix (x4 + (cI 1)))), vR 0 0] s else none) (fun _ => rfl) (rg_gd h fun h => ?_)
        refine rg_step 5 (G' := fun f => if inb (x4 + (cI 3)) (ix (s.1 1021 0)) = true then evT f 539 659 [oR 1020 0, oR 0 0, oR 549 0, oR 681 0, oI x4, nn, nn] [vI (s.1 1020 (ix (x4 + (cI 3)))), vI (s.1 1020 (ix (x4 + (cI 2)))), vI (s.1 1020 (ix (x4 + (cI 1)))), vR 0 0] s else none) (fun _ => rfl) (rg_gd h fun h => ?_)
        refine rg_step 2 (G' := fun f => ev_after ((fPoke s (s.1 1020 (ix (x4 + (cI 1)))) (s.1 1020 (ix (x4 + (cI 2)))) (s.1 1020 (ix (x4 + (cI 3))))).map cvI) (fun q => evT f 539 663 [oR 1020 0, oR 0 0, oR 549 0, oR 681 0, oI x4, nn, nn] (q.2 ++ []) q.1)) (fun _ => rfl) (rg_bd2 h fun s34 v35 hc h => rg_prm (q := cvI (s34, v35)) (by rw [hc]; rfl) ?_)
        refine rg_step 7 (G' := fun f => if inb (x4 + (cI 1)) (ix (s34.1 1021 0)) = true then evT f 539 672 [oR 1020 0, oR 0 0, oR 549 0, oR 681 0, oI x4, oI v35, nn] [vI (s34.1 1020 (ix (x4 + (cI 1)))), vR 549 0] s34 else none) (fun _ => rfl) (rg_gd h fun h => ?_)
        refine rg_step 5 (G' := fun f => if inb (x4 + (cI 2)) (ix (s34.1 1021 0)) = true then evT f 539 678 [oR 1020 0, oR 0 0, oR 549 0, oR 681 0, oI x4, oI v35, nn] [vI (s34.1 1020 (ix (x4 + (cI 2)))), vI (s34.1 1020 (ix (x4 + (cI 1)))), vR 549 0] s34 else none) (fun _ => rfl) (rg_gd h fun h => ?_)
        refine rg_step 5 (G' := fun f => if inb (x4 + (cI 3)) (ix (s34.1 1021 0)) = true then evT f 539 684 [oR 1020 0, oR 0 0, oR 549 0, oR 681 0, oI x4, oI v35, nn] [vI (s34.1 1020 (ix (x4 + (cI 3)))), vI (s34.1 1020 (ix (x4 + (cI 2)))), vI (s34.1 1020 (ix (x4 + (cI 1)))), vR 549 0] s34 else none) (fun _ => rfl) (rg_gd h fun h => ?_)
        refine rg_step 1 (G' := fun f => ev_after (evT f 338 0 [oR 549 0, oI (s34.1 1020 (ix (x4 + (cI 1)))), oI (s34.1 1020 (ix (x4 + (cI 2)))), oI (s34.1 1020 (ix (x4 + (cI 3))))] [] s34) (fun q => evT f 539 687 [oR 1020 0, oR 0 0, oR 549 0, oR 681 0, oI x4, oI v35, nn] (q.2 ++ []) q.1)) (fun _ => rfl) (rg_bd2 h fun s36 v37 hc h => rg_call (q := cvI (s36, v37)) (T_fM_poke hc) ?_)
        refine rg_step 3 (G' := fun f => ev_after (evT f 310 0 [oR 549 0] [] s36) (fun q => evT f 539 693 [oR 1020 0, oR 0 0, oR 549 0, oR 681 0, oI x4, oI v35, oI v37] (q.2 ++ []) q.1)) (fun _ => rfl) (rg_bd1 h fun v38 hc h => rg_call (q := cvP s36 v38) (T_fM_thrown hc) ?_)
        refine rg_step 2 (G' := fun f => if v38 = v35 then evT f 539 700 [oR 1020 0, oR 0 0, oR 549 0, oR 681 0, oI x4, oI v35, oI v37] [] s36 else evT f 539 698 [oR 1020 0, oR 0 0, oR 549 0, oR 681 0, oI x4, oI v35, oI v37] [] s36) (fun _ => rfl) (rg_if h (fun h => ?_) fun h => ?_)
        · refine rg_step 2 (G' := fun f => if v35 = 0 then evT f 539 705 [oR 1020 0, oR 0 0, oR 549 0, oR 681 0, oI x4, oI v35, oI v37] [] s36 else evT f 539 717 [oR 1020 0, oR 0 0, oR 549 0, oR 681 0, oI x4, oI v35, oI v37] [] s36) (fun _ => rfl) (rg_if h (fun h => ?_) fun h => ?_)
          · refine rg_step 7 (G' := fun f => if (lg_cmp (s36.2.1 681 (ix (cI 0))) (Int32.toInt64 v37)) = 0 then evT f 539 717 [oR 1020 0, oR 0 0, oR 549 0, oR 681 0, oI x4, oI v35, oI v37] [] s36 else evT f 539 715 [oR 1020 0, oR 0 0, oR 549 0, oR 681 0, oI x4, oI v35, oI v37] [] s36) (fun _ => rfl) (rg_if h (fun h => ?_) fun h => ?_)
            · exact (t_fLaw_b717 hk23) h
            · exact rg_end 2 (fun _ => rfl) (by cases h; rfl)
          · exact (t_fLaw_b717 hk23) h
        · exact rg_end 2 (fun _ => rfl) (by cases h; rfl)
      refine rg_if h (fun h => ?_) fun h => ?_
      · refine rg_step 6 (G' := fun f => if inb (x4 + (cI 1)) (ix (s.1 1021 0)) = true then evT f 539 727 [oR 1020 0, oR 0 0, oR 549 0, oR 681 0, oI x4, nn, nn] [vI (s.1 1020 (ix (x4 + (cI 1)))), vR 0 0] s else none) (fun _ => rfl) (rg_gd h fun h => ?_)
        refine rg_step 1 (G' := fun f => ev_after (evT f 235 0 [oR 0 0, oI (s.1 1020 (ix (x4 + (cI 1))))] [] s) (fun q => evT f 539 730 [oR 1020 0, oR 0 0, oR 549 0, oR 681 0, oI x4, nn, nn] (q.2 ++ []) q.1)) (fun _ => rfl) (rg_bd1 h fun v39 hc h => rg_call (q := cvP s v39) (T_fPH_count hc) ?_)
        refine rg_step 6 (G' := fun f => if inb (x4 + (cI 1)) (ix (s.1 1021 0)) = true then evT f 539 737 [oR 1020 0, oR 0 0, oR 549 0, oR 681 0, oI x4, nn, nn] [vI (s.1 1020 (ix (x4 + (cI 1)))), vR 549 0, vI v39] s else none) (fun _ => rfl) (rg_gd h fun h => ?_)
        refine rg_step 1 (G' := fun f => ev_after (evT f 349 0 [oR 549 0, oI (s.1 1020 (ix (x4 + (cI 1))))] [] s) (fun q => evT f 539 740 [oR 1020 0, oR 0 0, oR 549 0, oR 681 0, oI x4, nn, nn] (q.2 ++ [vI v39]) q.1)) (fun _ => rfl) (rg_bd2 h fun s40 v41 hc h => rg_call (q := cvI (s40, v41)) (T_fM_count hc) ?_)
        refine rg_step 1 (G' := fun f => if v39 = v41 then evT f 539 3122 [oR 1020 0, oR 0 0, oR 549 0, oR 681 0, oI x4, nn, nn] [] s40 else evT f 539 743 [oR 1020 0, oR 0 0, oR 549 0, oR 681 0, oI x4, nn, nn] [] s40) (fun _ => rfl) (rg_if h (fun h => ?_) fun h => ?_)
        · exact (t_fLaw_b3122 hk23) h
        · exact rg_end 2 (fun _ => rfl) (by cases h; rfl)
      refine rg_if h (fun h => ?_) fun h => ?_
      · refine rg_step 2 (G' := fun f => ev_after (evT f 236 0 [oR 0 0, nn] [] s) (fun q => evT f 539 749 [oR 1020 0, oR 0 0, oR 549 0, oR 681 0, oI x4, nn, nn] (q.2 ++ []) q.1)) (fun _ => rfl) (rg_bd2 h fun s42 v43 hc h => rg_call (q := cvI (s42, v43)) (T_fPH_book hc) ?_)
        refine rg_step 2 (G' := fun f => ev_after (evT f 371 0 [oR 549 0] [] s42) (fun q => evT f 539 753 [oR 1020 0, oR 0 0, oR 549 0, oR 681 0, oI x4, nn, nn] (q.2 ++ [vI v43]) q.1)) (fun _ => rfl) (rg_bd2 h fun s44 v45 hc h => rg_call (q := cvI (s44, v45)) (T_fM_book hc) ?_)
        refine rg_step 1 (G' := fun f => if v43 = v45 then evT f 539 3122 [oR 1020 0, oR 0 0, oR 549 0, oR 681 0, oI x4, nn, nn] [] s44 else evT f 539 756 [oR 1020 0, oR 0 0, oR 549 0, oR 681 0, oI x4, nn, nn] [] s44) (fun _ => rfl) (rg_if h (fun h => ?_) fun h => ?_)
        · exact (t_fLaw_b3122 hk23) h
        · exact rg_end 2 (fun _ => rfl) (by cases h; rfl)
      refine rg_if h (fun h => ?_) fun h => ?_
      · refine rg_step 6 (G' := fun f => if inb (x4 + (cI 1)) (ix (s.1 1021 0)) = true then evT f 539 765 [oR 1020 0, oR 0 0, oR 549 0, oR 681 0, oI x4, nn, nn] [vI (s.1 1020 (ix (x4 + (cI 1)))), vR 0 0] s else none) (fun _ => rfl) (rg_gd h fun h => ?_)
        refine rg_step 5 (G' := fun f => if inb (x4 + (cI 2)) (ix (s.1 1021 0)) = true then evT f 539 771 [oR 1020 0, oR 0 0, oR 549 0, oR 681 0, oI x4, nn, nn] [vI (s.1 1020 (ix (x4 + (cI 2)))), vI (s.1 1020 (ix (x4 + (cI 1)))), vR 0 0] s else none) (fun _ => rfl) (rg_gd h fun h => ?_)
        refine rg_step 5 (G' := fun f => if inb (x4 + (cI 3)) (ix (s.1 1021 0)) = true then evT f 539 777 [oR 1020 0, oR 0 0, oR 549 0, oR 681 0, oI x4, nn, nn] [vI (s.1 1020 (ix (x4 + (cI 3)))), vI (s.1 1020 (ix (x4 + (cI 2)))), vI (s.1 1020 (ix (x4 + (cI 1)))), vR 0 0] s else none) (fun _ => rfl) (rg_gd h fun h => ?_)
        refine rg_step 5 (G' := fun f => if inb (x4 + (cI 4)) (ix (s.1 1021 0)) = true then evT f 539 783 [oR 1020 0, oR 0 0, oR 549 0, oR 681 0, oI x4, nn, nn] [vI (s.1 1020 (ix (x4 + (cI 4)))), vI (s.1 1020 (ix (x4 + (cI 3)))), vI (s.1 1020 (ix (x4 + (cI 2)))), vI (s.1 1020 (ix (x4 + (cI 1)))), vR 0 0] s else none) (fun _ => rfl) (rg_gd h fun h => ?_)
        refine rg_step 1 (G' := fun f => ev_after (evT f 237 0 [oR 0 0, oI (s.1 1020 (ix (x4 + (cI 1)))), oI (s.1 1020 (ix (x4 + (cI 2)))), oI (s.1 1020 (ix (x4 + (cI 3)))), oI (s.1 1020 (ix (x4 + (cI 4))))] [] s) (fun q => evT f 539 786 [oR 1020 0, oR 0 0, oR 549 0, oR 681 0, oI x4, nn, nn] (q.2 ++ []) q.1)) (fun _ => rfl) (rg_bd2 h fun s46 v47 hc h => rg_call (q := cvI (s46, v47)) (T_fPH_forward hc) ?_)
        refine rg_step 6 (G' := fun f => if inb (x4 + (cI 1)) (ix (s46.1 1021 0)) = true then evT f 539 793 [oR 1020 0, oR 0 0, oR 549 0, oR 681 0, oI x4, nn, nn] [vI (s46.1 1020 (ix (x4 + (cI 1)))), vR 549 0, vI v47] s46 else none) (fun _ => rfl) (rg_gd h fun h => ?_)
        refine rg_step 5 (G' := fun f => if inb (x4 + (cI 2)) (ix (s46.1 1021 0)) = true then evT f 539 799 [oR 1020 0, oR 0 0, oR 549 0, oR 681 0, oI x4, nn, nn] [vI (s46.1 1020 (ix (x4 + (cI 2)))), vI (s46.1 1020 (ix (x4 + (cI 1)))), vR 549 0, vI v47] s46 else none) (fun _ => rfl) (rg_gd h fun h => ?_)
        refine rg_step 5 (G' := fun f => if inb (x4 + (cI 3)) (ix (s46.1 1021 0)) = true then evT f 539 805 [oR 1020 0, oR 0 0, oR 549 0, oR 681 0, oI x4, nn, nn] [vI (s46.1 1020 (ix (x4 + (cI 3)))), vI (s46.1 1020 (ix (x4 + (cI 2)))), vI (s46.1 1020 (ix (x4 + (cI 1)))), vR 549 0, vI v47] s46 else none) (fun _ => rfl) (rg_gd h fun h => ?_)
        refine rg_step 5 (G' := fun f => if inb (x4 + (cI 4)) (ix (s46.1 1021 0)) = true then evT f 539 811 [oR 1020 0, oR 0 0, oR 549 0, oR 681 0, oI x4, nn, nn] [vI (s46.1 1020 (ix (x4 + (cI 4)))), vI (s46.1 1020 (ix (x4 + (cI 3)))), vI (s46.1 1020 (ix (x4 + (cI 2)))), vI (s46.1 1020 (ix (x4 + (cI 1)))), vR 549 0, vI v47] s46 else none) (fun _ => rfl) (rg_gd h fun h => ?_)
        refine rg_step 1 (G' := fun f => ev_after (evT f 373 0 [oR 549 0, oI (s46.1 1020 (ix (x4 + (cI 1)))), oI (s46.1 1020 (ix (x4 + (cI 2)))), oI (s46.1 1020 (ix (x4 + (cI 3)))), oI (s46.1 1020 (ix (x4 + (cI 4))))] [] s46) (fun q => evT f 539 814 [oR 1020 0, oR 0 0, oR 549 0, oR 681 0, oI x4, nn, nn] (q.2 ++ [vI v47]) q.1)) (fun _ => rfl) (rg_bd2 h fun s48 v49 hc h => rg_call (q := cvI (s48, v49)) (T_fM_forward hc) ?_)
        refine rg_step 1 (G' := fun f => if v47 = v49 then evT f 539 3122 [oR 1020 0, oR 0 0, oR 549 0, oR 681 0, oI x4, nn, nn] [] s48 else evT f 539 817 [oR 1020 0, oR 0 0, oR 549 0, oR 681 0, oI x4, nn, nn] [] s48) (fun _ => rfl) (rg_if h (fun h => ?_) fun h => ?_)
        · exact (t_fLaw_b3122 hk23) h
        · exact rg_end 2 (fun _ => rfl) (by cases h; rfl)
      refine rg_if h (fun h => ?_) fun h => ?_
      · refine rg_step 6 (G' := fun f => if inb (x4 + (cI 1)) (ix (s.1 1021 0)) = true then evT f 539 826 [oR 1020 0, oR 0 0, oR 549 0, oR 681 0, oI x4, nn, nn] [vI (s.1 1020 (ix (x4 + (cI 1)))), vR 0 0] s else none) (fun _ => rfl) (rg_gd h fun h => ?_)
        refine rg_step 5 (G' := fun f => if inb (x4 + (cI 2)) (ix (s.1 1021 0)) = true then evT f 539 832 [oR 1020 0, oR 0 0, oR 549 0, oR 681 0, oI x4, nn, nn] [vI (s.1 1020 (ix (x4 + (cI 2)))), vI (s.1 1020 (ix (x4 + (cI 1)))), vR 0 0] s else none) (fun _ => rfl) (rg_gd h fun h => ?_)
        refine rg_step 5 (G' := fun f => if inb (x4 + (cI 3)) (ix (s.1 1021 0)) = true then evT f 539 838 [oR 1020 0, oR 0 0, oR 549 0, oR 681 0, oI x4, nn, nn] [vI (s.1 1020 (ix (x4 + (cI 3)))), vI (s.1 1020 (ix (x4 + (cI 2)))), vI (s.1 1020 (ix (x4 + (cI 1)))), vR 0 0] s else none) (fun _ => rfl) (rg_gd h fun h => ?_)
        refine rg_step 1 (G' := fun f => ev_after (evT f 238 0 [oR 0 0, oI (s.1 1020 (ix (x4 + (cI 1)))), oI (s.1 1020 (ix (x4 + (cI 2)))), oI (s.1 1020 (ix (x4 + (cI 3))))] [] s) (fun q => evT f 539 841 [oR 1020 0, oR 0 0, oR 549 0, oR 681 0, oI x4, nn, nn] (q.2 ++ []) q.1)) (fun _ => rfl) (rg_bd2 h fun s50 v51 hc h => rg_call (q := cvI (s50, v51)) (T_fPH_hold hc) ?_)
        refine rg_step 6 (G' := fun f => if inb (x4 + (cI 1)) (ix (s50.1 1021 0)) = true then evT f 539 848 [oR 1020 0, oR 0 0, oR 549 0, oR 681 0, oI x4, nn, nn] [vI (s50.1 1020 (ix (x4 + (cI 1)))), vR 549 0, vI v51] s50 else none) (fun _ => rfl) (rg_gd h fun h => ?_)
        refine rg_step 5 (G' := fun f => if inb (x4 + (cI 2)) (ix (s50.1 1021 0)) = true then evT f 539 854 [oR 1020 0, oR 0 0, oR 549 0, oR 681 0, oI x4, nn, nn] [vI (s50.1 1020 (ix (x4 + (cI 2)))), vI (s50.1 1020 (ix (x4 + (cI 1)))), vR 549 0, vI v51] s50 else none) (fun _ => rfl) (rg_gd h fun h => ?_)
        refine rg_step 5 (G' := fun f => if inb (x4 + (cI 3)) (ix (s50.1 1021 0)) = true then evT f 539 860 [oR 1020 0, oR 0 0, oR 549 0, oR 681 0, oI x4, nn, nn] [vI (s50.1 1020 (ix (x4 + (cI 3)))), vI (s50.1 1020 (ix (x4 + (cI 2)))), vI (s50.1 1020 (ix (x4 + (cI 1)))), vR 549 0, vI v51] s50 else none) (fun _ => rfl) (rg_gd h fun h => ?_)
        refine rg_step 1 (G' := fun f => ev_after (evT f 374 0 [oR 549 0, oI (s50.1 1020 (ix (x4 + (cI 1)))), oI (s50.1 1020 (ix (x4 + (cI 2)))), oI (s50.1 1020 (ix (x4 + (cI 3))))] [] s50) (fun q => evT f 539 863 [oR 1020 0, oR 0 0, oR 549 0, oR 681 0, oI x4, nn, nn] (q.2 ++ [vI v51]) q.1)) (fun _ => rfl) (rg_bd2 h fun s52 v53 hc h => rg_call (q := cvI (s52, v53)) (T_fM_hold hc) ?_)
        refine rg_step 1 (G' := fun f => if v51 = v53 then evT f 539 3122 [oR 1020 0, oR 0 0, oR 549 0, oR 681 0, oI x4, nn, nn] [] s52 else evT f 539 866 [oR 1020 0, oR 0 0, oR 549 0, oR 681 0, oI x4, nn, nn] [] s52) (fun _ => rfl) (rg_if h (fun h => ?_) fun h => ?_)
        · exact (t_fLaw_b3122 hk23) h
        · exact rg_end 2 (fun _ => rfl) (by cases h; rfl)
      refine rg_if h (fun h => ?_) fun h => ?_
      · refine rg_step 6 (G' := fun f => if inb (x4 + (cI 1)) (ix (s.1 1021 0)) = true then evT f 539 875 [oR 1020 0, oR 0 0, oR 549 0, oR 681 0, oI x4, nn, nn] [vI (s.1 1020 (ix (x4 + (cI 1)))), vR 0 0] s else none) (fun _ => rfl) (rg_gd h fun h => ?_)
        refine rg_step 5 (G' := fun f => if inb (x4 + (cI 2)) (ix (s.1 1021 0)) = true then evT f 539 881 [oR 1020 0, oR 0 0, oR 549 0, oR 681 0, oI x4, nn, nn] [vI (s.1 1020 (ix (x4 + (cI 2)))), vI (s.1 1020 (ix (x4 + (cI 1)))), vR 0 0] s else none) (fun _ => rfl) (rg_gd h fun h => ?_)
        refine rg_step 1 (G' := fun f => ev_after (evT f 239 0 [oR 0 0, oI (s.1 1020 (ix (x4 + (cI 1)))), oI (s.1 1020 (ix (x4 + (cI 2))))] [] s) (fun q => evT f 539 884 [oR 1020 0, oR 0 0, oR 549 0, oR 681 0, oI x4, nn, nn] (q.2 ++ []) q.1)) (fun _ => rfl) (rg_bd2 h fun s54 v55 hc h => rg_call (q := cvI (s54, v55)) (T_fPH_effective hc) ?_)
        refine rg_step 6 (G' := fun f => if inb (x4 + (cI 1)) (ix (s54.1 1021 0)) = true then evT f 539 891 [oR 1020 0, oR 0 0, oR 549 0, oR 681 0, oI x4, nn, nn] [vI (s54.1 1020 (ix (x4 + (cI 1)))), vR 549 0, vI v55] s54 else none) (fun _ => rfl) (rg_gd h fun h => ?_)
        refine rg_step 5 (G' := fun f => if inb (x4 + (cI 2)) (ix (s54.1 1021 0)) = true then evT f 539 897 [oR 1020 0, oR 0 0, oR 549 0, oR 681 0, oI x4, nn, nn] [vI (s54.1 1020 (ix (x4 + (cI 2)))), vI (s54.1 1020 (ix (x4 + (cI 1)))), vR 549 0, vI v55] s54 else none) (fun _ => rfl) (rg_gd h fun h => ?_)
        refine rg_step 1 (G' := fun f => ev_after (evT f 377 0 [oR 549 0, oI (s54.1 1020 (ix (x4 + (cI 1)))), oI (s54.1 1020 (ix (x4 + (cI 2))))] [] s54) (fun q => evT f 539 900 [oR 1020 0, oR 0 0, oR 549 0, oR 681 0, oI x4, nn, nn] (q.2 ++ [vI v55]) q.1)) (fun _ => rfl) (rg_bd2 h fun s56 v57 hc h => rg_call (q := cvI (s56, v57)) (T_fM_effective hc) ?_)
        refine rg_step 1 (G' := fun f => if v55 = v57 then evT f 539 3122 [oR 1020 0, oR 0 0, oR 549 0, oR 681 0, oI x4, nn, nn] [] s56 else evT f 539 903 [oR 1020 0, oR 0 0, oR 549 0, oR 681 0, oI x4, nn, nn] [] s56) (fun _ => rfl) (rg_if h (fun h => ?_) fun h => ?_)
        · exact (t_fLaw_b3122 hk23) h
        · exact rg_end 2 (fun _ => rfl) (by cases h; rfl)
      refine rg_if h (fun h => ?_) fun h => ?_
      · refine rg_step 6 (G' := fun f => if inb (x4 + (cI 1)) (ix (s.1 1021 0)) = true then evT f 539 912 [oR 1020 0, oR 0 0, oR 549 0, oR 681 0, oI x4, nn, nn] [vI (s.1 1020 (ix (x4 + (cI 1)))), vR 0 0] s else none) (fun _ => rfl) (rg_gd h fun h => ?_)
        refine rg_step 5 (G' := fun f => if inb (x4 + (cI 2)) (ix (s.1 1021 0)) = true then evT f 539 918 [oR 1020 0, oR 0 0, oR 549 0, oR 681 0, oI x4, nn, nn] [vI (s.1 1020 (ix (x4 + (cI 2)))), vI (s.1 1020 (ix (x4 + (cI 1)))), vR 0 0] s else none) (fun _ => rfl) (rg_gd h fun h => ?_)
        refine rg_step 1 (G' := fun f => ev_after (evT f 240 0 [oR 0 0, oI (s.1 1020 (ix (x4 + (cI 1)))), oI (s.1 1020 (ix (x4 + (cI 2)))), nn] [] s) (fun q => evT f 539 921 [oR 1020 0, oR 0 0, oR 549 0, oR 681 0, oI x4, nn, nn] (q.2 ++ []) q.1)) (fun _ => rfl) (rg_bd2 h fun s58 v59 hc h => rg_call (q := cvI (s58, v59)) (T_fPH_lastPoint hc) ?_)
        refine rg_step 6 (G' := fun f => if inb (x4 + (cI 1)) (ix (s58.1 1021 0)) = true then evT f 539 928 [oR 1020 0, oR 0 0, oR 549 0, oR 681 0, oI x4, nn, nn] [vI (s58.1 1020 (ix (x4 + (cI 1)))), vR 549 0, vI v59] s58 else none) (fun _ => rfl) (rg_gd h fun h => ?_)
        refine rg_step 5 (G' := fun f => if inb (x4 + (cI 2)) (ix (s58.1 1021 0)) = true then evT f 539 934 [oR 1020 0, oR 0 0, oR 549 0, oR 681 0, oI x4, nn, nn] [vI (s58.1 1020 (ix (x4 + (cI 2)))), vI (s58.1 1020 (ix (x4 + (cI 1)))), vR 549 0, vI v59] s58 else none) (fun _ => rfl) (rg_gd h fun h => ?_)
        refine rg_step 1 (G' := fun f => ev_after (evT f 378 0 [oR 549 0, oI (s58.1 1020 (ix (x4 + (cI 1)))), oI (s58.1 1020 (ix (x4 + (cI 2))))] [] s58) (fun q => evT f 539 937 [oR 1020 0, oR 0 0, oR 549 0, oR 681 0, oI x4, nn, nn] (q.2 ++ [vI v59]) q.1)) (fun _ => rfl) (rg_bd2 h fun s60 v61 hc h => rg_call (q := cvI (s60, v61)) (T_fM_lastPoint hc) ?_)
        refine rg_step 1 (G' := fun f => if v59 = v61 then evT f 539 3122 [oR 1020 0, oR 0 0, oR 549 0, oR 681 0, oI x4, nn, nn] [] s60 else evT f 539 940 [oR 1020 0, oR 0 0, oR 549 0, oR 681 0, oI x4, nn, nn] [] s60) (fun _ => rfl) (rg_if h (fun h => ?_) fun h => ?_)
        · exact (t_fLaw_b3122 hk23) h
        · exact rg_end 2 (fun _ => rfl) (by cases h; rfl)
      refine rg_if h (fun h => ?_) fun h => ?_
      · refine rg_step 6 (G' := fun f => if inb (x4 + (cI 1)) (ix (s.1 1021 0)) = true then evT f 539 949 [oR 1020 0, oR 0 0, oR 549 0, oR 681 0, oI x4, nn, nn] [vI (s.1 1020 (ix (x4 + (cI 1)))), vR 0 0] s else none) (fun _ => rfl) (rg_gd h fun h => ?_)
        refine rg_step 1 (G' := fun f => ev_after (evT f 241 0 [oR 0 0, oI (s.1 1020 (ix (x4 + (cI 1))))] [] s) (fun q => evT f 539 952 [oR 1020 0, oR 0 0, oR 549 0, oR 681 0, oI x4, nn, nn] (q.2 ++ []) q.1)) (fun _ => rfl) (rg_bd1 h fun v62 hc h => rg_call (q := cvP s v62) (T_fPH_find hc) ?_)
        refine rg_step 6 (G' := fun f => if inb (x4 + (cI 1)) (ix (s.1 1021 0)) = true then evT f 539 959 [oR 1020 0, oR 0 0, oR 549 0, oR 681 0, oI x4, nn, nn] [vI (s.1 1020 (ix (x4 + (cI 1)))), vR 549 0, vI v62] s else none) (fun _ => rfl) (rg_gd h fun h => ?_)
        refine rg_step 1 (G' := fun f => ev_after (evT f 379 0 [oR 549 0, oI (s.1 1020 (ix (x4 + (cI 1))))] [] s) (fun q => evT f 539 962 [oR 1020 0, oR 0 0, oR 549 0, oR 681 0, oI x4, nn, nn] (q.2 ++ [vI v62]) q.1)) (fun _ => rfl) (rg_bd2 h fun s63 v64 hc h => rg_call (q := cvI (s63, v64)) (T_fM_find hc) ?_)
        refine rg_step 1 (G' := fun f => if v62 = v64 then evT f 539 3122 [oR 1020 0, oR 0 0, oR 549 0, oR 681 0, oI x4, nn, nn] [] s63 else evT f 539 965 [oR 1020 0, oR 0 0, oR 549 0, oR 681 0, oI x4, nn, nn] [] s63) (fun _ => rfl) (rg_if h (fun h => ?_) fun h => ?_)
        · exact (t_fLaw_b3122 hk23) h
        · exact rg_end 2 (fun _ => rfl) (by cases h; rfl)
      refine rg_if h (fun h => ?_) fun h => ?_
      · refine rg_step 6 (G' := fun f => if inb (x4 + (cI 1)) (ix (s.1 1021 0)) = true then evT f 539 974 [oR 1020 0, oR 0 0, oR 549 0, oR 681 0, oI x4, nn, nn] [vI (s.1 1020 (ix (x4 + (cI 1)))), vR 0 0] s else none) (fun _ => rfl) (rg_gd h fun h => ?_)
        refine rg_step 5 (G' := fun f => if inb (x4 + (cI 2)) (ix (s.1 1021 0)) = true then evT f 539 980 [oR 1020 0, oR 0 0, oR 549 0, oR 681 0, oI x4, nn, nn] [vI (s.1 1020 (ix (x4 + (cI 2)))), vI (s.1 1020 (ix (x4 + (cI 1)))), vR 0 0] s else none) (fun _ => rfl) (rg_gd h fun h => ?_)
        refine rg_step 1 (G' := fun f => ev_after (evT f 242 0 [oR 0 0, oI (s.1 1020 (ix (x4 + (cI 1)))), oI (s.1 1020 (ix (x4 + (cI 2))))] [] s) (fun q => evT f 539 983 [oR 1020 0, oR 0 0, oR 549 0, oR 681 0, oI x4, nn, nn] (q.2 ++ []) q.1)) (fun _ => rfl) (rg_bd1 h fun v65 hc h => rg_call (q := cvP s v65) (T_fPH_pointAt hc) ?_)
        refine rg_step 6 (G' := fun f => if inb (x4 + (cI 1)) (ix (s.1 1021 0)) = true then evT f 539 990 [oR 1020 0, oR 0 0, oR 549 0, oR 681 0, oI x4, nn, nn] [vI (s.1 1020 (ix (x4 + (cI 1)))), vR 549 0, vI v65] s else none) (fun _ => rfl) (rg_gd h fun h => ?_)
        refine rg_step 5 (G' := fun f => if inb (x4 + (cI 2)) (ix (s.1 1021 0)) = true then evT f 539 996 [oR 1020 0, oR 0 0, oR 549 0, oR 681 0, oI x4, nn, nn] [vI (s.1 1020 (ix (x4 + (cI 2)))), vI (s.1 1020 (ix (x4 + (cI 1)))), vR 549 0, vI v65] s else none) (fun _ => rfl) (rg_gd h fun h => ?_)
        refine rg_step 1 (G' := fun f => ev_after (evT f 382 0 [oR 549 0, oI (s.1 1020 (ix (x4 + (cI 1)))), oI (s.1 1020 (ix (x4 + (cI 2))))] [] s) (fun q => evT f 539 999 [oR 1020 0, oR 0 0, oR 549 0, oR 681 0, oI x4, nn, nn] (q.2 ++ [vI v65]) q.1)) (fun _ => rfl) (rg_bd2 h fun s66 v67 hc h => rg_call (q := cvI (s66, v67)) (T_fM_pointAt hc) ?_)
        refine rg_step 1 (G' := fun f => if v65 = v67 then evT f 539 3122 [oR 1020 0, oR 0 0, oR 549 0, oR 681 0, oI x4, nn, nn] [] s66 else evT f 539 1002 [oR 1020 0, oR 0 0, oR 549 0, oR 681 0, oI x4, nn, nn] [] s66) (fun _ => rfl) (rg_if h (fun h => ?_) fun h => ?_)
        · exact (t_fLaw_b3122 hk23) h
        · exact rg_end 2 (fun _ => rfl) (by cases h; rfl)
      refine rg_if h (fun h => ?_) fun h => ?_
      · refine rg_step 6 (G' := fun f => if inb (x4 + (cI 1)) (ix (s.1 1021 0)) = true then evT f 539 1011 [oR 1020 0, oR 0 0, oR 549 0, oR 681 0, oI x4, nn, nn] [vI (s.1 1020 (ix (x4 + (cI 1)))), vR 0 0] s else none) (fun _ => rfl) (rg_gd h fun h => ?_)
        refine rg_step 1 (G' := fun f => ev_after (evT f 243 0 [oR 0 0, oI (s.1 1020 (ix (x4 + (cI 1)))), nn] [] s) (fun q => evT f 539 1014 [oR 1020 0, oR 0 0, oR 549 0, oR 681 0, oI x4, nn, nn] (q.2 ++ []) q.1)) (fun _ => rfl) (rg_bd2 h fun s68 v69 hc h => rg_call (q := cvI (s68, v69)) (T_fPH_sheet hc) ?_)
        refine rg_step 6 (G' := fun f => if inb (x4 + (cI 1)) (ix (s68.1 1021 0)) = true then evT f 539 1021 [oR 1020 0, oR 0 0, oR 549 0, oR 681 0, oI x4, nn, nn] [vI (s68.1 1020 (ix (x4 + (cI 1)))), vR 549 0, vI v69] s68 else none) (fun _ => rfl) (rg_gd h fun h => ?_)
        refine rg_step 1 (G' := fun f => ev_after (evT f 399 0 [oR 549 0, oI (s68.1 1020 (ix (x4 + (cI 1))))] [] s68) (fun q => evT f 539 1024 [oR 1020 0, oR 0 0, oR 549 0, oR 681 0, oI x4, nn, nn] (q.2 ++ [vI v69]) q.1)) (fun _ => rfl) (rg_bd2 h fun s70 v71 hc h => rg_call (q := cvI (s70, v71)) (T_fM_sheet hc) ?_)
        refine rg_step 1 (G' := fun f => if v69 = v71 then evT f 539 3122 [oR 1020 0, oR 0 0, oR 549 0, oR 681 0, oI x4, nn, nn] [] s70 else evT f 539 1027 [oR 1020 0, oR 0 0, oR 549 0, oR 681 0, oI x4, nn, nn] [] s70) (fun _ => rfl) (rg_if h (fun h => ?_) fun h => ?_)
        · exact (t_fLaw_b3122 hk23) h
        · exact rg_end 2 (fun _ => rfl) (by cases h; rfl)
      refine rg_if h (fun h => ?_) fun h => ?_
      · refine rg_step 2 (G' := fun f => ev_after (evT f 244 0 [oR 0 0] [] s) (fun q => evT f 539 1033 [oR 1020 0, oR 0 0, oR 549 0, oR 681 0, oI x4, nn, nn] (q.2 ++ []) q.1)) (fun _ => rfl) (rg_bd1 h fun v72 hc h => rg_call (q := cvP s v72) (T_fPH_read hc) ?_)
        refine rg_step 2 (G' := fun f => ev_after (evT f 400 0 [oR 549 0] [] s) (fun q => evT f 539 1037 [oR 1020 0, oR 0 0, oR 549 0, oR 681 0, oI x4, nn, nn] (q.2 ++ [vI v72]) q.1)) (fun _ => rfl) (rg_bd2 h fun s73 v74 hc h => rg_call (q := cvI (s73, v74)) (T_fM_read hc) ?_)
        refine rg_step 1 (G' := fun f => if v72 = v74 then evT f 539 3122 [oR 1020 0, oR 0 0, oR 549 0, oR 681 0, oI x4, nn, nn] [] s73 else evT f 539 1040 [oR 1020 0, oR 0 0, oR 549 0, oR 681 0, oI x4, nn, nn] [] s73) (fun _ => rfl) (rg_if h (fun h => ?_) fun h => ?_)
        · exact (t_fLaw_b3122 hk23) h
        · exact rg_end 2 (fun _ => rfl) (by cases h; rfl)
      refine rg_if h (fun h => ?_) fun h => ?_
      · refine rg_step 6 (G' := fun f => if inb (x4 + (cI 1)) (ix (s.1 1021 0)) = true then evT f 539 1049 [oR 1020 0, oR 0 0, oR 549 0, oR 681 0, oI x4, nn, nn] [vI (s.1 1020 (ix (x4 + (cI 1)))), vR 0 0] s else none) (fun _ => rfl) (rg_gd h fun h => ?_)
        refine rg_step 5 (G' := fun f => if inb (x4 + (cI 2)) (ix (s.1 1021 0)) = true then evT f 539 1055 [oR 1020 0, oR 0 0, oR 549 0, oR 681 0, oI x4, nn, nn] [vI (s.1 1020 (ix (x4 + (cI 2)))), vI (s.1 1020 (ix (x4 + (cI 1)))), vR 0 0] s else none) (fun _ => rfl) (rg_gd h fun h => ?_)
        refine rg_step 1 (G' := fun f => ev_after (evT f 245 0 [oR 0 0, oI (s.1 1020 (ix (x4 + (cI 1)))), oI (s.1 1020 (ix (x4 + (cI 2))))] [] s) (fun q => evT f 539 1058 [oR 1020 0, oR 0 0, oR 549 0, oR 681 0, oI x4, nn, nn] (q.2 ++ []) q.1)) (fun _ => rfl) (rg_bd1 h fun v75 hc h => rg_call (q := cvP s v75) (T_fPH_textLine hc) ?_)
        refine rg_step 6 (G' := fun f => if inb (x4 + (cI 1)) (ix (s.1 1021 0)) = true then evT f 539 1065 [oR 1020 0, oR 0 0, oR 549 0, oR 681 0, oI x4, nn, nn] [vI (s.1 1020 (ix (x4 + (cI 1)))), vR 549 0, vI v75] s else none) (fun _ => rfl) (rg_gd h fun h => ?_)
        refine rg_step 5 (G' := fun f => if inb (x4 + (cI 2)) (ix (s.1 1021 0)) = true then evT f 539 1071 [oR 1020 0, oR 0 0, oR 549 0, oR 681 0, oI x4, nn, nn] [vI (s.1 1020 (ix (x4 + (cI 2)))), vI (s.1 1020 (ix (x4 + (cI 1)))), vR 549 0, vI v75] s else none) (fun _ => rfl) (rg_gd h fun h => ?_)
        refine rg_step 1 (G' := fun f => ev_after (evT f 401 0 [oR 549 0, oI (s.1 1020 (ix (x4 + (cI 1)))), oI (s.1 1020 (ix (x4 + (cI 2)))), nn, nn, nn] [] s) (fun q => evT f 539 1074 [oR 1020 0, oR 0 0, oR 549 0, oR 681 0, oI x4, nn, nn] (q.2 ++ [vI v75]) q.1)) (fun _ => rfl) (rg_bd2 h fun s76 v77 hc h => rg_call (q := cvI (s76, v77)) (T_fM_textLine hc) ?_)
        refine rg_step 1 (G' := fun f => if v75 = v77 then evT f 539 3122 [oR 1020 0, oR 0 0, oR 549 0, oR 681 0, oI x4, nn, nn] [] s76 else evT f 539 1077 [oR 1020 0, oR 0 0, oR 549 0, oR 681 0, oI x4, nn, nn] [] s76) (fun _ => rfl) (rg_if h (fun h => ?_) fun h => ?_)
        · exact (t_fLaw_b3122 hk23) h
        · exact rg_end 2 (fun _ => rfl) (by cases h; rfl)
      refine rg_if h (fun h => ?_) fun h => ?_
      · refine rg_step 6 (G' := fun f => if inb (x4 + (cI 1)) (ix (s.1 1021 0)) = true then evT f 539 1086 [oR 1020 0, oR 0 0, oR 549 0, oR 681 0, oI x4, nn, nn] [vI (s.1 1020 (ix (x4 + (cI 1)))), vR 0 0] s else none) (fun _ => rfl) (rg_gd h fun h => ?_)
        refine rg_step 5 (G' := fun f => if inb (x4 + (cI 2)) (ix (s.1 1021 0)) = true then evT f 539 1092 [oR 1020 0, oR 0 0, oR 549 0, oR 681 0, oI x4, nn, nn] [vI (s.1 1020 (ix (x4 + (cI 2)))), vI (s.1 1020 (ix (x4 + (cI 1)))), vR 0 0] s else none) (fun _ => rfl) (rg_gd h fun h => ?_)
        refine rg_step 5 (G' := fun f => if inb (x4 + (cI 3)) (ix (s.1 1021 0)) = true then evT f 539 1098 [oR 1020 0, oR 0 0, oR 549 0, oR 681 0, oI x4, nn, nn] [vI (s.1 1020 (ix (x4 + (cI 3)))), vI (s.1 1020 (ix (x4 + (cI 2)))), vI (s.1 1020 (ix (x4 + (cI 1)))), vR 0 0] s else none) (fun _ => rfl) (rg_gd h fun h => ?_)
        refine rg_step 1 (G' := fun f => ev_after (evT f 246 0 [oR 0 0, oI (s.1 1020 (ix (x4 + (cI 1)))), oI (s.1 1020 (ix (x4 + (cI 2)))), oI (s.1 1020 (ix (x4 + (cI 3))))] [] s) (fun q => evT f 539 1101 [oR 1020 0, oR 0 0, oR 549 0, oR 681 0, oI x4, nn, nn] (q.2 ++ []) q.1)) (fun _ => rfl) (rg_bd1 h fun v78 hc h => rg_call (q := cvP s v78) (T_fPH_sign hc) ?_)
        refine rg_step 6 (G' := fun f => if inb (x4 + (cI 1)) (ix (s.1 1021 0)) = true then evT f 539 1108 [oR 1020 0, oR 0 0, oR 549 0, oR 681 0, oI x4, nn, nn] [vI (s.1 1020 (ix (x4 + (cI 1)))), vR 549 0, vI v78] s else none) (fun _ => rfl) (rg_gd h fun h => ?_)
        refine rg_step 5 (G' := fun f => if inb (x4 + (cI 2)) (ix (s.1 1021 0)) = true then evT f 539 1114 [oR 1020 0, oR 0 0, oR 549 0, oR 681 0, oI x4, nn, nn] [vI (s.1 1020 (ix (x4 + (cI 2)))), vI (s.1 1020 (ix (x4 + (cI 1)))), vR 549 0, vI v78] s else none) (fun _ => rfl) (rg_gd h fun h => ?_)
        refine rg_step 5 (G' := fun f => if inb (x4 + (cI 3)) (ix (s.1 1021 0)) = true then evT f 539 1120 [oR 1020 0, oR 0 0, oR 549 0, oR 681 0, oI x4, nn, nn] [vI (s.1 1020 (ix (x4 + (cI 3)))), vI (s.1 1020 (ix (x4 + (cI 2)))), vI (s.1 1020 (ix (x4 + (cI 1)))), vR 549 0, vI v78] s else none) (fun _ => rfl) (rg_gd h fun h => ?_)
        refine rg_step 1 (G' := fun f => ev_after (evT f 402 0 [oR 549 0, oI (s.1 1020 (ix (x4 + (cI 1)))), oI (s.1 1020 (ix (x4 + (cI 2)))), oI (s.1 1020 (ix (x4 + (cI 3)))), nn] [] s) (fun q => evT f 539 1123 [oR 1020 0, oR 0 0, oR 549 0, oR 681 0, oI x4, nn, nn] (q.2 ++ [vI v78]) q.1)) (fun _ => rfl) (rg_bd2 h fun s79 v80 hc h => rg_call (q := cvI (s79, v80)) (T_fM_sign hc) ?_)
        refine rg_step 1 (G' := fun f => if v78 = v80 then evT f 539 3122 [oR 1020 0, oR 0 0, oR 549 0, oR 681 0, oI x4, nn, nn] [] s79 else evT f 539 1126 [oR 1020 0, oR 0 0, oR 549 0, oR 681 0, oI x4, nn, nn] [] s79) (fun _ => rfl) (rg_if h (fun h => ?_) fun h => ?_)
        · exact (t_fLaw_b3122 hk23) h
        · exact rg_end 2 (fun _ => rfl) (by cases h; rfl)
      refine rg_if h (fun h => ?_) fun h => ?_
      · refine rg_step 6 (G' := fun f => if inb (x4 + (cI 1)) (ix (s.1 1021 0)) = true then evT f 539 1135 [oR 1020 0, oR 0 0, oR 549 0, oR 681 0, oI x4, nn, nn] [vI (s.1 1020 (ix (x4 + (cI 1)))), vR 0 0] s else none) (fun _ => rfl) (rg_gd h fun h => ?_)
        refine rg_step 5 (G' := fun f => if inb (x4 + (cI 2)) (ix (s.1 1021 0)) = true then evT f 539 1141 [oR 1020 0, oR 0 0, oR 549 0, oR 681 0, oI x4, nn, nn] [vI (s.1 1020 (ix (x4 + (cI 2)))), vI (s.1 1020 (ix (x4 + (cI 1)))), vR 0 0] s else none) (fun _ => rfl) (rg_gd h fun h => ?_)
        refine rg_step 5 (G' := fun f => if inb (x4 + (cI 3)) (ix (s.1 1021 0)) = true then evT f 539 1147 [oR 1020 0, oR 0 0, oR 549 0, oR 681 0, oI x4, nn, nn] [vI (s.1 1020 (ix (x4 + (cI 3)))), vI (s.1 1020 (ix (x4 + (cI 2)))), vI (s.1 1020 (ix (x4 + (cI 1)))), vR 0 0] s else none) (fun _ => rfl) (rg_gd h fun h => ?_)
        refine rg_step 5 (G' := fun f => if inb (x4 + (cI 4)) (ix (s.1 1021 0)) = true then evT f 539 1153 [oR 1020 0, oR 0 0, oR 549 0, oR 681 0, oI x4, nn, nn] [vI (s.1 1020 (ix (x4 + (cI 4)))), vI (s.1 1020 (ix (x4 + (cI 3)))), vI (s.1 1020 (ix (x4 + (cI 2)))), vI (s.1 1020 (ix (x4 + (cI 1)))), vR 0 0] s else none) (fun _ => rfl) (rg_gd h fun h => ?_)
        refine rg_step 5 (G' := fun f => if inb (x4 + (cI 5)) (ix (s.1 1021 0)) = true then evT f 539 1159 [oR 1020 0, oR 0 0, oR 549 0, oR 681 0, oI x4, nn, nn] [vI (s.1 1020 (ix (x4 + (cI 5)))), vI (s.1 1020 (ix (x4 + (cI 4)))), vI (s.1 1020 (ix (x4 + (cI 3)))), vI (s.1 1020 (ix (x4 + (cI 2)))), vI (s.1 1020 (ix (x4 + (cI 1)))), vR 0 0] s else none) (fun _ => rfl) (rg_gd h fun h => ?_)
        refine rg_step 5 (G' := fun f => if inb (x4 + (cI 6)) (ix (s.1 1021 0)) = true then evT f 539 1166 [oR 1020 0, oR 0 0, oR 549 0, oR 681 0, oI x4, nn, nn] [vI (s.1 1020 (ix (x4 + (cI 6)))), vI (s.1 1020 (ix (x4 + (cI 5)))), vI (s.1 1020 (ix (x4 + (cI 4)))), vI (s.1 1020 (ix (x4 + (cI 3)))), vI (s.1 1020 (ix (x4 + (cI 2)))), vI (s.1 1020 (ix (x4 + (cI 1)))), vR 0 0] s else none) (fun _ => rfl) (rg_gd h fun h => ?_)
        refine rg_step 1 (G' := fun f => ev_after (evT f 247 0 [oR 0 0, oI (s.1 1020 (ix (x4 + (cI 1)))), oI (s.1 1020 (ix (x4 + (cI 2)))), oI (s.1 1020 (ix (x4 + (cI 3)))), oI (s.1 1020 (ix (x4 + (cI 4)))), oI (s.1 1020 (ix (x4 + (cI 5)))), oI (s.1 1020 (ix (x4 + (cI 6))))] [] s) (fun q => evT f 539 1169 [oR 1020 0, oR 0 0, oR 549 0, oR 681 0, oI x4, nn, nn] (q.2 ++ []) q.1)) (fun _ => rfl) (rg_bd2 h fun s81 v82 hc h => rg_call (q := cvI (s81, v82)) (T_fPH_item hc) ?_)
        refine rg_step 6 (G' := fun f => if inb (x4 + (cI 1)) (ix (s81.1 1021 0)) = true then evT f 539 1176 [oR 1020 0, oR 0 0, oR 549 0, oR 681 0, oI x4, nn, nn] [vI (s81.1 1020 (ix (x4 + (cI 1)))), vR 549 0, vI v82] s81 else none) (fun _ => rfl) (rg_gd h fun h => ?_)
        refine rg_step 5 (G' := fun f => if inb (x4 + (cI 2)) (ix (s81.1 1021 0)) = true then evT f 539 1182 [oR 1020 0, oR 0 0, oR 549 0, oR 681 0, oI x4, nn, nn] [vI (s81.1 1020 (ix (x4 + (cI 2)))), vI (s81.1 1020 (ix (x4 + (cI 1)))), vR 549 0, vI v82] s81 else none) (fun _ => rfl) (rg_gd h fun h => ?_)
        refine rg_step 5 (G' := fun f => if inb (x4 + (cI 3)) (ix (s81.1 1021 0)) = true then evT f 539 1188 [oR 1020 0, oR 0 0, oR 549 0, oR 681 0, oI x4, nn, nn] [vI (s81.1 1020 (ix (x4 + (cI 3)))), vI (s81.1 1020 (ix (x4 + (cI 2)))), vI (s81.1 1020 (ix (x4 + (cI 1)))), vR 549 0, vI v82] s81 else none) (fun _ => rfl) (rg_gd h fun h => ?_)
        refine rg_step 5 (G' := fun f => if inb (x4 + (cI 4)) (ix (s81.1 1021 0)) = true then evT f 539 1194 [oR 1020 0, oR 0 0, oR 549 0, oR 681 0, oI x4, nn, nn] [vI (s81.1 1020 (ix (x4 + (cI 4)))), vI (s81.1 1020 (ix (x4 + (cI 3)))), vI (s81.1 1020 (ix (x4 + (cI 2)))), vI (s81.1 1020 (ix (x4 + (cI 1)))), vR 549 0, vI v82] s81 else none) (fun _ => rfl) (rg_gd h fun h => ?_)
        refine rg_step 5 (G' := fun f => if inb (x4 + (cI 5)) (ix (s81.1 1021 0)) = true then evT f 539 1200 [oR 1020 0, oR 0 0, oR 549 0, oR 681 0, oI x4, nn, nn] [vI (s81.1 1020 (ix (x4 + (cI 5)))), vI (s81.1 1020 (ix (x4 + (cI 4)))), vI (s81.1 1020 (ix (x4 + (cI 3)))), vI (s81.1 1020 (ix (x4 + (cI 2)))), vI (s81.1 1020 (ix (x4 + (cI 1)))), vR 549 0, vI v82] s81 else none) (fun _ => rfl) (rg_gd h fun h => ?_)
        refine rg_step 5 (G' := fun f => if inb (x4 + (cI 6)) (ix (s81.1 1021 0)) = true then evT f 539 1207 [oR 1020 0, oR 0 0, oR 549 0, oR 681 0, oI x4, nn, nn] [vI (s81.1 1020 (ix (x4 + (cI 6)))), vI (s81.1 1020 (ix (x4 + (cI 5)))), vI (s81.1 1020 (ix (x4 + (cI 4)))), vI (s81.1 1020 (ix (x4 + (cI 3)))), vI (s81.1 1020 (ix (x4 + (cI 2)))), vI (s81.1 1020 (ix (x4 + (cI 1)))), vR 549 0, vI v82] s81 else none) (fun _ => rfl) (rg_gd h fun h => ?_)
        refine rg_step 1 (G' := fun f => ev_after (evT f 404 0 [oR 549 0, oI (s81.1 1020 (ix (x4 + (cI 1)))), oI (s81.1 1020 (ix (x4 + (cI 2)))), oI (s81.1 1020 (ix (x4 + (cI 3)))), oI (s81.1 1020 (ix (x4 + (cI 4)))), oI (s81.1 1020 (ix (x4 + (cI 5)))), oI (s81.1 1020 (ix (x4 + (cI 6))))] [] s81) (fun q => evT f 539 1210 [oR 1020 0, oR 0 0, oR 549 0, oR 681 0, oI x4, nn, nn] (q.2 ++ [vI v82]) q.1)) (fun _ => rfl) (rg_bd2 h fun s83 v84 hc h => rg_call (q := cvI (s83, v84)) (T_fM_item hc) ?_)
        refine rg_step 1 (G' := fun f => if v82 = v84 then evT f 539 3122 [oR 1020 0, oR 0 0, oR 549 0, oR 681 0, oI x4, nn, nn] [] s83 else evT f 539 1213 [oR 1020 0, oR 0 0, oR 549 0, oR 681 0, oI x4, nn, nn] [] s83) (fun _ => rfl) (rg_if h (fun h => ?_) fun h => ?_)
        · exact (t_fLaw_b3122 hk23) h
        · exact rg_end 2 (fun _ => rfl) (by cases h; rfl)
      refine rg_if h (fun h => ?_) fun h => ?_
      · refine rg_step 6 (G' := fun f => if inb (x4 + (cI 1)) (ix (s.1 1021 0)) = true then evT f 539 1222 [oR 1020 0, oR 0 0, oR 549 0, oR 681 0, oI x4, nn, nn] [vI (s.1 1020 (ix (x4 + (cI 1)))), vR 0 0] s else none) (fun _ => rfl) (rg_gd h fun h => ?_)
        refine rg_step 5 (G' := fun f => if inb (x4 + (cI 2)) (ix (s.1 1021 0)) = true then evT f 539 1228 [oR 1020 0, oR 0 0, oR 549 0, oR 681 0, oI x4, nn, nn] [vI (s.1 1020 (ix (x4 + (cI 2)))), vI (s.1 1020 (ix (x4 + (cI 1)))), vR 0 0] s else none) (fun _ => rfl) (rg_gd h fun h => ?_)
        refine rg_step 1 (G' := fun f => ev_after (evT f 248 0 [oR 0 0, oI (s.1 1020 (ix (x4 + (cI 1)))), oI (s.1 1020 (ix (x4 + (cI 2))))] [] s) (fun q => evT f 539 1231 [oR 1020 0, oR 0 0, oR 549 0, oR 681 0, oI x4, nn, nn] (q.2 ++ []) q.1)) (fun _ => rfl) (rg_bd2 h fun s85 v86 hc h => rg_call (q := cvI (s85, v86)) (T_fPH_address hc) ?_)
        refine rg_step 6 (G' := fun f => if inb (x4 + (cI 1)) (ix (s85.1 1021 0)) = true then evT f 539 1238 [oR 1020 0, oR 0 0, oR 549 0, oR 681 0, oI x4, nn, nn] [vI (s85.1 1020 (ix (x4 + (cI 1)))), vR 549 0, vI v86] s85 else none) (fun _ => rfl) (rg_gd h fun h => ?_)
        refine rg_step 5 (G' := fun f => if inb (x4 + (cI 2)) (ix (s85.1 1021 0)) = true then evT f 539 1244 [oR 1020 0, oR 0 0, oR 549 0, oR 681 0, oI x4, nn, nn] [vI (s85.1 1020 (ix (x4 + (cI 2)))), vI (s85.1 1020 (ix (x4 + (cI 1)))), vR 549 0, vI v86] s85 else none) (fun _ => rfl) (rg_gd h fun h => ?_)
        refine rg_step 1 (G' := fun f => ev_after (evT f 408 0 [oR 549 0, oI (s85.1 1020 (ix (x4 + (cI 1)))), oI (s85.1 1020 (ix (x4 + (cI 2))))] [] s85) (fun q => evT f 539 1247 [oR 1020 0, oR 0 0, oR 549 0, oR 681 0, oI x4, nn, nn] (q.2 ++ [vI v86]) q.1)) (fun _ => rfl) (rg_bd2 h fun s87 v88 hc h => rg_call (q := cvI (s87, v88)) (T_fM_address hc) ?_)
        refine rg_step 1 (G' := fun f => if v86 = v88 then evT f 539 3122 [oR 1020 0, oR 0 0, oR 549 0, oR 681 0, oI x4, nn, nn] [] s87 else evT f 539 1250 [oR 1020 0, oR 0 0, oR 549 0, oR 681 0, oI x4, nn, nn] [] s87) (fun _ => rfl) (rg_if h (fun h => ?_) fun h => ?_)
        · exact (t_fLaw_b3122 hk23) h
        · exact rg_end 2 (fun _ => rfl) (by cases h; rfl)
      refine rg_if h (fun h => ?_) fun h => ?_
      · refine rg_step 6 (G' := fun f => if inb (x4 + (cI 1)) (ix (s.1 1021 0)) = true then evT f 539 1259 [oR 1020 0, oR 0 0, oR 549 0, oR 681 0, oI x4, nn, nn] [vI (s.1 1020 (ix (x4 + (cI 1)))), vR 0 0] s else none) (fun _ => rfl) (rg_gd h fun h => ?_)
        refine rg_step 1 (G' := fun f => ev_after (evT f 249 0 [oR 0 0, oI (s.1 1020 (ix (x4 + (cI 1))))] [] s) (fun q => evT f 539 1262 [oR 1020 0, oR 0 0, oR 549 0, oR 681 0, oI x4, nn, nn] (q.2 ++ []) q.1)) (fun _ => rfl) (rg_bd2 h fun s89 v90 hc h => rg_call (q := cvI (s89, v90)) (T_fPH_take hc) ?_)
        refine rg_step 6 (G' := fun f => if inb (x4 + (cI 1)) (ix (s89.1 1021 0)) = true then evT f 539 1269 [oR 1020 0, oR 0 0, oR 549 0, oR 681 0, oI x4, nn, nn] [vI (s89.1 1020 (ix (x4 + (cI 1)))), vR 549 0, vI v90] s89 else none) (fun _ => rfl) (rg_gd h fun h => ?_)
        refine rg_step 1 (G' := fun f => ev_after (evT f 410 0 [oR 549 0, oI (s89.1 1020 (ix (x4 + (cI 1))))] [] s89) (fun q => evT f 539 1272 [oR 1020 0, oR 0 0, oR 549 0, oR 681 0, oI x4, nn, nn] (q.2 ++ [vI v90]) q.1)) (fun _ => rfl) (rg_bd2 h fun s91 v92 hc h => rg_call (q := cvI (s91, v92)) (T_fM_take hc) ?_)
        refine rg_step 1 (G' := fun f => if v90 = v92 then evT f 539 3122 [oR 1020 0, oR 0 0, oR 549 0, oR 681 0, oI x4, nn, nn] [] s91 else evT f 539 1275 [oR 1020 0, oR 0 0, oR 549 0, oR 681 0, oI x4, nn, nn] [] s91) (fun _ => rfl) (rg_if h (fun h => ?_) fun h => ?_)
        · exact (t_fLaw_b3122 hk23) h
        · exact rg_end 2 (fun _ => rfl) (by cases h; rfl)
      refine rg_if h (fun h => ?_) fun h => ?_
      · refine rg_step 6 (G' := fun f => if inb (x4 + (cI 1)) (ix (s.1 1021 0)) = true then evT f 539 1284 [oR 1020 0, oR 0 0, oR 549 0, oR 681 0, oI x4, nn, nn] [vI (s.1 1020 (ix (x4 + (cI 1)))), vR 0 0] s else none) (fun _ => rfl) (rg_gd h fun h => ?_)
        refine rg_step 5 (G' := fun f => if inb (x4 + (cI 2)) (ix (s.1 1021 0)) = true then evT f 539 1290 [oR 1020 0, oR 0 0, oR 549 0, oR 681 0, oI x4, nn, nn] [vI (s.1 1020 (ix (x4 + (cI 2)))), vI (s.1 1020 (ix (x4 + (cI 1)))), vR 0 0] s else none) (fun _ => rfl) (rg_gd h fun h => ?_)
        refine rg_step 5 (G' := fun f => if inb (x4 + (cI 3)) (ix (s.1 1021 0)) = true then evT f 539 1296 [oR 1020 0, oR 0 0, oR 549 0, oR 681 0, oI x4, nn, nn] [vI (s.1 1020 (ix (x4 + (cI 3)))), vI (s.1 1020 (ix (x4 + (cI 2)))), vI (s.1 1020 (ix (x4 + (cI 1)))), vR 0 0] s else none) (fun _ => rfl) (rg_gd h fun h => ?_)
        refine rg_step 1 (G' := fun f => ev_after (evT f 250 0 [oR 0 0, oI (s.1 1020 (ix (x4 + (cI 1)))), oI (s.1 1020 (ix (x4 + (cI 2)))), oI (s.1 1020 (ix (x4 + (cI 3))))] [] s) (fun q => evT f 539 1299 [oR 1020 0, oR 0 0, oR 549 0, oR 681 0, oI x4, nn, nn] (q.2 ++ []) q.1)) (fun _ => rfl) (rg_bd2 h fun s93 v94 hc h => rg_call (q := cvI (s93, v94)) (T_fPH_clerk hc) ?_)
        refine rg_step 6 (G' := fun f => if inb (x4 + (cI 1)) (ix (s93.1 1021 0)) = true then evT f 539 1306 [oR 1020 0, oR 0 0, oR 549 0, oR 681 0, oI x4, nn, nn] [vI (s93.1 1020 (ix (x4 + (cI 1)))), vR 549 0, vI v94] s93 else none) (fun _ => rfl) (rg_gd h fun h => ?_)
        refine rg_step 5 (G' := fun f => if inb (x4 + (cI 2)) (ix (s93.1 1021 0)) = true then evT f 539 1312 [oR 1020 0, oR 0 0, oR 549 0, oR 681 0, oI x4, nn, nn] [vI (s93.1 1020 (ix (x4 + (cI 2)))), vI (s93.1 1020 (ix (x4 + (cI 1)))), vR 549 0, vI v94] s93 else none) (fun _ => rfl) (rg_gd h fun h => ?_)
        refine rg_step 5 (G' := fun f => if inb (x4 + (cI 3)) (ix (s93.1 1021 0)) = true then evT f 539 1318 [oR 1020 0, oR 0 0, oR 549 0, oR 681 0, oI x4, nn, nn] [vI (s93.1 1020 (ix (x4 + (cI 3)))), vI (s93.1 1020 (ix (x4 + (cI 2)))), vI (s93.1 1020 (ix (x4 + (cI 1)))), vR 549 0, vI v94] s93 else none) (fun _ => rfl) (rg_gd h fun h => ?_)
        refine rg_step 1 (G' := fun f => ev_after (evT f 412 0 [oR 549 0, oI (s93.1 1020 (ix (x4 + (cI 1)))), oI (s93.1 1020 (ix (x4 + (cI 2)))), oI (s93.1 1020 (ix (x4 + (cI 3))))] [] s93) (fun q => evT f 539 1321 [oR 1020 0, oR 0 0, oR 549 0, oR 681 0, oI x4, nn, nn] (q.2 ++ [vI v94]) q.1)) (fun _ => rfl) (rg_bd2 h fun s95 v96 hc h => rg_call (q := cvI (s95, v96)) (T_fM_clerk hc) ?_)
        refine rg_step 1 (G' := fun f => if v94 = v96 then evT f 539 3122 [oR 1020 0, oR 0 0, oR 549 0, oR 681 0, oI x4, nn, nn] [] s95 else evT f 539 1324 [oR 1020 0, oR 0 0, oR 549 0, oR 681 0, oI x4, nn, nn] [] s95) (fun _ => rfl) (rg_if h (fun h => ?_) fun h => ?_)
        · exact (t_fLaw_b3122 hk23) h
        · exact rg_end 2 (fun _ => rfl) (by cases h; rfl)
      refine rg_if h (fun h => ?_) fun h => ?_
      · refine rg_step 6 (G' := fun f => if inb (x4 + (cI 1)) (ix (s.1 1021 0)) = true then evT f 539 1333 [oR 1020 0, oR 0 0, oR 549 0, oR 681 0, oI x4, nn, nn] [vI (s.1 1020 (ix (x4 + (cI 1)))), vR 0 0] s else none) (fun _ => rfl) (rg_gd h fun h => ?_)
        refine rg_step 5 (G' := fun f => if inb (x4 + (cI 2)) (ix (s.1 1021 0)) = true then evT f 539 1339 [oR 1020 0, oR 0 0, oR 549 0, oR 681 0, oI x4, nn, nn] [vI (s.1 1020 (ix (x4 + (cI 2)))), vI (s.1 1020 (ix (x4 + (cI 1)))), vR 0 0] s else none) (fun _ => rfl) (rg_gd h fun h => ?_)
        refine rg_step 1 (G' := fun f => ev_after (evT f 251 0 [oR 0 0, oI (s.1 1020 (ix (x4 + (cI 1)))), oI (s.1 1020 (ix (x4 + (cI 2))))] [] s) (fun q => evT f 539 1342 [oR 1020 0, oR 0 0, oR 549 0, oR 681 0, oI x4, nn, nn] (q.2 ++ []) q.1)) (fun _ => rfl) (rg_bd2 h fun s97 v98 hc h => rg_call (q := cvI (s97, v98)) (T_fPH_post hc) ?_)
        refine rg_step 6 (G' := fun f => if inb (x4 + (cI 1)) (ix (s97.1 1021 0)) = true then evT f 539 1349 [oR 1020 0, oR 0 0, oR 549 0, oR 681 0, oI x4, nn, nn] [vI (s97.1 1020 (ix (x4 + (cI 1)))), vR 549 0, vI v98] s97 else none) (fun _ => rfl) (rg_gd h fun h => ?_)
        refine rg_step 5 (G' := fun f => if inb (x4 + (cI 2)) (ix (s97.1 1021 0)) = true then evT f 539 1355 [oR 1020 0, oR 0 0, oR 549 0, oR 681 0, oI x4, nn, nn] [vI (s97.1 1020 (ix (x4 + (cI 2)))), vI (s97.1 1020 (ix (x4 + (cI 1)))), vR 549 0, vI v98] s97 else none) (fun _ => rfl) (rg_gd h fun h => ?_)
        refine rg_step 1 (G' := fun f => ev_after (evT f 414 0 [oR 549 0, oI (s97.1 1020 (ix (x4 + (cI 1)))), oI (s97.1 1020 (ix (x4 + (cI 2))))] [] s97) (fun q => evT f 539 1358 [oR 1020 0, oR 0 0, oR 549 0, oR 681 0, oI x4, nn, nn] (q.2 ++ [vI v98]) q.1)) (fun _ => rfl) (rg_bd2 h fun s99 v100 hc h => rg_call (q := cvI (s99, v100)) (T_fM_post hc) ?_)
        refine rg_step 1 (G' := fun f => if v98 = v100 then evT f 539 3122 [oR 1020 0, oR 0 0, oR 549 0, oR 681 0, oI x4, nn, nn] [] s99 else evT f 539 1361 [oR 1020 0, oR 0 0, oR 549 0, oR 681 0, oI x4, nn, nn] [] s99) (fun _ => rfl) (rg_if h (fun h => ?_) fun h => ?_)
        · exact (t_fLaw_b3122 hk23) h
        · exact rg_end 2 (fun _ => rfl) (by cases h; rfl)
      refine rg_if h (fun h => ?_) fun h => ?_
      · refine rg_step 6 (G' := fun f => if inb (x4 + (cI 1)) (ix (s.1 1021 0)) = true then evT f 539 1370 [oR 1020 0, oR 0 0, oR 549 0, oR 681 0, oI x4, nn, nn] [vI (s.1 1020 (ix (x4 + (cI 1)))), vR 0 0] s else none) (fun _ => rfl) (rg_gd h fun h => ?_)
        refine rg_step 5 (G' := fun f => if inb (x4 + (cI 2)) (ix (s.1 1021 0)) = true then evT f 539 1376 [oR 1020 0, oR 0 0, oR 549 0, oR 681 0, oI x4, nn, nn] [vI (s.1 1020 (ix (x4 + (cI 2)))), vI (s.1 1020 (ix (x4 + (cI 1)))), vR 0 0] s else none) (fun _ => rfl) (rg_gd h fun h => ?_)
        refine rg_step 1 (G' := fun f => ev_after (evT f 252 0 [oR 0 0, oI (s.1 1020 (ix (x4 + (cI 1)))), oI (s.1 1020 (ix (x4 + (cI 2))))] [] s) (fun q => evT f 539 1379 [oR 1020 0, oR 0 0, oR 549 0, oR 681 0, oI x4, nn, nn] (q.2 ++ []) q.1)) (fun _ => rfl) (rg_bd2 h fun s101 v102 hc h => rg_call (q := cvI (s101, v102)) (T_fPH_about hc) ?_)
        refine rg_step 6 (G' := fun f => if inb (x4 + (cI 1)) (ix (s101.1 1021 0)) = true then evT f 539 1386 [oR 1020 0, oR 0 0, oR 549 0, oR 681 0, oI x4, nn, nn] [vI (s101.1 1020 (ix (x4 + (cI 1)))), vR 549 0, vI v102] s101 else none) (fun _ => rfl) (rg_gd h fun h => ?_)
        refine rg_step 5 (G' := fun f => if inb (x4 + (cI 2)) (ix (s101.1 1021 0)) = true then evT f 539 1392 [oR 1020 0, oR 0 0, oR 549 0, oR 681 0, oI x4, nn, nn] [vI (s101.1 1020 (ix (x4 + (cI 2)))), vI (s101.1 1020 (ix (x4 + (cI 1)))), vR 549 0, vI v102] s101 else none) (fun _ => rfl) (rg_gd h fun h => ?_)
        refine rg_step 1 (G' := fun f => ev_after (evT f 419 0 [oR 549 0, oI (s101.1 1020 (ix (x4 + (cI 1)))), oI (s101.1 1020 (ix (x4 + (cI 2))))] [] s101) (fun q => evT f 539 1395 [oR 1020 0, oR 0 0, oR 549 0, oR 681 0, oI x4, nn, nn] (q.2 ++ [vI v102]) q.1)) (fun _ => rfl) (rg_bd2 h fun s103 v104 hc h => rg_call (q := cvI (s103, v104)) (T_fM_about hc) ?_)
        refine rg_step 1 (G' := fun f => if v102 = v104 then evT f 539 3122 [oR 1020 0, oR 0 0, oR 549 0, oR 681 0, oI x4, nn, nn] [] s103 else evT f 539 1398 [oR 1020 0, oR 0 0, oR 549 0, oR 681 0, oI x4, nn, nn] [] s103) (fun _ => rfl) (rg_if h (fun h => ?_) fun h => ?_)
        · exact (t_fLaw_b3122 hk23) h
        · exact rg_end 2 (fun _ => rfl) (by cases h; rfl)
      refine rg_if h (fun h => ?_) fun h => ?_
      · refine rg_step 6 (G' := fun f => if inb (x4 + (cI 1)) (ix (s.1 1021 0)) = true then evT f 539 1407 [oR 1020 0, oR 0 0, oR 549 0, oR 681 0, oI x4, nn, nn] [vI (s.1 1020 (ix (x4 + (cI 1)))), vR 0 0] s else none) (fun _ => rfl) (rg_gd h fun h => ?_)
        refine rg_step 5 (G' := fun f => if inb (x4 + (cI 2)) (ix (s.1 1021 0)) = true then evT f 539 1413 [oR 1020 0, oR 0 0, oR 549 0, oR 681 0, oI x4, nn, nn] [vI (s.1 1020 (ix (x4 + (cI 2)))), vI (s.1 1020 (ix (x4 + (cI 1)))), vR 0 0] s else none) (fun _ => rfl) (rg_gd h fun h => ?_)
        refine rg_step 1 (G' := fun f => ev_after (evT f 253 0 [oR 0 0, oI (s.1 1020 (ix (x4 + (cI 1)))), oI (s.1 1020 (ix (x4 + (cI 2))))] [] s) (fun q => evT f 539 1416 [oR 1020 0, oR 0 0, oR 549 0, oR 681 0, oI x4, nn, nn] (q.2 ++ []) q.1)) (fun _ => rfl) (rg_bd2 h fun s105 v106 hc h => rg_call (q := cvI (s105, v106)) (T_fPH_bar hc) ?_)
        refine rg_step 6 (G' := fun f => if inb (x4 + (cI 1)) (ix (s105.1 1021 0)) = true then evT f 539 1423 [oR 1020 0, oR 0 0, oR 549 0, oR 681 0, oI x4, nn, nn] [vI (s105.1 1020 (ix (x4 + (cI 1)))), vR 549 0, vI v106] s105 else none) (fun _ => rfl) (rg_gd h fun h => ?_)
        refine rg_step 5 (G' := fun f => if inb (x4 + (cI 2)) (ix (s105.1 1021 0)) = true then evT f 539 1429 [oR 1020 0, oR 0 0, oR 549 0, oR 681 0, oI x4, nn, nn] [vI (s105.1 1020 (ix (x4 + (cI 2)))), vI (s105.1 1020 (ix (x4 + (cI 1)))), vR 549 0, vI v106] s105 else none) (fun _ => rfl) (rg_gd h fun h => ?_)
        refine rg_step 1 (G' := fun f => ev_after (evT f 424 0 [oR 549 0, oI (s105.1 1020 (ix (x4 + (cI 1)))), oI (s105.1 1020 (ix (x4 + (cI 2))))] [] s105) (fun q => evT f 539 1432 [oR 1020 0, oR 0 0, oR 549 0, oR 681 0, oI x4, nn, nn] (q.2 ++ [vI v106]) q.1)) (fun _ => rfl) (rg_bd2 h fun s107 v108 hc h => rg_call (q := cvI (s107, v108)) (T_fM_bar hc) ?_)
        refine rg_step 1 (G' := fun f => if v106 = v108 then evT f 539 3122 [oR 1020 0, oR 0 0, oR 549 0, oR 681 0, oI x4, nn, nn] [] s107 else evT f 539 1435 [oR 1020 0, oR 0 0, oR 549 0, oR 681 0, oI x4, nn, nn] [] s107) (fun _ => rfl) (rg_if h (fun h => ?_) fun h => ?_)
        · exact (t_fLaw_b3122 hk23) h
        · exact rg_end 2 (fun _ => rfl) (by cases h; rfl)
      refine rg_if h (fun h => ?_) fun h => ?_
      · refine rg_step 2 (G' := fun f => ev_after (evT f 254 0 [oR 0 0, nn] [] s) (fun q => evT f 539 1441 [oR 1020 0, oR 0 0, oR 549 0, oR 681 0, oI x4, nn, nn] (q.2 ++ []) q.1)) (fun _ => rfl) (rg_bd2 h fun s109 v110 hc h => rg_call (q := cvI (s109, v110)) (T_fPH_scan hc) ?_)
        refine rg_step 2 (G' := fun f => ev_after (evT f 429 0 [oR 549 0, nn, nn, nn, nn] [] s109) (fun q => evT f 539 1445 [oR 1020 0, oR 0 0, oR 549 0, oR 681 0, oI x4, nn, nn] (q.2 ++ [vI v110]) q.1)) (fun _ => rfl) (rg_bd2 h fun s111 v112 hc h => rg_call (q := cvI (s111, v112)) (T_fM_scan hc) ?_)
        refine rg_step 1 (G' := fun f => if v110 = v112 then evT f 539 3122 [oR 1020 0, oR 0 0, oR 549 0, oR 681 0, oI x4, nn, nn] [] s111 else evT f 539 1448 [oR 1020 0, oR 0 0, oR 549 0, oR 681 0, oI x4, nn, nn] [] s111) (fun _ => rfl) (rg_if h (fun h => ?_) fun h => ?_)
        · exact (t_fLaw_b3122 hk23) h
        · exact rg_end 2 (fun _ => rfl) (by cases h; rfl)
      refine rg_if h (fun h => ?_) fun h => ?_
      · refine rg_step 2 (G' := fun f => ev_after (evT f 255 0 [oR 0 0] [] s) (fun q => evT f 539 1454 [oR 1020 0, oR 0 0, oR 549 0, oR 681 0, oI x4, nn, nn] (q.2 ++ []) q.1)) (fun _ => rfl) (rg_bd1 h fun v113 hc h => rg_call (q := cvP s v113) (T_fPH_mended hc) ?_)
        refine rg_step 2 (G' := fun f => ev_after (evT f 430 0 [oR 549 0] [] s) (fun q => evT f 539 1458 [oR 1020 0, oR 0 0, oR 549 0, oR 681 0, oI x4, nn, nn] (q.2 ++ [vI v113]) q.1)) (fun _ => rfl) (rg_bd2 h fun s114 v115 hc h => rg_call (q := cvI (s114, v115)) (T_fM_mended hc) ?_)
        refine rg_step 1 (G' := fun f => if v113 = v115 then evT f 539 3122 [oR 1020 0, oR 0 0, oR 549 0, oR 681 0, oI x4, nn, nn] [] s114 else evT f 539 1461 [oR 1020 0, oR 0 0, oR 549 0, oR 681 0, oI x4, nn, nn] [] s114) (fun _ => rfl) (rg_if h (fun h => ?_) fun h => ?_)
        · exact (t_fLaw_b3122 hk23) h
        · exact rg_end 2 (fun _ => rfl) (by cases h; rfl)
      refine rg_if h (fun h => ?_) fun h => ?_
      · refine rg_step 6 (G' := fun f => if inb (x4 + (cI 1)) (ix (s.1 1021 0)) = true then evT f 539 1470 [oR 1020 0, oR 0 0, oR 549 0, oR 681 0, oI x4, nn, nn] [vI (s.1 1020 (ix (x4 + (cI 1)))), vR 0 0] s else none) (fun _ => rfl) (rg_gd h fun h => ?_)
        refine rg_step 5 (G' := fun f => if inb (x4 + (cI 2)) (ix (s.1 1021 0)) = true then evT f 539 1476 [oR 1020 0, oR 0 0, oR 549 0, oR 681 0, oI x4, nn, nn] [vI (s.1 1020 (ix (x4 + (cI 2)))), vI (s.1 1020 (ix (x4 + (cI 1)))), vR 0 0] s else none) (fun _ => rfl) (rg_gd h fun h => ?_)
        refine rg_step 5 (G' := fun f => if inb (x4 + (cI 3)) (ix (s.1 1021 0)) = true then evT f 539 1482 [oR 1020 0, oR 0 0, oR 549 0, oR 681 0, oI x4, nn, nn] [vI (s.1 1020 (ix (x4 + (cI 3)))), vI (s.1 1020 (ix (x4 + (cI 2)))), vI (s.1 1020 (ix (x4 + (cI 1)))), vR 0 0] s else none) (fun _ => rfl) (rg_gd h fun h => ?_)
        refine rg_step 5 (G' := fun f => if inb (x4 + (cI 4)) (ix (s.1 1021 0)) = true then evT f 539 1488 [oR 1020 0, oR 0 0, oR 549 0, oR 681 0, oI x4, nn, nn] [vI (s.1 1020 (ix (x4 + (cI 4)))), vI (s.1 1020 (ix (x4 + (cI 3)))), vI (s.1 1020 (ix (x4 + (cI 2)))), vI (s.1 1020 (ix (x4 + (cI 1)))), vR 0 0] s else none) (fun _ => rfl) (rg_gd h fun h => ?_)
        refine rg_step 1 (G' := fun f => ev_after (evT f 256 0 [oR 0 0, oI (s.1 1020 (ix (x4 + (cI 1)))), oI (s.1 1020 (ix (x4 + (cI 2)))), oI (s.1 1020 (ix (x4 + (cI 3)))), oI (s.1 1020 (ix (x4 + (cI 4))))] [] s) (fun q => evT f 539 1491 [oR 1020 0, oR 0 0, oR 549 0, oR 681 0, oI x4, nn, nn] (q.2 ++ []) q.1)) (fun _ => rfl) (rg_bd2 h fun s116 v117 hc h => rg_call (q := cvI (s116, v117)) (T_fPH_machine hc) ?_)
        refine rg_step 6 (G' := fun f => if inb (x4 + (cI 1)) (ix (s116.1 1021 0)) = true then evT f 539 1498 [oR 1020 0, oR 0 0, oR 549 0, oR 681 0, oI x4, nn, nn] [vI (s116.1 1020 (ix (x4 + (cI 1)))), vR 549 0, vI v117] s116 else none) (fun _ => rfl) (rg_gd h fun h => ?_)
        refine rg_step 5 (G' := fun f => if inb (x4 + (cI 2)) (ix (s116.1 1021 0)) = true then evT f 539 1504 [oR 1020 0, oR 0 0, oR 549 0, oR 681 0, oI x4, nn, nn] [vI (s116.1 1020 (ix (x4 + (cI 2)))), vI (s116.1 1020 (ix (x4 + (cI 1)))), vR 549 0, vI v117] s116 else none) (fun _ => rfl) (rg_gd h fun h => ?_)
        refine rg_step 5 (G' := fun f => if inb (x4 + (cI 3)) (ix (s116.1 1021 0)) = true then evT f 539 1510 [oR 1020 0, oR 0 0, oR 549 0, oR 681 0, oI x4, nn, nn] [vI (s116.1 1020 (ix (x4 + (cI 3)))), vI (s116.1 1020 (ix (x4 + (cI 2)))), vI (s116.1 1020 (ix (x4 + (cI 1)))), vR 549 0, vI v117] s116 else none) (fun _ => rfl) (rg_gd h fun h => ?_)
        refine rg_step 5 (G' := fun f => if inb (x4 + (cI 4)) (ix (s116.1 1021 0)) = true then evT f 539 1516 [oR 1020 0, oR 0 0, oR 549 0, oR 681 0, oI x4, nn, nn] [vI (s116.1 1020 (ix (x4 + (cI 4)))), vI (s116.1 1020 (ix (x4 + (cI 3)))), vI (s116.1 1020 (ix (x4 + (cI 2)))), vI (s116.1 1020 (ix (x4 + (cI 1)))), vR 549 0, vI v117] s116 else none) (fun _ => rfl) (rg_gd h fun h => ?_)
        refine rg_step 1 (G' := fun f => ev_after (evT f 432 0 [oR 549 0, oI (s116.1 1020 (ix (x4 + (cI 1)))), oI (s116.1 1020 (ix (x4 + (cI 2)))), oI (s116.1 1020 (ix (x4 + (cI 3)))), oI (s116.1 1020 (ix (x4 + (cI 4))))] [] s116) (fun q => evT f 539 1519 [oR 1020 0, oR 0 0, oR 549 0, oR 681 0, oI x4, nn, nn] (q.2 ++ [vI v117]) q.1)) (fun _ => rfl) (rg_bd2 h fun s118 v119 hc h => rg_call (q := cvI (s118, v119)) (T_fM_machine hc) ?_)
        refine rg_step 1 (G' := fun f => if v117 = v119 then evT f 539 3122 [oR 1020 0, oR 0 0, oR 549 0, oR 681 0, oI x4, nn, nn] [] s118 else evT f 539 1522 [oR 1020 0, oR 0 0, oR 549 0, oR 681 0, oI x4, nn, nn] [] s118) (fun _ => rfl) (rg_if h (fun h => ?_) fun h => ?_)
        · exact (t_fLaw_b3122 hk23) h
        · exact rg_end 2 (fun _ => rfl) (by cases h; rfl)
      refine rg_if h (fun h => ?_) fun h => ?_
      · refine rg_step 6 (G' := fun f => if inb (x4 + (cI 1)) (ix (s.1 1021 0)) = true then evT f 539 1531 [oR 1020 0, oR 0 0, oR 549 0, oR 681 0, oI x4, nn, nn] [vI (s.1 1020 (ix (x4 + (cI 1)))), vR 0 0] s else none) (fun _ => rfl) (rg_gd h fun h => ?_)
        refine rg_step 5 (G' := fun f => if inb (x4 + (cI 2)) (ix (s.1 1021 0)) = true then evT f 539 1537 [oR 1020 0, oR 0 0, oR 549 0, oR 681 0, oI x4, nn, nn] [vI (s.1 1020 (ix (x4 + (cI 2)))), vI (s.1 1020 (ix (x4 + (cI 1)))), vR 0 0] s else none) (fun _ => rfl) (rg_gd h fun h => ?_)
        refine rg_step 5 (G' := fun f => if inb (x4 + (cI 3)) (ix (s.1 1021 0)) = true then evT f 539 1543 [oR 1020 0, oR 0 0, oR 549 0, oR 681 0, oI x4, nn, nn] [vI (s.1 1020 (ix (x4 + (cI 3)))), vI (s.1 1020 (ix (x4 + (cI 2)))), vI (s.1 1020 (ix (x4 + (cI 1)))), vR 0 0] s else none) (fun _ => rfl) (rg_gd h fun h => ?_)
        refine rg_step 1 (G' := fun f => ev_after (evT f 257 0 [oR 0 0, oI (s.1 1020 (ix (x4 + (cI 1)))), oI (s.1 1020 (ix (x4 + (cI 2)))), oI (s.1 1020 (ix (x4 + (cI 3))))] [] s) (fun q => evT f 539 1546 [oR 1020 0, oR 0 0, oR 549 0, oR 681 0, oI x4, nn, nn] (q.2 ++ []) q.1)) (fun _ => rfl) (rg_bd2 h fun s120 v121 hc h => rg_call (q := cvI (s120, v121)) (T_fPH_round hc) ?_)
        refine rg_step 6 (G' := fun f => if inb (x4 + (cI 1)) (ix (s120.1 1021 0)) = true then evT f 539 1553 [oR 1020 0, oR 0 0, oR 549 0, oR 681 0, oI x4, nn, nn] [vI (s120.1 1020 (ix (x4 + (cI 1)))), vR 549 0, vI v121] s120 else none) (fun _ => rfl) (rg_gd h fun h => ?_)
        refine rg_step 5 (G' := fun f => if inb (x4 + (cI 2)) (ix (s120.1 1021 0)) = true then evT f 539 1559 [oR 1020 0, oR 0 0, oR 549 0, oR 681 0, oI x4, nn, nn] [vI (s120.1 1020 (ix (x4 + (cI 2)))), vI (s120.1 1020 (ix (x4 + (cI 1)))), vR 549 0, vI v121] s120 else none) (fun _ => rfl) (rg_gd h fun h => ?_)
        refine rg_step 5 (G' := fun f => if inb (x4 + (cI 3)) (ix (s120.1 1021 0)) = true then evT f 539 1565 [oR 1020 0, oR 0 0, oR 549 0, oR 681 0, oI x4, nn, nn] [vI (s120.1 1020 (ix (x4 + (cI 3)))), vI (s120.1 1020 (ix (x4 + (cI 2)))), vI (s120.1 1020 (ix (x4 + (cI 1)))), vR 549 0, vI v121] s120 else none) (fun _ => rfl) (rg_gd h fun h => ?_)
        refine rg_step 1 (G' := fun f => ev_after (evT f 434 0 [oR 549 0, oI (s120.1 1020 (ix (x4 + (cI 1)))), oI (s120.1 1020 (ix (x4 + (cI 2)))), oI (s120.1 1020 (ix (x4 + (cI 3))))] [] s120) (fun q => evT f 539 1568 [oR 1020 0, oR 0 0, oR 549 0, oR 681 0, oI x4, nn, nn] (q.2 ++ [vI v121]) q.1)) (fun _ => rfl) (rg_bd2 h fun s122 v123 hc h => rg_call (q := cvI (s122, v123)) (T_fM_round hc) ?_)
        refine rg_step 1 (G' := fun f => if v121 = v123 then evT f 539 3122 [oR 1020 0, oR 0 0, oR 549 0, oR 681 0, oI x4, nn, nn] [] s122 else evT f 539 1571 [oR 1020 0, oR 0 0, oR 549 0, oR 681 0, oI x4, nn, nn] [] s122) (fun _ => rfl) (rg_if h (fun h => ?_) fun h => ?_)
        · exact (t_fLaw_b3122 hk23) h
        · exact rg_end 2 (fun _ => rfl) (by cases h; rfl)
      refine rg_if h (fun h => ?_) fun h => ?_
      · refine rg_step 6 (G' := fun f => if inb (x4 + (cI 1)) (ix (s.1 1021 0)) = true then evT f 539 1580 [oR 1020 0, oR 0 0, oR 549 0, oR 681 0, oI x4, nn, nn] [vI (s.1 1020 (ix (x4 + (cI 1)))), vR 0 0] s else none) (fun _ => rfl) (rg_gd h fun h => ?_)
        refine rg_step 5 (G' := fun f => if inb (x4 + (cI 2)) (ix (s.1 1021 0)) = true then evT f 539 1586 [oR 1020 0, oR 0 0, oR 549 0, oR 681 0, oI x4, nn, nn] [vI (s.1 1020 (ix (x4 + (cI 2)))), vI (s.1 1020 (ix (x4 + (cI 1)))), vR 0 0] s else none) (fun _ => rfl) (rg_gd h fun h => ?_)
        refine rg_step 1 (G' := fun f => ev_after (evT f 258 0 [oR 0 0, oI (s.1 1020 (ix (x4 + (cI 1)))), oI (s.1 1020 (ix (x4 + (cI 2))))] [] s) (fun q => evT f 539 1589 [oR 1020 0, oR 0 0, oR 549 0, oR 681 0, oI x4, nn, nn] (q.2 ++ []) q.1)) (fun _ => rfl) (rg_bd2 h fun s124 v125 hc h => rg_call (q := cvI (s124, v125)) (T_fPH_assign hc) ?_)
        refine rg_step 6 (G' := fun f => if inb (x4 + (cI 1)) (ix (s124.1 1021 0)) = true then evT f 539 1596 [oR 1020 0, oR 0 0, oR 549 0, oR 681 0, oI x4, nn, nn] [vI (s124.1 1020 (ix (x4 + (cI 1)))), vR 549 0, vI v125] s124 else none) (fun _ => rfl) (rg_gd h fun h => ?_)
        refine rg_step 5 (G' := fun f => if inb (x4 + (cI 2)) (ix (s124.1 1021 0)) = true then evT f 539 1602 [oR 1020 0, oR 0 0, oR 549 0, oR 681 0, oI x4, nn, nn] [vI (s124.1 1020 (ix (x4 + (cI 2)))), vI (s124.1 1020 (ix (x4 + (cI 1)))), vR 549 0, vI v125] s124 else none) (fun _ => rfl) (rg_gd h fun h => ?_)
        refine rg_step 1 (G' := fun f => ev_after (evT f 437 0 [oR 549 0, oI (s124.1 1020 (ix (x4 + (cI 1)))), oI (s124.1 1020 (ix (x4 + (cI 2))))] [] s124) (fun q => evT f 539 1605 [oR 1020 0, oR 0 0, oR 549 0, oR 681 0, oI x4, nn, nn] (q.2 ++ [vI v125]) q.1)) (fun _ => rfl) (rg_bd2 h fun s126 v127 hc h => rg_call (q := cvI (s126, v127)) (T_fM_assign hc) ?_)
        refine rg_step 1 (G' := fun f => if v125 = v127 then evT f 539 3122 [oR 1020 0, oR 0 0, oR 549 0, oR 681 0, oI x4, nn, nn] [] s126 else evT f 539 1608 [oR 1020 0, oR 0 0, oR 549 0, oR 681 0, oI x4, nn, nn] [] s126) (fun _ => rfl) (rg_if h (fun h => ?_) fun h => ?_)
        · exact (t_fLaw_b3122 hk23) h
        · exact rg_end 2 (fun _ => rfl) (by cases h; rfl)
      refine rg_if h (fun h => ?_) fun h => ?_
      · refine rg_step 6 (G' := fun f => if inb (x4 + (cI 1)) (ix (s.1 1021 0)) = true then evT f 539 1617 [oR 1020 0, oR 0 0, oR 549 0, oR 681 0, oI x4, nn, nn] [vI (s.1 1020 (ix (x4 + (cI 1)))), vR 0 0] s else none) (fun _ => rfl) (rg_gd h fun h => ?_)
        refine rg_step 1 (G' := fun f => ev_after (evT f 259 0 [oR 0 0, oI (s.1 1020 (ix (x4 + (cI 1))))] [] s) (fun q => evT f 539 1620 [oR 1020 0, oR 0 0, oR 549 0, oR 681 0, oI x4, nn, nn] (q.2 ++ []) q.1)) (fun _ => rfl) (rg_bd2 h fun s128 v129 hc h => rg_call (q := cvI (s128, v129)) (T_fPH_arrange hc) ?_)
        refine rg_step 6 (G' := fun f => if inb (x4 + (cI 1)) (ix (s128.1 1021 0)) = true then evT f 539 1627 [oR 1020 0, oR 0 0, oR 549 0, oR 681 0, oI x4, nn, nn] [vI (s128.1 1020 (ix (x4 + (cI 1)))), vR 549 0, vI v129] s128 else none) (fun _ => rfl) (rg_gd h fun h => ?_)
        refine rg_step 1 (G' := fun f => ev_after (evT f 443 0 [oR 549 0, oI (s128.1 1020 (ix (x4 + (cI 1))))] [] s128) (fun q => evT f 539 1630 [oR 1020 0, oR 0 0, oR 549 0, oR 681 0, oI x4, nn, nn] (q.2 ++ [vI v129]) q.1)) (fun _ => rfl) (rg_bd2 h fun s130 v131 hc h => rg_call (q := cvI (s130, v131)) (T_fM_arrange hc) ?_)
        refine rg_step 1 (G' := fun f => if v129 = v131 then evT f 539 3122 [oR 1020 0, oR 0 0, oR 549 0, oR 681 0, oI x4, nn, nn] [] s130 else evT f 539 1633 [oR 1020 0, oR 0 0, oR 549 0, oR 681 0, oI x4, nn, nn] [] s130) (fun _ => rfl) (rg_if h (fun h => ?_) fun h => ?_)
        · exact (t_fLaw_b3122 hk23) h
        · exact rg_end 2 (fun _ => rfl) (by cases h; rfl)
      refine rg_if h (fun h => ?_) fun h => ?_
      · refine rg_step 6 (G' := fun f => if inb (x4 + (cI 1)) (ix (s.1 1021 0)) = true then evT f 539 1642 [oR 1020 0, oR 0 0, oR 549 0, oR 681 0, oI x4, nn, nn] [vI (s.1 1020 (ix (x4 + (cI 1)))), vR 0 0] s else none) (fun _ => rfl) (rg_gd h fun h => ?_)
        refine rg_step 5 (G' := fun f => if inb (x4 + (cI 2)) (ix (s.1 1021 0)) = true then evT f 539 1648 [oR 1020 0, oR 0 0, oR 549 0, oR 681 0, oI x4, nn, nn] [vI (s.1 1020 (ix (x4 + (cI 2)))), vI (s.1 1020 (ix (x4 + (cI 1)))), vR 0 0] s else none) (fun _ => rfl) (rg_gd h fun h => ?_)
        refine rg_step 1 (G' := fun f => ev_after (evT f 260 0 [oR 0 0, oI (s.1 1020 (ix (x4 + (cI 1)))), oI (s.1 1020 (ix (x4 + (cI 2))))] [] s) (fun q => evT f 539 1651 [oR 1020 0, oR 0 0, oR 549 0, oR 681 0, oI x4, nn, nn] (q.2 ++ []) q.1)) (fun _ => rfl) (rg_bd1 h fun v132 hc h => rg_call (q := cvP s v132) (T_fPH_stop hc) ?_)
        refine rg_step 6 (G' := fun f => if inb (x4 + (cI 1)) (ix (s.1 1021 0)) = true then evT f 539 1658 [oR 1020 0, oR 0 0, oR 549 0, oR 681 0, oI x4, nn, nn] [vI (s.1 1020 (ix (x4 + (cI 1)))), vR 549 0, vI v132] s else none) (fun _ => rfl) (rg_gd h fun h => ?_)
        refine rg_step 5 (G' := fun f => if inb (x4 + (cI 2)) (ix (s.1 1021 0)) = true then evT f 539 1664 [oR 1020 0, oR 0 0, oR 549 0, oR 681 0, oI x4, nn, nn] [vI (s.1 1020 (ix (x4 + (cI 2)))), vI (s.1 1020 (ix (x4 + (cI 1)))), vR 549 0, vI v132] s else none) (fun _ => rfl) (rg_gd h fun h => ?_)
        refine rg_step 1 (G' := fun f => ev_after (evT f 444 0 [oR 549 0, oI (s.1 1020 (ix (x4 + (cI 1)))), oI (s.1 1020 (ix (x4 + (cI 2)))), nn, nn] [] s) (fun q => evT f 539 1667 [oR 1020 0, oR 0 0, oR 549 0, oR 681 0, oI x4, nn, nn] (q.2 ++ [vI v132]) q.1)) (fun _ => rfl) (rg_bd2 h fun s133 v134 hc h => rg_call (q := cvI (s133, v134)) (T_fM_stop hc) ?_)
        refine rg_step 1 (G' := fun f => if v132 = v134 then evT f 539 3122 [oR 1020 0, oR 0 0, oR 549 0, oR 681 0, oI x4, nn, nn] [] s133 else evT f 539 1670 [oR 1020 0, oR 0 0, oR 549 0, oR 681 0, oI x4, nn, nn] [] s133) (fun _ => rfl) (rg_if h (fun h => ?_) fun h => ?_)
        · exact (t_fLaw_b3122 hk23) h
        · exact rg_end 2 (fun _ => rfl) (by cases h; rfl)
      refine rg_if h (fun h => ?_) fun h => ?_
      · refine rg_step 6 (G' := fun f => if inb (x4 + (cI 1)) (ix (s.1 1021 0)) = true then evT f 539 1679 [oR 1020 0, oR 0 0, oR 549 0, oR 681 0, oI x4, nn, nn] [vI (s.1 1020 (ix (x4 + (cI 1)))), vR 0 0] s else none) (fun _ => rfl) (rg_gd h fun h => ?_)
        refine rg_step 1 (G' := fun f => ev_after (evT f 261 0 [oR 0 0, oI (s.1 1020 (ix (x4 + (cI 1))))] [] s) (fun q => evT f 539 1682 [oR 1020 0, oR 0 0, oR 549 0, oR 681 0, oI x4, nn, nn] (q.2 ++ []) q.1)) (fun _ => rfl) (rg_bd2 h fun s135 v136 hc h => rg_call (q := cvI (s135, v136)) (T_fPH_sort hc) ?_)
        refine rg_step 6 (G' := fun f => if inb (x4 + (cI 1)) (ix (s135.1 1021 0)) = true then evT f 539 1689 [oR 1020 0, oR 0 0, oR 549 0, oR 681 0, oI x4, nn, nn] [vI (s135.1 1020 (ix (x4 + (cI 1)))), vR 549 0, vI v136] s135 else none) (fun _ => rfl) (rg_gd h fun h => ?_)
        refine rg_step 1 (G' := fun f => ev_after (evT f 450 0 [oR 549 0, oI (s135.1 1020 (ix (x4 + (cI 1))))] [] s135) (fun q => evT f 539 1692 [oR 1020 0, oR 0 0, oR 549 0, oR 681 0, oI x4, nn, nn] (q.2 ++ [vI v136]) q.1)) (fun _ => rfl) (rg_bd2 h fun s137 v138 hc h => rg_call (q := cvI (s137, v138)) (T_fM_sort hc) ?_)
        refine rg_step 1 (G' := fun f => if v136 = v138 then evT f 539 3122 [oR 1020 0, oR 0 0, oR 549 0, oR 681 0, oI x4, nn, nn] [] s137 else evT f 539 1695 [oR 1020 0, oR 0 0, oR 549 0, oR 681 0, oI x4, nn, nn] [] s137) (fun _ => rfl) (rg_if h (fun h => ?_) fun h => ?_)
        · exact (t_fLaw_b3122 hk23) h
        · exact rg_end 2 (fun _ => rfl) (by cases h; rfl)
      refine rg_if h (fun h => ?_) fun h => ?_
      · refine rg_step 2 (G' := fun f => ev_after (evT f 262 0 [oR 0 0] [] s) (fun q => evT f 539 1701 [oR 1020 0, oR 0 0, oR 549 0, oR 681 0, oI x4, nn, nn] (q.2 ++ []) q.1)) (fun _ => rfl) (rg_bd1 h fun v139 hc h => rg_call (q := cvP s v139) (T_fPH_passes hc) ?_)
        refine rg_step 2 (G' := fun f => ev_after (evT f 451 0 [oR 549 0] [] s) (fun q => evT f 539 1705 [oR 1020 0, oR 0 0, oR 549 0, oR 681 0, oI x4, nn, nn] (q.2 ++ [vI v139]) q.1)) (fun _ => rfl) (rg_bd2 h fun s140 v141 hc h => rg_call (q := cvI (s140, v141)) (T_fM_passes hc) ?_)
        refine rg_step 1 (G' := fun f => if v139 = v141 then evT f 539 3122 [oR 1020 0, oR 0 0, oR 549 0, oR 681 0, oI x4, nn, nn] [] s140 else evT f 539 1708 [oR 1020 0, oR 0 0, oR 549 0, oR 681 0, oI x4, nn, nn] [] s140) (fun _ => rfl) (rg_if h (fun h => ?_) fun h => ?_)
        · exact (t_fLaw_b3122 hk23) h
        · exact rg_end 2 (fun _ => rfl) (by cases h; rfl)
      refine rg_if h (fun h => ?_) fun h => ?_
      · refine rg_step 6 (G' := fun f => if inb (x4 + (cI 1)) (ix (s.1 1021 0)) = true then evT f 539 1717 [oR 1020 0, oR 0 0, oR 549 0, oR 681 0, oI x4, nn, nn] [vI (s.1 1020 (ix (x4 + (cI 1)))), vR 0 0] s else none) (fun _ => rfl) (rg_gd h fun h => ?_)
        refine rg_step 1 (G' := fun f => ev_after (evT f 263 0 [oR 0 0, oI (s.1 1020 (ix (x4 + (cI 1))))] [] s) (fun q => evT f 539 1720 [oR 1020 0, oR 0 0, oR 549 0, oR 681 0, oI x4, nn, nn] (q.2 ++ []) q.1)) (fun _ => rfl) (rg_bd1 h fun v142 hc h => rg_call (q := cvP s v142) (T_fPH_wrong hc) ?_)
        refine rg_step 6 (G' := fun f => if inb (x4 + (cI 1)) (ix (s.1 1021 0)) = true then evT f 539 1727 [oR 1020 0, oR 0 0, oR 549 0, oR 681 0, oI x4, nn, nn] [vI (s.1 1020 (ix (x4 + (cI 1)))), vR 549 0, vI v142] s else none) (fun _ => rfl) (rg_gd h fun h => ?_)
        refine rg_step 1 (G' := fun f => ev_after (evT f 452 0 [oR 549 0, oI (s.1 1020 (ix (x4 + (cI 1)))), nn, nn] [] s) (fun q => evT f 539 1730 [oR 1020 0, oR 0 0, oR 549 0, oR 681 0, oI x4, nn, nn] (q.2 ++ [vI v142]) q.1)) (fun _ => rfl) (rg_bd2 h fun s143 v144 hc h => rg_call (q := cvI (s143, v144)) (T_fM_wrong hc) ?_)
        refine rg_step 1 (G' := fun f => if v142 = v144 then evT f 539 3122 [oR 1020 0, oR 0 0, oR 549 0, oR 681 0, oI x4, nn, nn] [] s143 else evT f 539 1733 [oR 1020 0, oR 0 0, oR 549 0, oR 681 0, oI x4, nn, nn] [] s143) (fun _ => rfl) (rg_if h (fun h => ?_) fun h => ?_)
        · exact (t_fLaw_b3122 hk23) h
        · exact rg_end 2 (fun _ => rfl) (by cases h; rfl)
      refine rg_if h (fun h => ?_) fun h => ?_
      · refine rg_step 6 (G' := fun f => if inb (x4 + (cI 1)) (ix (s.1 1021 0)) = true then evT f 539 1742 [oR 1020 0, oR 0 0, oR 549 0, oR 681 0, oI x4, nn, nn] [vI (s.1 1020 (ix (x4 + (cI 1)))), vR 0 0] s else none) (fun _ => rfl) (rg_gd h fun h => ?_)
        refine rg_step 5 (G' := fun f => if inb (x4 + (cI 2)) (ix (s.1 1021 0)) = true then evT f 539 1748 [oR 1020 0, oR 0 0, oR 549 0, oR 681 0, oI x4, nn, nn] [vI (s.1 1020 (ix (x4 + (cI 2)))), vI (s.1 1020 (ix (x4 + (cI 1)))), vR 0 0] s else none) (fun _ => rfl) (rg_gd h fun h => ?_)
        refine rg_step 1 (G' := fun f => ev_after (evT f 264 0 [oR 0 0, oI (s.1 1020 (ix (x4 + (cI 1)))), oI (s.1 1020 (ix (x4 + (cI 2))))] [] s) (fun q => evT f 539 1751 [oR 1020 0, oR 0 0, oR 549 0, oR 681 0, oI x4, nn, nn] (q.2 ++ []) q.1)) (fun _ => rfl) (rg_bd1 h fun v145 hc h => rg_call (q := cvP s v145) (T_fPH_row hc) ?_)
        refine rg_step 6 (G' := fun f => if inb (x4 + (cI 1)) (ix (s.1 1021 0)) = true then evT f 539 1758 [oR 1020 0, oR 0 0, oR 549 0, oR 681 0, oI x4, nn, nn] [vI (s.1 1020 (ix (x4 + (cI 1)))), vR 549 0, vI v145] s else none) (fun _ => rfl) (rg_gd h fun h => ?_)
        refine rg_step 5 (G' := fun f => if inb (x4 + (cI 2)) (ix (s.1 1021 0)) = true then evT f 539 1764 [oR 1020 0, oR 0 0, oR 549 0, oR 681 0, oI x4, nn, nn] [vI (s.1 1020 (ix (x4 + (cI 2)))), vI (s.1 1020 (ix (x4 + (cI 1)))), vR 549 0, vI v145] s else none) (fun _ => rfl) (rg_gd h fun h => ?_)
        refine rg_step 1 (G' := fun f => ev_after (evT f 454 0 [oR 549 0, oI (s.1 1020 (ix (x4 + (cI 1)))), oI (s.1 1020 (ix (x4 + (cI 2))))] [] s) (fun q => evT f 539 1767 [oR 1020 0, oR 0 0, oR 549 0, oR 681 0, oI x4, nn, nn] (q.2 ++ [vI v145]) q.1)) (fun _ => rfl) (rg_bd2 h fun s146 v147 hc h => rg_call (q := cvI (s146, v147)) (T_fM_row hc) ?_)
        refine rg_step 1 (G' := fun f => if v145 = v147 then evT f 539 3122 [oR 1020 0, oR 0 0, oR 549 0, oR 681 0, oI x4, nn, nn] [] s146 else evT f 539 1770 [oR 1020 0, oR 0 0, oR 549 0, oR 681 0, oI x4, nn, nn] [] s146) (fun _ => rfl) (rg_if h (fun h => ?_) fun h => ?_)
        · exact (t_fLaw_b3122 hk23) h
        · exact rg_end 2 (fun _ => rfl) (by cases h; rfl)
      refine rg_if h (fun h => ?_) fun h => ?_
      · refine rg_step 6 (G' := fun f => if inb (x4 + (cI 1)) (ix (s.1 1021 0)) = true then evT f 539 1779 [oR 1020 0, oR 0 0, oR 549 0, oR 681 0, oI x4, nn, nn] [vI (s.1 1020 (ix (x4 + (cI 1)))), vR 0 0] s else none) (fun _ => rfl) (rg_gd h fun h => ?_)
        refine rg_step 1 (G' := fun f => ev_after (evT f 265 0 [oR 0 0, oI (s.1 1020 (ix (x4 + (cI 1))))] [] s) (fun q => evT f 539 1782 [oR 1020 0, oR 0 0, oR 549 0, oR 681 0, oI x4, nn, nn] (q.2 ++ []) q.1)) (fun _ => rfl) (rg_bd2 h fun s148 v149 hc h => rg_call (q := cvI (s148, v149)) (T_fPH_out hc) ?_)
        refine rg_step 6 (G' := fun f => if inb (x4 + (cI 1)) (ix (s148.1 1021 0)) = true then evT f 539 1789 [oR 1020 0, oR 0 0, oR 549 0, oR 681 0, oI x4, nn, nn] [vI (s148.1 1020 (ix (x4 + (cI 1)))), vR 549 0, vI v149] s148 else none) (fun _ => rfl) (rg_gd h fun h => ?_)
        refine rg_step 1 (G' := fun f => ev_after (evT f 456 0 [oR 549 0, oI (s148.1 1020 (ix (x4 + (cI 1))))] [] s148) (fun q => evT f 539 1792 [oR 1020 0, oR 0 0, oR 549 0, oR 681 0, oI x4, nn, nn] (q.2 ++ [vI v149]) q.1)) (fun _ => rfl) (rg_bd2 h fun s150 v151 hc h => rg_call (q := cvI (s150, v151)) (T_fM_out hc) ?_)
        refine rg_step 1 (G' := fun f => if v149 = v151 then evT f 539 3122 [oR 1020 0, oR 0 0, oR 549 0, oR 681 0, oI x4, nn, nn] [] s150 else evT f 539 1795 [oR 1020 0, oR 0 0, oR 549 0, oR 681 0, oI x4, nn, nn] [] s150) (fun _ => rfl) (rg_if h (fun h => ?_) fun h => ?_)
        · exact (t_fLaw_b3122 hk23) h
        · exact rg_end 2 (fun _ => rfl) (by cases h; rfl)
      refine rg_if h (fun h => ?_) fun h => ?_
      · refine rg_step 6 (G' := fun f => if inb (x4 + (cI 1)) (ix (s.1 1021 0)) = true then evT f 539 1804 [oR 1020 0, oR 0 0, oR 549 0, oR 681 0, oI x4, nn, nn] [vI (s.1 1020 (ix (x4 + (cI 1)))), vR 0 0] s else none) (fun _ => rfl) (rg_gd h fun h => ?_)
        refine rg_step 5 (G' := fun f => if inb (x4 + (cI 2)) (ix (s.1 1021 0)) = true then evT f 539 1810 [oR 1020 0, oR 0 0, oR 549 0, oR 681 0, oI x4, nn, nn] [vI (s.1 1020 (ix (x4 + (cI 2)))), vI (s.1 1020 (ix (x4 + (cI 1)))), vR 0 0] s else none) (fun _ => rfl) (rg_gd h fun h => ?_)
        refine rg_step 5 (G' := fun f => if inb (x4 + (cI 3)) (ix (s.1 1021 0)) = true then evT f 539 1816 [oR 1020 0, oR 0 0, oR 549 0, oR 681 0, oI x4, nn, nn] [vI (s.1 1020 (ix (x4 + (cI 3)))), vI (s.1 1020 (ix (x4 + (cI 2)))), vI (s.1 1020 (ix (x4 + (cI 1)))), vR 0 0] s else none) (fun _ => rfl) (rg_gd h fun h => ?_)
        refine rg_step 5 (G' := fun f => if inb (x4 + (cI 4)) (ix (s.1 1021 0)) = true then evT f 539 1822 [oR 1020 0, oR 0 0, oR 549 0, oR 681 0, oI x4, nn, nn] [vI (s.1 1020 (ix (x4 + (cI 4)))), vI (s.1 1020 (ix (x4 + (cI 3)))), vI (s.1 1020 (ix (x4 + (cI 2)))), vI (s.1 1020 (ix (x4 + (cI 1)))), vR 0 0] s else none) (fun _ => rfl) (rg_gd h fun h => ?_)
        refine rg_step 5 (G' := fun f => if inb (x4 + (cI 5)) (ix (s.1 1021 0)) = true then evT f 539 1828 [oR 1020 0, oR 0 0, oR 549 0, oR 681 0, oI x4, nn, nn] [vI (s.1 1020 (ix (x4 + (cI 5)))), vI (s.1 1020 (ix (x4 + (cI 4)))), vI (s.1 1020 (ix (x4 + (cI 3)))), vI (s.1 1020 (ix (x4 + (cI 2)))), vI (s.1 1020 (ix (x4 + (cI 1)))), vR 0 0] s else none) (fun _ => rfl) (rg_gd h fun h => ?_)
        refine rg_step 1 (G' := fun f => ev_after (evT f 266 0 [oR 0 0, oI (s.1 1020 (ix (x4 + (cI 1)))), oI (s.1 1020 (ix (x4 + (cI 2)))), oI (s.1 1020 (ix (x4 + (cI 3)))), oI (s.1 1020 (ix (x4 + (cI 4)))), oI (s.1 1020 (ix (x4 + (cI 5))))] [] s) (fun q => evT f 539 1831 [oR 1020 0, oR 0 0, oR 549 0, oR 681 0, oI x4, nn, nn] (q.2 ++ []) q.1)) (fun _ => rfl) (rg_bd2 h fun s152 v153 hc h => rg_call (q := cvI (s152, v153)) (T_fPH_leg hc) ?_)
        refine rg_step 6 (G' := fun f => if inb (x4 + (cI 1)) (ix (s152.1 1021 0)) = true then evT f 539 1838 [oR 1020 0, oR 0 0, oR 549 0, oR 681 0, oI x4, nn, nn] [vI (s152.1 1020 (ix (x4 + (cI 1)))), vR 549 0, vI v153] s152 else none) (fun _ => rfl) (rg_gd h fun h => ?_)
        refine rg_step 5 (G' := fun f => if inb (x4 + (cI 2)) (ix (s152.1 1021 0)) = true then evT f 539 1844 [oR 1020 0, oR 0 0, oR 549 0, oR 681 0, oI x4, nn, nn] [vI (s152.1 1020 (ix (x4 + (cI 2)))), vI (s152.1 1020 (ix (x4 + (cI 1)))), vR 549 0, vI v153] s152 else none) (fun _ => rfl) (rg_gd h fun h => ?_)
        refine rg_step 5 (G' := fun f => if inb (x4 + (cI 3)) (ix (s152.1 1021 0)) = true then evT f 539 1850 [oR 1020 0, oR 0 0, oR 549 0, oR 681 0, oI x4, nn, nn] [vI (s152.1 1020 (ix (x4 + (cI 3)))), vI (s152.1 1020 (ix (x4 + (cI 2)))), vI (s152.1 1020 (ix (x4 + (cI 1)))), vR 549 0, vI v153] s152 else none) (fun _ => rfl) (rg_gd h fun h => ?_)
        refine rg_step 5 (G' := fun f => if inb (x4 + (cI 4)) (ix (s152.1 1021 0)) = true then evT f 539 1856 [oR 1020 0, oR 0 0, oR 549 0, oR 681 0, oI x4, nn, nn] [vI (s152.1 1020 (ix (x4 + (cI 4)))), vI (s152.1 1020 (ix (x4 + (cI 3)))), vI (s152.1 1020 (ix (x4 + (cI 2)))), vI (s152.1 1020 (ix (x4 + (cI 1)))), vR 549 0, vI v153] s152 else none) (fun _ => rfl) (rg_gd h fun h => ?_)
        refine rg_step 5 (G' := fun f => if inb (x4 + (cI 5)) (ix (s152.1 1021 0)) = true then evT f 539 1862 [oR 1020 0, oR 0 0, oR 549 0, oR 681 0, oI x4, nn, nn] [vI (s152.1 1020 (ix (x4 + (cI 5)))), vI (s152.1 1020 (ix (x4 + (cI 4)))), vI (s152.1 1020 (ix (x4 + (cI 3)))), vI (s152.1 1020 (ix (x4 + (cI 2)))), vI (s152.1 1020 (ix (x4 + (cI 1)))), vR 549 0, vI v153] s152 else none) (fun _ => rfl) (rg_gd h fun h => ?_)
        refine rg_step 1 (G' := fun f => ev_after (evT f 459 0 [oR 549 0, oI (s152.1 1020 (ix (x4 + (cI 1)))), oI (s152.1 1020 (ix (x4 + (cI 2)))), oI (s152.1 1020 (ix (x4 + (cI 3)))), oI (s152.1 1020 (ix (x4 + (cI 4)))), oI (s152.1 1020 (ix (x4 + (cI 5))))] [] s152) (fun q => evT f 539 1865 [oR 1020 0, oR 0 0, oR 549 0, oR 681 0, oI x4, nn, nn] (q.2 ++ [vI v153]) q.1)) (fun _ => rfl) (rg_bd2 h fun s154 v155 hc h => rg_call (q := cvI (s154, v155)) (T_fM_leg hc) ?_)
        refine rg_step 1 (G' := fun f => if v153 = v155 then evT f 539 3122 [oR 1020 0, oR 0 0, oR 549 0, oR 681 0, oI x4, nn, nn] [] s154 else evT f 539 1868 [oR 1020 0, oR 0 0, oR 549 0, oR 681 0, oI x4, nn, nn] [] s154) (fun _ => rfl) (rg_if h (fun h => ?_) fun h => ?_)
        · exact (t_fLaw_b3122 hk23) h
        · exact rg_end 2 (fun _ => rfl) (by cases h; rfl)
      refine rg_if h (fun h => ?_) fun h => ?_
      · refine rg_step 6 (G' := fun f => if inb (x4 + (cI 1)) (ix (s.1 1021 0)) = true then evT f 539 1877 [oR 1020 0, oR 0 0, oR 549 0, oR 681 0, oI x4, nn, nn] [vI (s.1 1020 (ix (x4 + (cI 1)))), vR 0 0] s else none) (fun _ => rfl) (rg_gd h fun h => ?_)
        refine rg_step 5 (G' := fun f => if inb (x4 + (cI 2)) (ix (s.1 1021 0)) = true then evT f 539 1883 [oR 1020 0, oR 0 0, oR 549 0, oR 681 0, oI x4, nn, nn] [vI (s.1 1020 (ix (x4 + (cI 2)))), vI (s.1 1020 (ix (x4 + (cI 1)))), vR 0 0] s else none) (fun _ => rfl) (rg_gd h fun h => ?_)
        refine rg_step 1 (G' := fun f => ev_after (evT f 267 0 [oR 0 0, oI (s.1 1020 (ix (x4 + (cI 1)))), oI (s.1 1020 (ix (x4 + (cI 2))))] [] s) (fun q => evT f 539 1886 [oR 1020 0, oR 0 0, oR 549 0, oR 681 0, oI x4, nn, nn] (q.2 ++ []) q.1)) (fun _ => rfl) (rg_bd2 h fun s156 v157 hc h => rg_call (q := cvI (s156, v157)) (T_fPH_late hc) ?_)
        refine rg_step 6 (G' := fun f => if inb (x4 + (cI 1)) (ix (s156.1 1021 0)) = true then evT f 539 1893 [oR 1020 0, oR 0 0, oR 549 0, oR 681 0, oI x4, nn, nn] [vI (s156.1 1020 (ix (x4 + (cI 1)))), vR 549 0, vI v157] s156 else none) (fun _ => rfl) (rg_gd h fun h => ?_)
        refine rg_step 5 (G' := fun f => if inb (x4 + (cI 2)) (ix (s156.1 1021 0)) = true then evT f 539 1899 [oR 1020 0, oR 0 0, oR 549 0, oR 681 0, oI x4, nn, nn] [vI (s156.1 1020 (ix (x4 + (cI 2)))), vI (s156.1 1020 (ix (x4 + (cI 1)))), vR 549 0, vI v157] s156 else none) (fun _ => rfl) (rg_gd h fun h => ?_)
        refine rg_step 1 (G' := fun f => ev_after (evT f 461 0 [oR 549 0, oI (s156.1 1020 (ix (x4 + (cI 1)))), oI (s156.1 1020 (ix (x4 + (cI 2))))] [] s156) (fun q => evT f 539 1902 [oR 1020 0, oR 0 0, oR 549 0, oR 681 0, oI x4, nn, nn] (q.2 ++ [vI v157]) q.1)) (fun _ => rfl) (rg_bd2 h fun s158 v159 hc h => rg_call (q := cvI (s158, v159)) (T_fM_late hc) ?_)
        refine rg_step 1 (G' := fun f => if v157 = v159 then evT f 539 3122 [oR 1020 0, oR 0 0, oR 549 0, oR 681 0, oI x4, nn, nn] [] s158 else evT f 539 1905 [oR 1020 0, oR 0 0, oR 549 0, oR 681 0, oI x4, nn, nn] [] s158) (fun _ => rfl) (rg_if h (fun h => ?_) fun h => ?_)
        · exact (t_fLaw_b3122 hk23) h
        · exact rg_end 2 (fun _ => rfl) (by cases h; rfl)
      refine rg_if h (fun h => ?_) fun h => ?_
      · refine rg_step 6 (G' := fun f => if inb (x4 + (cI 1)) (ix (s.1 1021 0)) = true then evT f 539 1914 [oR 1020 0, oR 0 0, oR 549 0, oR 681 0, oI x4, nn, nn] [vI (s.1 1020 (ix (x4 + (cI 1)))), vR 0 0] s else none) (fun _ => rfl) (rg_gd h fun h => ?_)
        refine rg_step 5 (G' := fun f => if inb (x4 + (cI 2)) (ix (s.1 1021 0)) = true then evT f 539 1920 [oR 1020 0, oR 0 0, oR 549 0, oR 681 0, oI x4, nn, nn] [vI (s.1 1020 (ix (x4 + (cI 2)))), vI (s.1 1020 (ix (x4 + (cI 1)))), vR 0 0] s else none) (fun _ => rfl) (rg_gd h fun h => ?_)
        refine rg_step 1 (G' := fun f => ev_after (evT f 268 0 [oR 0 0, oI (s.1 1020 (ix (x4 + (cI 1)))), oI (s.1 1020 (ix (x4 + (cI 2))))] [] s) (fun q => evT f 539 1923 [oR 1020 0, oR 0 0, oR 549 0, oR 681 0, oI x4, nn, nn] (q.2 ++ []) q.1)) (fun _ => rfl) (rg_bd2 h fun s160 v161 hc h => rg_call (q := cvI (s160, v161)) (T_fPH_bag hc) ?_)
        refine rg_step 6 (G' := fun f => if inb (x4 + (cI 1)) (ix (s160.1 1021 0)) = true then evT f 539 1930 [oR 1020 0, oR 0 0, oR 549 0, oR 681 0, oI x4, nn, nn] [vI (s160.1 1020 (ix (x4 + (cI 1)))), vR 549 0, vI v161] s160 else none) (fun _ => rfl) (rg_gd h fun h => ?_)
        refine rg_step 5 (G' := fun f => if inb (x4 + (cI 2)) (ix (s160.1 1021 0)) = true then evT f 539 1936 [oR 1020 0, oR 0 0, oR 549 0, oR 681 0, oI x4, nn, nn] [vI (s160.1 1020 (ix (x4 + (cI 2)))), vI (s160.1 1020 (ix (x4 + (cI 1)))), vR 549 0, vI v161] s160 else none) (fun _ => rfl) (rg_gd h fun h => ?_)
        refine rg_step 1 (G' := fun f => ev_after (evT f 463 0 [oR 549 0, oI (s160.1 1020 (ix (x4 + (cI 1)))), oI (s160.1 1020 (ix (x4 + (cI 2))))] [] s160) (fun q => evT f 539 1939 [oR 1020 0, oR 0 0, oR 549 0, oR 681 0, oI x4, nn, nn] (q.2 ++ [vI v161]) q.1)) (fun _ => rfl) (rg_bd2 h fun s162 v163 hc h => rg_call (q := cvI (s162, v163)) (T_fM_bag hc) ?_)
        refine rg_step 1 (G' := fun f => if v161 = v163 then evT f 539 3122 [oR 1020 0, oR 0 0, oR 549 0, oR 681 0, oI x4, nn, nn] [] s162 else evT f 539 1942 [oR 1020 0, oR 0 0, oR 549 0, oR 681 0, oI x4, nn, nn] [] s162) (fun _ => rfl) (rg_if h (fun h => ?_) fun h => ?_)
        · exact (t_fLaw_b3122 hk23) h
        · exact rg_end 2 (fun _ => rfl) (by cases h; rfl)
      refine rg_if h (fun h => ?_) fun h => ?_
      · refine rg_step 6 (G' := fun f => if inb (x4 + (cI 1)) (ix (s.1 1021 0)) = true then evT f 539 1951 [oR 1020 0, oR 0 0, oR 549 0, oR 681 0, oI x4, nn, nn] [vI (s.1 1020 (ix (x4 + (cI 1)))), vR 0 0] s else none) (fun _ => rfl) (rg_gd h fun h => ?_)
        refine rg_step 5 (G' := fun f => if inb (x4 + (cI 2)) (ix (s.1 1021 0)) = true then evT f 539 1957 [oR 1020 0, oR 0 0, oR 549 0, oR 681 0, oI x4, nn, nn] [vI (s.1 1020 (ix (x4 + (cI 2)))), vI (s.1 1020 (ix (x4 + (cI 1)))), vR 0 0] s else none) (fun _ => rfl) (rg_gd h fun h => ?_)
        refine rg_step 1 (G' := fun f => ev_after (evT f 269 0 [oR 0 0, oI (s.1 1020 (ix (x4 + (cI 1)))), oI (s.1 1020 (ix (x4 + (cI 2))))] [] s) (fun q => evT f 539 1960 [oR 1020 0, oR 0 0, oR 549 0, oR 681 0, oI x4, nn, nn] (q.2 ++ []) q.1)) (fun _ => rfl) (rg_bd2 h fun s164 v165 hc h => rg_call (q := cvI (s164, v165)) (T_fPH_into hc) ?_)
        refine rg_step 6 (G' := fun f => if inb (x4 + (cI 1)) (ix (s164.1 1021 0)) = true then evT f 539 1967 [oR 1020 0, oR 0 0, oR 549 0, oR 681 0, oI x4, nn, nn] [vI (s164.1 1020 (ix (x4 + (cI 1)))), vR 549 0, vI v165] s164 else none) (fun _ => rfl) (rg_gd h fun h => ?_)
        refine rg_step 5 (G' := fun f => if inb (x4 + (cI 2)) (ix (s164.1 1021 0)) = true then evT f 539 1973 [oR 1020 0, oR 0 0, oR 549 0, oR 681 0, oI x4, nn, nn] [vI (s164.1 1020 (ix (x4 + (cI 2)))), vI (s164.1 1020 (ix (x4 + (cI 1)))), vR 549 0, vI v165] s164 else none) (fun _ => rfl) (rg_gd h fun h => ?_)
        refine rg_step 1 (G' := fun f => ev_after (evT f 466 0 [oR 549 0, oI (s164.1 1020 (ix (x4 + (cI 1)))), oI (s164.1 1020 (ix (x4 + (cI 2))))] [] s164) (fun q => evT f 539 1976 [oR 1020 0, oR 0 0, oR 549 0, oR 681 0, oI x4, nn, nn] (q.2 ++ [vI v165]) q.1)) (fun _ => rfl) (rg_bd2 h fun s166 v167 hc h => rg_call (q := cvI (s166, v167)) (T_fM_into hc) ?_)
        refine rg_step 1 (G' := fun f => if v165 = v167 then evT f 539 3122 [oR 1020 0, oR 0 0, oR 549 0, oR 681 0, oI x4, nn, nn] [] s166 else evT f 539 1979 [oR 1020 0, oR 0 0, oR 549 0, oR 681 0, oI x4, nn, nn] [] s166) (fun _ => rfl) (rg_if h (fun h => ?_) fun h => ?_)
        · exact (t_fLaw_b3122 hk23) h
        · exact rg_end 2 (fun _ => rfl) (by cases h; rfl)
      refine rg_if h (fun h => ?_) fun h => ?_
      · refine rg_step 6 (G' := fun f => if inb (x4 + (cI 1)) (ix (s.1 1021 0)) = true then evT f 539 1988 [oR 1020 0, oR 0 0, oR 549 0, oR 681 0, oI x4, nn, nn] [vI (s.1 1020 (ix (x4 + (cI 1)))), vR 0 0] s else none) (fun _ => rfl) (rg_gd h fun h => ?_)
        refine rg_step 1 (G' := fun f => ev_after (evT f 270 0 [oR 0 0, oI (s.1 1020 (ix (x4 + (cI 1))))] [] s) (fun q => evT f 539 1991 [oR 1020 0, oR 0 0, oR 549 0, oR 681 0, oI x4, nn, nn] (q.2 ++ []) q.1)) (fun _ => rfl) (rg_bd2 h fun s168 v169 hc h => rg_call (q := cvI (s168, v169)) (T_fPH_closeBag hc) ?_)
        refine rg_step 6 (G' := fun f => if inb (x4 + (cI 1)) (ix (s168.1 1021 0)) = true then evT f 539 1998 [oR 1020 0, oR 0 0, oR 549 0, oR 681 0, oI x4, nn, nn] [vI (s168.1 1020 (ix (x4 + (cI 1)))), vR 549 0, vI v169] s168 else none) (fun _ => rfl) (rg_gd h fun h => ?_)
        refine rg_step 1 (G' := fun f => ev_after (evT f 468 0 [oR 549 0, oI (s168.1 1020 (ix (x4 + (cI 1))))] [] s168) (fun q => evT f 539 2001 [oR 1020 0, oR 0 0, oR 549 0, oR 681 0, oI x4, nn, nn] (q.2 ++ [vI v169]) q.1)) (fun _ => rfl) (rg_bd2 h fun s170 v171 hc h => rg_call (q := cvI (s170, v171)) (T_fM_closeBag hc) ?_)
        refine rg_step 1 (G' := fun f => if v169 = v171 then evT f 539 3122 [oR 1020 0, oR 0 0, oR 549 0, oR 681 0, oI x4, nn, nn] [] s170 else evT f 539 2004 [oR 1020 0, oR 0 0, oR 549 0, oR 681 0, oI x4, nn, nn] [] s170) (fun _ => rfl) (rg_if h (fun h => ?_) fun h => ?_)
        · exact (t_fLaw_b3122 hk23) h
        · exact rg_end 2 (fun _ => rfl) (by cases h; rfl)
      refine rg_if h (fun h => ?_) fun h => ?_
      · refine rg_step 6 (G' := fun f => if inb (x4 + (cI 1)) (ix (s.1 1021 0)) = true then evT f 539 2013 [oR 1020 0, oR 0 0, oR 549 0, oR 681 0, oI x4, nn, nn] [vI (s.1 1020 (ix (x4 + (cI 1)))), vR 0 0] s else none) (fun _ => rfl) (rg_gd h fun h => ?_)
        refine rg_step 1 (G' := fun f => ev_after (evT f 271 0 [oR 0 0, oI (s.1 1020 (ix (x4 + (cI 1))))] [] s) (fun q => evT f 539 2016 [oR 1020 0, oR 0 0, oR 549 0, oR 681 0, oI x4, nn, nn] (q.2 ++ []) q.1)) (fun _ => rfl) (rg_bd2 h fun s172 v173 hc h => rg_call (q := cvI (s172, v173)) (T_fPH_openBag hc) ?_)
        refine rg_step 6 (G' := fun f => if inb (x4 + (cI 1)) (ix (s172.1 1021 0)) = true then evT f 539 2023 [oR 1020 0, oR 0 0, oR 549 0, oR 681 0, oI x4, nn, nn] [vI (s172.1 1020 (ix (x4 + (cI 1)))), vR 549 0, vI v173] s172 else none) (fun _ => rfl) (rg_gd h fun h => ?_)
        refine rg_step 1 (G' := fun f => ev_after (evT f 470 0 [oR 549 0, oI (s172.1 1020 (ix (x4 + (cI 1))))] [] s172) (fun q => evT f 539 2026 [oR 1020 0, oR 0 0, oR 549 0, oR 681 0, oI x4, nn, nn] (q.2 ++ [vI v173]) q.1)) (fun _ => rfl) (rg_bd2 h fun s174 v175 hc h => rg_call (q := cvI (s174, v175)) (T_fM_openBag hc) ?_)
        refine rg_step 1 (G' := fun f => if v173 = v175 then evT f 539 3122 [oR 1020 0, oR 0 0, oR 549 0, oR 681 0, oI x4, nn, nn] [] s174 else evT f 539 2029 [oR 1020 0, oR 0 0, oR 549 0, oR 681 0, oI x4, nn, nn] [] s174) (fun _ => rfl) (rg_if h (fun h => ?_) fun h => ?_)
        · exact (t_fLaw_b3122 hk23) h
        · exact rg_end 2 (fun _ => rfl) (by cases h; rfl)
      refine rg_if h (fun h => ?_) fun h => ?_
      · refine rg_step 6 (G' := fun f => if inb (x4 + (cI 1)) (ix (s.1 1021 0)) = true then evT f 539 2038 [oR 1020 0, oR 0 0, oR 549 0, oR 681 0, oI x4, nn, nn] [vI (s.1 1020 (ix (x4 + (cI 1)))), vR 0 0] s else none) (fun _ => rfl) (rg_gd h fun h => ?_)
        refine rg_step 5 (G' := fun f => if inb (x4 + (cI 2)) (ix (s.1 1021 0)) = true then evT f 539 2044 [oR 1020 0, oR 0 0, oR 549 0, oR 681 0, oI x4, nn, nn] [vI (s.1 1020 (ix (x4 + (cI 2)))), vI (s.1 1020 (ix (x4 + (cI 1)))), vR 0 0] s else none) (fun _ => rfl) (rg_gd h fun h => ?_)
        refine rg_step 1 (G' := fun f => ev_after (evT f 272 0 [oR 0 0, oI (s.1 1020 (ix (x4 + (cI 1)))), oI (s.1 1020 (ix (x4 + (cI 2))))] [] s) (fun q => evT f 539 2047 [oR 1020 0, oR 0 0, oR 549 0, oR 681 0, oI x4, nn, nn] (q.2 ++ []) q.1)) (fun _ => rfl) (rg_bd1 h fun v176 hc h => rg_call (q := cvP s v176) (T_fPH_bagAt hc) ?_)
        refine rg_step 6 (G' := fun f => if inb (x4 + (cI 1)) (ix (s.1 1021 0)) = true then evT f 539 2054 [oR 1020 0, oR 0 0, oR 549 0, oR 681 0, oI x4, nn, nn] [vI (s.1 1020 (ix (x4 + (cI 1)))), vR 549 0, vI v176] s else none) (fun _ => rfl) (rg_gd h fun h => ?_)
        refine rg_step 5 (G' := fun f => if inb (x4 + (cI 2)) (ix (s.1 1021 0)) = true then evT f 539 2060 [oR 1020 0, oR 0 0, oR 549 0, oR 681 0, oI x4, nn, nn] [vI (s.1 1020 (ix (x4 + (cI 2)))), vI (s.1 1020 (ix (x4 + (cI 1)))), vR 549 0, vI v176] s else none) (fun _ => rfl) (rg_gd h fun h => ?_)
        refine rg_step 1 (G' := fun f => ev_after (evT f 471 0 [oR 549 0, oI (s.1 1020 (ix (x4 + (cI 1)))), oI (s.1 1020 (ix (x4 + (cI 2))))] [] s) (fun q => evT f 539 2063 [oR 1020 0, oR 0 0, oR 549 0, oR 681 0, oI x4, nn, nn] (q.2 ++ [vI v176]) q.1)) (fun _ => rfl) (rg_bd2 h fun s177 v178 hc h => rg_call (q := cvI (s177, v178)) (T_fM_bagAt hc) ?_)
        refine rg_step 1 (G' := fun f => if v176 = v178 then evT f 539 3122 [oR 1020 0, oR 0 0, oR 549 0, oR 681 0, oI x4, nn, nn] [] s177 else evT f 539 2066 [oR 1020 0, oR 0 0, oR 549 0, oR 681 0, oI x4, nn, nn] [] s177) (fun _ => rfl) (rg_if h (fun h => ?_) fun h => ?_)
        · exact (t_fLaw_b3122 hk23) h
        · exact rg_end 2 (fun _ => rfl) (by cases h; rfl)
      refine rg_if h (fun h => ?_) fun h => ?_
      · refine rg_step 6 (G' := fun f => if inb (x4 + (cI 1)) (ix (s.1 1021 0)) = true then evT f 539 2075 [oR 1020 0, oR 0 0, oR 549 0, oR 681 0, oI x4, nn, nn] [vI (s.1 1020 (ix (x4 + (cI 1)))), vR 0 0] s else none) (fun _ => rfl) (rg_gd h fun h => ?_)
        refine rg_step 5 (G' := fun f => if inb (x4 + (cI 2)) (ix (s.1 1021 0)) = true then evT f 539 2081 [oR 1020 0, oR 0 0, oR 549 0, oR 681 0, oI x4, nn, nn] [vI (s.1 1020 (ix (x4 + (cI 2)))), vI (s.1 1020 (ix (x4 + (cI 1)))), vR 0 0] s else none) (fun _ => rfl) (rg_gd h fun h => ?_)
        refine rg_step 5 (G' := fun f => if inb (x4 + (cI 3)) (ix (s.1 1021 0)) = true then evT f 539 2087 [oR 1020 0, oR 0 0, oR 549 0, oR 681 0, oI x4, nn, nn] [vI (s.1 1020 (ix (x4 + (cI 3)))), vI (s.1 1020 (ix (x4 + (cI 2)))), vI (s.1 1020 (ix (x4 + (cI 1)))), vR 0 0] s else none) (fun _ => rfl) (rg_gd h fun h => ?_)
        refine rg_step 1 (G' := fun f => ev_after (evT f 273 0 [oR 0 0, oI (s.1 1020 (ix (x4 + (cI 1)))), oI (s.1 1020 (ix (x4 + (cI 2)))), oI (s.1 1020 (ix (x4 + (cI 3))))] [] s) (fun q => evT f 539 2090 [oR 1020 0, oR 0 0, oR 549 0, oR 681 0, oI x4, nn, nn] (q.2 ++ []) q.1)) (fun _ => rfl) (rg_bd2 h fun s179 v180 hc h => rg_call (q := cvI (s179, v180)) (T_fPH_way hc) ?_)
        refine rg_step 6 (G' := fun f => if inb (x4 + (cI 1)) (ix (s179.1 1021 0)) = true then evT f 539 2097 [oR 1020 0, oR 0 0, oR 549 0, oR 681 0, oI x4, nn, nn] [vI (s179.1 1020 (ix (x4 + (cI 1)))), vR 549 0, vI v180] s179 else none) (fun _ => rfl) (rg_gd h fun h => ?_)
        refine rg_step 5 (G' := fun f => if inb (x4 + (cI 2)) (ix (s179.1 1021 0)) = true then evT f 539 2103 [oR 1020 0, oR 0 0, oR 549 0, oR 681 0, oI x4, nn, nn] [vI (s179.1 1020 (ix (x4 + (cI 2)))), vI (s179.1 1020 (ix (x4 + (cI 1)))), vR 549 0, vI v180] s179 else none) (fun _ => rfl) (rg_gd h fun h => ?_)
        refine rg_step 5 (G' := fun f => if inb (x4 + (cI 3)) (ix (s179.1 1021 0)) = true then evT f 539 2109 [oR 1020 0, oR 0 0, oR 549 0, oR 681 0, oI x4, nn, nn] [vI (s179.1 1020 (ix (x4 + (cI 3)))), vI (s179.1 1020 (ix (x4 + (cI 2)))), vI (s179.1 1020 (ix (x4 + (cI 1)))), vR 549 0, vI v180] s179 else none) (fun _ => rfl) (rg_gd h fun h => ?_)
        refine rg_step 1 (G' := fun f => ev_after (evT f 473 0 [oR 549 0, oI (s179.1 1020 (ix (x4 + (cI 1)))), oI (s179.1 1020 (ix (x4 + (cI 2)))), oI (s179.1 1020 (ix (x4 + (cI 3))))] [] s179) (fun q => evT f 539 2112 [oR 1020 0, oR 0 0, oR 549 0, oR 681 0, oI x4, nn, nn] (q.2 ++ [vI v180]) q.1)) (fun _ => rfl) (rg_bd2 h fun s181 v182 hc h => rg_call (q := cvI (s181, v182)) (T_fM_way hc) ?_)
        refine rg_step 1 (G' := fun f => if v180 = v182 then evT f 539 3122 [oR 1020 0, oR 0 0, oR 549 0, oR 681 0, oI x4, nn, nn] [] s181 else evT f 539 2115 [oR 1020 0, oR 0 0, oR 549 0, oR 681 0, oI x4, nn, nn] [] s181) (fun _ => rfl) (rg_if h (fun h => ?_) fun h => ?_)
        · exact (t_fLaw_b3122 hk23) h
        · exact rg_end 2 (fun _ => rfl) (by cases h; rfl)
      refine rg_if h (fun h => ?_) fun h => ?_
      · refine rg_step 6 (G' := fun f => if inb (x4 + (cI 1)) (ix (s.1 1021 0)) = true then evT f 539 2124 [oR 1020 0, oR 0 0, oR 549 0, oR 681 0, oI x4, nn, nn] [vI (s.1 1020 (ix (x4 + (cI 1)))), vR 0 0] s else none) (fun _ => rfl) (rg_gd h fun h => ?_)
        refine rg_step 5 (G' := fun f => if inb (x4 + (cI 2)) (ix (s.1 1021 0)) = true then evT f 539 2130 [oR 1020 0, oR 0 0, oR 549 0, oR 681 0, oI x4, nn, nn] [vI (s.1 1020 (ix (x4 + (cI 2)))), vI (s.1 1020 (ix (x4 + (cI 1)))), vR 0 0] s else none) (fun _ => rfl) (rg_gd h fun h => ?_)
        refine rg_step 5 (G' := fun f => if inb (x4 + (cI 3)) (ix (s.1 1021 0)) = true then evT f 539 2136 [oR 1020 0, oR 0 0, oR 549 0, oR 681 0, oI x4, nn, nn] [vI (s.1 1020 (ix (x4 + (cI 3)))), vI (s.1 1020 (ix (x4 + (cI 2)))), vI (s.1 1020 (ix (x4 + (cI 1)))), vR 0 0] s else none) (fun _ => rfl) (rg_gd h fun h => ?_)
        refine rg_step 5 (G' := fun f => if inb (x4 + (cI 4)) (ix (s.1 1021 0)) = true then evT f 539 2142 [oR 1020 0, oR 0 0, oR 549 0, oR 681 0, oI x4, nn, nn] [vI (s.1 1020 (ix (x4 + (cI 4)))), vI (s.1 1020 (ix (x4 + (cI 3)))), vI (s.1 1020 (ix (x4 + (cI 2)))), vI (s.1 1020 (ix (x4 + (cI 1)))), vR 0 0] s else none) (fun _ => rfl) (rg_gd h fun h => ?_)
        refine rg_step 1 (G' := fun f => ev_after (evT f 274 0 [oR 0 0, oI (s.1 1020 (ix (x4 + (cI 1)))), oI (s.1 1020 (ix (x4 + (cI 2)))), oI (s.1 1020 (ix (x4 + (cI 3)))), oI (s.1 1020 (ix (x4 + (cI 4))))] [] s) (fun q => evT f 539 2145 [oR 1020 0, oR 0 0, oR 549 0, oR 681 0, oI x4, nn, nn] (q.2 ++ []) q.1)) (fun _ => rfl) (rg_bd2 h fun s183 v184 hc h => rg_call (q := cvI (s183, v184)) (T_fPH_hand hc) ?_)
        refine rg_step 6 (G' := fun f => if inb (x4 + (cI 1)) (ix (s183.1 1021 0)) = true then evT f 539 2152 [oR 1020 0, oR 0 0, oR 549 0, oR 681 0, oI x4, nn, nn] [vI (s183.1 1020 (ix (x4 + (cI 1)))), vR 549 0, vI v184] s183 else none) (fun _ => rfl) (rg_gd h fun h => ?_)
        refine rg_step 5 (G' := fun f => if inb (x4 + (cI 2)) (ix (s183.1 1021 0)) = true then evT f 539 2158 [oR 1020 0, oR 0 0, oR 549 0, oR 681 0, oI x4, nn, nn] [vI (s183.1 1020 (ix (x4 + (cI 2)))), vI (s183.1 1020 (ix (x4 + (cI 1)))), vR 549 0, vI v184] s183 else none) (fun _ => rfl) (rg_gd h fun h => ?_)
        refine rg_step 5 (G' := fun f => if inb (x4 + (cI 3)) (ix (s183.1 1021 0)) = true then evT f 539 2164 [oR 1020 0, oR 0 0, oR 549 0, oR 681 0, oI x4, nn, nn] [vI (s183.1 1020 (ix (x4 + (cI 3)))), vI (s183.1 1020 (ix (x4 + (cI 2)))), vI (s183.1 1020 (ix (x4 + (cI 1)))), vR 549 0, vI v184] s183 else none) (fun _ => rfl) (rg_gd h fun h => ?_)
        refine rg_step 5 (G' := fun f => if inb (x4 + (cI 4)) (ix (s183.1 1021 0)) = true then evT f 539 2170 [oR 1020 0, oR 0 0, oR 549 0, oR 681 0, oI x4, nn, nn] [vI (s183.1 1020 (ix (x4 + (cI 4)))), vI (s183.1 1020 (ix (x4 + (cI 3)))), vI (s183.1 1020 (ix (x4 + (cI 2)))), vI (s183.1 1020 (ix (x4 + (cI 1)))), vR 549 0, vI v184] s183 else none) (fun _ => rfl) (rg_gd h fun h => ?_)
        refine rg_step 1 (G' := fun f => ev_after (evT f 479 0 [oR 549 0, oI (s183.1 1020 (ix (x4 + (cI 1)))), oI (s183.1 1020 (ix (x4 + (cI 2)))), oI (s183.1 1020 (ix (x4 + (cI 3)))), oI (s183.1 1020 (ix (x4 + (cI 4))))] [] s183) (fun q => evT f 539 2173 [oR 1020 0, oR 0 0, oR 549 0, oR 681 0, oI x4, nn, nn] (q.2 ++ [vI v184]) q.1)) (fun _ => rfl) (rg_bd2 h fun s185 v186 hc h => rg_call (q := cvI (s185, v186)) (T_fM_hand hc) ?_)
        refine rg_step 1 (G' := fun f => if v184 = v186 then evT f 539 3122 [oR 1020 0, oR 0 0, oR 549 0, oR 681 0, oI x4, nn, nn] [] s185 else evT f 539 2176 [oR 1020 0, oR 0 0, oR 549 0, oR 681 0, oI x4, nn, nn] [] s185) (fun _ => rfl) (rg_if h (fun h => ?_) fun h => ?_)
        · exact (t_fLaw_b3122 hk23) h
        · exact rg_end 2 (fun _ => rfl) (by cases h; rfl)
      refine rg_if h (fun h => ?_) fun h => ?_
      · refine rg_step 6 (G' := fun f => if inb (x4 + (cI 1)) (ix (s.1 1021 0)) = true then evT f 539 2185 [oR 1020 0, oR 0 0, oR 549 0, oR 681 0, oI x4, nn, nn] [vI (s.1 1020 (ix (x4 + (cI 1)))), vR 0 0] s else none) (fun _ => rfl) (rg_gd h fun h => ?_)
        refine rg_step 1 (G' := fun f => ev_after (evT f 275 0 [oR 0 0, oI (s.1 1020 (ix (x4 + (cI 1))))] [] s) (fun q => evT f 539 2188 [oR 1020 0, oR 0 0, oR 549 0, oR 681 0, oI x4, nn, nn] (q.2 ++ []) q.1)) (fun _ => rfl) (rg_bd2 h fun s187 v188 hc h => rg_call (q := cvI (s187, v188)) (T_fPH_miss hc) ?_)
        refine rg_step 6 (G' := fun f => if inb (x4 + (cI 1)) (ix (s187.1 1021 0)) = true then evT f 539 2195 [oR 1020 0, oR 0 0, oR 549 0, oR 681 0, oI x4, nn, nn] [vI (s187.1 1020 (ix (x4 + (cI 1)))), vR 549 0, vI v188] s187 else none) (fun _ => rfl) (rg_gd h fun h => ?_)
        refine rg_step 1 (G' := fun f => ev_after (evT f 481 0 [oR 549 0, oI (s187.1 1020 (ix (x4 + (cI 1))))] [] s187) (fun q => evT f 539 2198 [oR 1020 0, oR 0 0, oR 549 0, oR 681 0, oI x4, nn, nn] (q.2 ++ [vI v188]) q.1)) (fun _ => rfl) (rg_bd2 h fun s189 v190 hc h => rg_call (q := cvI (s189, v190)) (T_fM_miss hc) ?_)
        refine rg_step 1 (G' := fun f => if v188 = v190 then evT f 539 3122 [oR 1020 0, oR 0 0, oR 549 0, oR 681 0, oI x4, nn, nn] [] s189 else evT f 539 2201 [oR 1020 0, oR 0 0, oR 549 0, oR 681 0, oI x4, nn, nn] [] s189) (fun _ => rfl) (rg_if h (fun h => ?_) fun h => ?_)
        · exact (t_fLaw_b3122 hk23) h
        · exact rg_end 2 (fun _ => rfl) (by cases h; rfl)
      refine rg_if h (fun h => ?_) fun h => ?_
      · refine rg_step 6 (G' := fun f => if inb (x4 + (cI 1)) (ix (s.1 1021 0)) = true then evT f 539 2210 [oR 1020 0, oR 0 0, oR 549 0, oR 681 0, oI x4, nn, nn] [vI (s.1 1020 (ix (x4 + (cI 1)))), vR 0 0] s else none) (fun _ => rfl) (rg_gd h fun h => ?_)
        refine rg_step 1 (G' := fun f => ev_after (evT f 276 0 [oR 0 0, oI (s.1 1020 (ix (x4 + (cI 1))))] [] s) (fun q => evT f 539 2213 [oR 1020 0, oR 0 0, oR 549 0, oR 681 0, oI x4, nn, nn] (q.2 ++ []) q.1)) (fun _ => rfl) (rg_bd2 h fun s191 v192 hc h => rg_call (q := cvI (s191, v192)) (T_fPH_refuse hc) ?_)
        refine rg_step 6 (G' := fun f => if inb (x4 + (cI 1)) (ix (s191.1 1021 0)) = true then evT f 539 2220 [oR 1020 0, oR 0 0, oR 549 0, oR 681 0, oI x4, nn, nn] [vI (s191.1 1020 (ix (x4 + (cI 1)))), vR 549 0, vI v192] s191 else none) (fun _ => rfl) (rg_gd h fun h => ?_)
        refine rg_step 1 (G' := fun f => ev_after (evT f 483 0 [oR 549 0, oI (s191.1 1020 (ix (x4 + (cI 1))))] [] s191) (fun q => evT f 539 2223 [oR 1020 0, oR 0 0, oR 549 0, oR 681 0, oI x4, nn, nn] (q.2 ++ [vI v192]) q.1)) (fun _ => rfl) (rg_bd2 h fun s193 v194 hc h => rg_call (q := cvI (s193, v194)) (T_fM_refuse hc) ?_)
        refine rg_step 1 (G' := fun f => if v192 = v194 then evT f 539 3122 [oR 1020 0, oR 0 0, oR 549 0, oR 681 0, oI x4, nn, nn] [] s193 else evT f 539 2226 [oR 1020 0, oR 0 0, oR 549 0, oR 681 0, oI x4, nn, nn] [] s193) (fun _ => rfl) (rg_if h (fun h => ?_) fun h => ?_)
        · exact (t_fLaw_b3122 hk23) h
        · exact rg_end 2 (fun _ => rfl) (by cases h; rfl)
      refine rg_if h (fun h => ?_) fun h => ?_
      · refine rg_step 6 (G' := fun f => if inb (x4 + (cI 1)) (ix (s.1 1021 0)) = true then evT f 539 2235 [oR 1020 0, oR 0 0, oR 549 0, oR 681 0, oI x4, nn, nn] [vI (s.1 1020 (ix (x4 + (cI 1)))), vR 0 0] s else none) (fun _ => rfl) (rg_gd h fun h => ?_)
        refine rg_step 5 (G' := fun f => if inb (x4 + (cI 2)) (ix (s.1 1021 0)) = true then evT f 539 2241 [oR 1020 0, oR 0 0, oR 549 0, oR 681 0, oI x4, nn, nn] [vI (s.1 1020 (ix (x4 + (cI 2)))), vI (s.1 1020 (ix (x4 + (cI 1)))), vR 0 0] s else none) (fun _ => rfl) (rg_gd h fun h => ?_)
        refine rg_step 1 (G' := fun f => ev_after (evT f 277 0 [oR 0 0, oI (s.1 1020 (ix (x4 + (cI 1)))), oI (s.1 1020 (ix (x4 + (cI 2))))] [] s) (fun q => evT f 539 2244 [oR 1020 0, oR 0 0, oR 549 0, oR 681 0, oI x4, nn, nn] (q.2 ++ []) q.1)) (fun _ => rfl) (rg_bd2 h fun s195 v196 hc h => rg_call (q := cvI (s195, v196)) (T_fPH_put hc) ?_)
        refine rg_step 6 (G' := fun f => if inb (x4 + (cI 1)) (ix (s195.1 1021 0)) = true then evT f 539 2251 [oR 1020 0, oR 0 0, oR 549 0, oR 681 0, oI x4, nn, nn] [vI (s195.1 1020 (ix (x4 + (cI 1)))), vR 549 0, vI v196] s195 else none) (fun _ => rfl) (rg_gd h fun h => ?_)
        refine rg_step 5 (G' := fun f => if inb (x4 + (cI 2)) (ix (s195.1 1021 0)) = true then evT f 539 2257 [oR 1020 0, oR 0 0, oR 549 0, oR 681 0, oI x4, nn, nn] [vI (s195.1 1020 (ix (x4 + (cI 2)))), vI (s195.1 1020 (ix (x4 + (cI 1)))), vR 549 0, vI v196] s195 else none) (fun _ => rfl) (rg_gd h fun h => ?_)
        refine rg_step 1 (G' := fun f => ev_after (evT f 486 0 [oR 549 0, oI (s195.1 1020 (ix (x4 + (cI 1)))), oI (s195.1 1020 (ix (x4 + (cI 2))))] [] s195) (fun q => evT f 539 2260 [oR 1020 0, oR 0 0, oR 549 0, oR 681 0, oI x4, nn, nn] (q.2 ++ [vI v196]) q.1)) (fun _ => rfl) (rg_bd2 h fun s197 v198 hc h => rg_call (q := cvI (s197, v198)) (T_fM_put hc) ?_)
        refine rg_step 1 (G' := fun f => if v196 = v198 then evT f 539 3122 [oR 1020 0, oR 0 0, oR 549 0, oR 681 0, oI x4, nn, nn] [] s197 else evT f 539 2263 [oR 1020 0, oR 0 0, oR 549 0, oR 681 0, oI x4, nn, nn] [] s197) (fun _ => rfl) (rg_if h (fun h => ?_) fun h => ?_)
        · exact (t_fLaw_b3122 hk23) h
        · exact rg_end 2 (fun _ => rfl) (by cases h; rfl)
      refine rg_if h (fun h => ?_) fun h => ?_
      · refine rg_step 6 (G' := fun f => if inb (x4 + (cI 1)) (ix (s.1 1021 0)) = true then evT f 539 2272 [oR 1020 0, oR 0 0, oR 549 0, oR 681 0, oI x4, nn, nn] [vI (s.1 1020 (ix (x4 + (cI 1)))), vR 0 0] s else none) (fun _ => rfl) (rg_gd h fun h => ?_)
        refine rg_step 5 (G' := fun f => if inb (x4 + (cI 2)) (ix (s.1 1021 0)) = true then evT f 539 2278 [oR 1020 0, oR 0 0, oR 549 0, oR 681 0, oI x4, nn, nn] [vI (s.1 1020 (ix (x4 + (cI 2)))), vI (s.1 1020 (ix (x4 + (cI 1)))), vR 0 0] s else none) (fun _ => rfl) (rg_gd h fun h => ?_)
        refine rg_step 5 (G' := fun f => if inb (x4 + (cI 3)) (ix (s.1 1021 0)) = true then evT f 539 2284 [oR 1020 0, oR 0 0, oR 549 0, oR 681 0, oI x4, nn, nn] [vI (s.1 1020 (ix (x4 + (cI 3)))), vI (s.1 1020 (ix (x4 + (cI 2)))), vI (s.1 1020 (ix (x4 + (cI 1)))), vR 0 0] s else none) (fun _ => rfl) (rg_gd h fun h => ?_)
        refine rg_step 5 (G' := fun f => if inb (x4 + (cI 4)) (ix (s.1 1021 0)) = true then evT f 539 2290 [oR 1020 0, oR 0 0, oR 549 0, oR 681 0, oI x4, nn, nn] [vI (s.1 1020 (ix (x4 + (cI 4)))), vI (s.1 1020 (ix (x4 + (cI 3)))), vI (s.1 1020 (ix (x4 + (cI 2)))), vI (s.1 1020 (ix (x4 + (cI 1)))), vR 0 0] s else none) (fun _ => rfl) (rg_gd h fun h => ?_)
        refine rg_step 1 (G' := fun f => ev_after (evT f 278 0 [oR 0 0, oI (s.1 1020 (ix (x4 + (cI 1)))), oI (s.1 1020 (ix (x4 + (cI 2)))), oI (s.1 1020 (ix (x4 + (cI 3)))), oI (s.1 1020 (ix (x4 + (cI 4))))] [] s) (fun q => evT f 539 2293 [oR 1020 0, oR 0 0, oR 549 0, oR 681 0, oI x4, nn, nn] (q.2 ++ []) q.1)) (fun _ => rfl) (rg_bd2 h fun s199 v200 hc h => rg_call (q := cvI (s199, v200)) (T_fPH_pickUp hc) ?_)
        refine rg_step 6 (G' := fun f => if inb (x4 + (cI 1)) (ix (s199.1 1021 0)) = true then evT f 539 2300 [oR 1020 0, oR 0 0, oR 549 0, oR 681 0, oI x4, nn, nn] [vI (s199.1 1020 (ix (x4 + (cI 1)))), vR 549 0, vI v200] s199 else none) (fun _ => rfl) (rg_gd h fun h => ?_)
        refine rg_step 5 (G' := fun f => if inb (x4 + (cI 2)) (ix (s199.1 1021 0)) = true then evT f 539 2306 [oR 1020 0, oR 0 0, oR 549 0, oR 681 0, oI x4, nn, nn] [vI (s199.1 1020 (ix (x4 + (cI 2)))), vI (s199.1 1020 (ix (x4 + (cI 1)))), vR 549 0, vI v200] s199 else none) (fun _ => rfl) (rg_gd h fun h => ?_)
        refine rg_step 5 (G' := fun f => if inb (x4 + (cI 3)) (ix (s199.1 1021 0)) = true then evT f 539 2312 [oR 1020 0, oR 0 0, oR 549 0, oR 681 0, oI x4, nn, nn] [vI (s199.1 1020 (ix (x4 + (cI 3)))), vI (s199.1 1020 (ix (x4 + (cI 2)))), vI (s199.1 1020 (ix (x4 + (cI 1)))), vR 549 0, vI v200] s199 else none) (fun _ => rfl) (rg_gd h fun h => ?_)
        refine rg_step 5 (G' := fun f => if inb (x4 + (cI 4)) (ix (s199.1 1021 0)) = true then evT f 539 2318 [oR 1020 0, oR 0 0, oR 549 0, oR 681 0, oI x4, nn, nn] [vI (s199.1 1020 (ix (x4 + (cI 4)))), vI (s199.1 1020 (ix (x4 + (cI 3)))), vI (s199.1 1020 (ix (x4 + (cI 2)))), vI (s199.1 1020 (ix (x4 + (cI 1)))), vR 549 0, vI v200] s199 else none) (fun _ => rfl) (rg_gd h fun h => ?_)
        refine rg_step 1 (G' := fun f => ev_after (evT f 487 0 [oR 549 0, oI (s199.1 1020 (ix (x4 + (cI 1)))), oI (s199.1 1020 (ix (x4 + (cI 2)))), oI (s199.1 1020 (ix (x4 + (cI 3)))), oI (s199.1 1020 (ix (x4 + (cI 4))))] [] s199) (fun q => evT f 539 2321 [oR 1020 0, oR 0 0, oR 549 0, oR 681 0, oI x4, nn, nn] (q.2 ++ [vI v200]) q.1)) (fun _ => rfl) (rg_bd2 h fun s201 v202 hc h => rg_call (q := cvI (s201, v202)) (T_fM_pickUp hc) ?_)
        refine rg_step 1 (G' := fun f => if v200 = v202 then evT f 539 3122 [oR 1020 0, oR 0 0, oR 549 0, oR 681 0, oI x4, nn, nn] [] s201 else evT f 539 2324 [oR 1020 0, oR 0 0, oR 549 0, oR 681 0, oI x4, nn, nn] [] s201) (fun _ => rfl) (rg_if h (fun h => ?_) fun h => ?_)
        · exact (t_fLaw_b3122 hk23) h
        · exact rg_end 2 (fun _ => rfl) (by cases h; rfl)
      refine rg_if h (fun h => ?_) fun h => ?_
      · refine rg_step 6 (G' := fun f => if inb (x4 + (cI 1)) (ix (s.1 1021 0)) = true then evT f 539 2333 [oR 1020 0, oR 0 0, oR 549 0, oR 681 0, oI x4, nn, nn] [vI (s.1 1020 (ix (x4 + (cI 1)))), vR 0 0] s else none) (fun _ => rfl) (rg_gd h fun h => ?_)
        refine rg_step 5 (G' := fun f => if inb (x4 + (cI 2)) (ix (s.1 1021 0)) = true then evT f 539 2339 [oR 1020 0, oR 0 0, oR 549 0, oR 681 0, oI x4, nn, nn] [vI (s.1 1020 (ix (x4 + (cI 2)))), vI (s.1 1020 (ix (x4 + (cI 1)))), vR 0 0] s else none) (fun _ => rfl) (rg_gd h fun h => ?_)
        refine rg_step 1 (G' := fun f => ev_after (evT f 279 0 [oR 0 0, oI (s.1 1020 (ix (x4 + (cI 1)))), oI (s.1 1020 (ix (x4 + (cI 2))))] [] s) (fun q => evT f 539 2342 [oR 1020 0, oR 0 0, oR 549 0, oR 681 0, oI x4, nn, nn] (q.2 ++ []) q.1)) (fun _ => rfl) (rg_bd2 h fun s203 v204 hc h => rg_call (q := cvI (s203, v204)) (T_fPH_openBox hc) ?_)
        refine rg_step 6 (G' := fun f => if inb (x4 + (cI 1)) (ix (s203.1 1021 0)) = true then evT f 539 2349 [oR 1020 0, oR 0 0, oR 549 0, oR 681 0, oI x4, nn, nn] [vI (s203.1 1020 (ix (x4 + (cI 1)))), vR 549 0, vI v204] s203 else none) (fun _ => rfl) (rg_gd h fun h => ?_)
        refine rg_step 5 (G' := fun f => if inb (x4 + (cI 2)) (ix (s203.1 1021 0)) = true then evT f 539 2355 [oR 1020 0, oR 0 0, oR 549 0, oR 681 0, oI x4, nn, nn] [vI (s203.1 1020 (ix (x4 + (cI 2)))), vI (s203.1 1020 (ix (x4 + (cI 1)))), vR 549 0, vI v204] s203 else none) (fun _ => rfl) (rg_gd h fun h => ?_)
        refine rg_step 1 (G' := fun f => ev_after (evT f 490 0 [oR 549 0, oI (s203.1 1020 (ix (x4 + (cI 1)))), oI (s203.1 1020 (ix (x4 + (cI 2))))] [] s203) (fun q => evT f 539 2358 [oR 1020 0, oR 0 0, oR 549 0, oR 681 0, oI x4, nn, nn] (q.2 ++ [vI v204]) q.1)) (fun _ => rfl) (rg_bd2 h fun s205 v206 hc h => rg_call (q := cvI (s205, v206)) (T_fM_openBox hc) ?_)
        refine rg_step 1 (G' := fun f => if v204 = v206 then evT f 539 3122 [oR 1020 0, oR 0 0, oR 549 0, oR 681 0, oI x4, nn, nn] [] s205 else evT f 539 2361 [oR 1020 0, oR 0 0, oR 549 0, oR 681 0, oI x4, nn, nn] [] s205) (fun _ => rfl) (rg_if h (fun h => ?_) fun h => ?_)
        · exact (t_fLaw_b3122 hk23) h
        · exact rg_end 2 (fun _ => rfl) (by cases h; rfl)
      refine rg_if h (fun h => ?_) fun h => ?_
      · refine rg_step 6 (G' := fun f => if inb (x4 + (cI 1)) (ix (s.1 1021 0)) = true then evT f 539 2370 [oR 1020 0, oR 0 0, oR 549 0, oR 681 0, oI x4, nn, nn] [vI (s.1 1020 (ix (x4 + (cI 1)))), vR 0 0] s else none) (fun _ => rfl) (rg_gd h fun h => ?_)
        refine rg_step 1 (G' := fun f => ev_after (evT f 280 0 [oR 0 0, oI (s.1 1020 (ix (x4 + (cI 1))))] [] s) (fun q => evT f 539 2373 [oR 1020 0, oR 0 0, oR 549 0, oR 681 0, oI x4, nn, nn] (q.2 ++ []) q.1)) (fun _ => rfl) (rg_bd2 h fun s207 v208 hc h => rg_call (q := cvI (s207, v208)) (T_fPH_lose hc) ?_)
        refine rg_step 6 (G' := fun f => if inb (x4 + (cI 1)) (ix (s207.1 1021 0)) = true then evT f 539 2380 [oR 1020 0, oR 0 0, oR 549 0, oR 681 0, oI x4, nn, nn] [vI (s207.1 1020 (ix (x4 + (cI 1)))), vR 549 0, vI v208] s207 else none) (fun _ => rfl) (rg_gd h fun h => ?_)
        refine rg_step 1 (G' := fun f => ev_after (evT f 492 0 [oR 549 0, oI (s207.1 1020 (ix (x4 + (cI 1))))] [] s207) (fun q => evT f 539 2383 [oR 1020 0, oR 0 0, oR 549 0, oR 681 0, oI x4, nn, nn] (q.2 ++ [vI v208]) q.1)) (fun _ => rfl) (rg_bd2 h fun s209 v210 hc h => rg_call (q := cvI (s209, v210)) (T_fM_lose hc) ?_)
        refine rg_step 1 (G' := fun f => if v208 = v210 then evT f 539 3122 [oR 1020 0, oR 0 0, oR 549 0, oR 681 0, oI x4, nn, nn] [] s209 else evT f 539 2386 [oR 1020 0, oR 0 0, oR 549 0, oR 681 0, oI x4, nn, nn] [] s209) (fun _ => rfl) (rg_if h (fun h => ?_) fun h => ?_)
        · exact (t_fLaw_b3122 hk23) h
        · exact rg_end 2 (fun _ => rfl) (by cases h; rfl)
      refine rg_if h (fun h => ?_) fun h => ?_
      · refine rg_step 6 (G' := fun f => if inb (x4 + (cI 1)) (ix (s.1 1021 0)) = true then evT f 539 2395 [oR 1020 0, oR 0 0, oR 549 0, oR 681 0, oI x4, nn, nn] [vI (s.1 1020 (ix (x4 + (cI 1)))), vR 0 0] s else none) (fun _ => rfl) (rg_gd h fun h => ?_)
        refine rg_step 1 (G' := fun f => ev_after (evT f 281 0 [oR 0 0, oI (s.1 1020 (ix (x4 + (cI 1))))] [] s) (fun q => evT f 539 2398 [oR 1020 0, oR 0 0, oR 549 0, oR 681 0, oI x4, nn, nn] (q.2 ++ []) q.1)) (fun _ => rfl) (rg_bd2 h fun s211 v212 hc h => rg_call (q := cvI (s211, v212)) (T_fPH_account hc) ?_)
        refine rg_step 6 (G' := fun f => if inb (x4 + (cI 1)) (ix (s211.1 1021 0)) = true then evT f 539 2405 [oR 1020 0, oR 0 0, oR 549 0, oR 681 0, oI x4, nn, nn] [vI (s211.1 1020 (ix (x4 + (cI 1)))), vR 549 0, vI v212] s211 else none) (fun _ => rfl) (rg_gd h fun h => ?_)
        refine rg_step 1 (G' := fun f => ev_after (evT f 494 0 [oR 549 0, oI (s211.1 1020 (ix (x4 + (cI 1))))] [] s211) (fun q => evT f 539 2408 [oR 1020 0, oR 0 0, oR 549 0, oR 681 0, oI x4, nn, nn] (q.2 ++ [vI v212]) q.1)) (fun _ => rfl) (rg_bd2 h fun s213 v214 hc h => rg_call (q := cvI (s213, v214)) (T_fM_account hc) ?_)
        refine rg_step 1 (G' := fun f => if v212 = v214 then evT f 539 3122 [oR 1020 0, oR 0 0, oR 549 0, oR 681 0, oI x4, nn, nn] [] s213 else evT f 539 2411 [oR 1020 0, oR 0 0, oR 549 0, oR 681 0, oI x4, nn, nn] [] s213) (fun _ => rfl) (rg_if h (fun h => ?_) fun h => ?_)
        · exact (t_fLaw_b3122 hk23) h
        · exact rg_end 2 (fun _ => rfl) (by cases h; rfl)
      refine rg_if h (fun h => ?_) fun h => ?_
      · refine rg_step 6 (G' := fun f => if inb (x4 + (cI 1)) (ix (s.1 1021 0)) = true then evT f 539 2420 [oR 1020 0, oR 0 0, oR 549 0, oR 681 0, oI x4, nn, nn] [vI (s.1 1020 (ix (x4 + (cI 1)))), vR 0 0] s else none) (fun _ => rfl) (rg_gd h fun h => ?_)
        refine rg_step 5 (G' := fun f => if inb (x4 + (cI 2)) (ix (s.1 1021 0)) = true then evT f 539 2426 [oR 1020 0, oR 0 0, oR 549 0, oR 681 0, oI x4, nn, nn] [vI (s.1 1020 (ix (x4 + (cI 2)))), vI (s.1 1020 (ix (x4 + (cI 1)))), vR 0 0] s else none) (fun _ => rfl) (rg_gd h fun h => ?_)
        refine rg_step 1 (G' := fun f => ev_after (evT f 282 0 [oR 0 0, oI (s.1 1020 (ix (x4 + (cI 1)))), oI (s.1 1020 (ix (x4 + (cI 2))))] [] s) (fun q => evT f 539 2429 [oR 1020 0, oR 0 0, oR 549 0, oR 681 0, oI x4, nn, nn] (q.2 ++ []) q.1)) (fun _ => rfl) (rg_bd2 h fun s215 v216 hc h => rg_call (q := cvI (s215, v216)) (T_fPH_deposit hc) ?_)
        refine rg_step 6 (G' := fun f => if inb (x4 + (cI 1)) (ix (s215.1 1021 0)) = true then evT f 539 2436 [oR 1020 0, oR 0 0, oR 549 0, oR 681 0, oI x4, nn, nn] [vI (s215.1 1020 (ix (x4 + (cI 1)))), vR 549 0, vI v216] s215 else none) (fun _ => rfl) (rg_gd h fun h => ?_)
        refine rg_step 5 (G' := fun f => if inb (x4 + (cI 2)) (ix (s215.1 1021 0)) = true then evT f 539 2442 [oR 1020 0, oR 0 0, oR 549 0, oR 681 0, oI x4, nn, nn] [vI (s215.1 1020 (ix (x4 + (cI 2)))), vI (s215.1 1020 (ix (x4 + (cI 1)))), vR 549 0, vI v216] s215 else none) (fun _ => rfl) (rg_gd h fun h => ?_)
        refine rg_step 1 (G' := fun f => ev_after (evT f 496 0 [oR 549 0, oI (s215.1 1020 (ix (x4 + (cI 1)))), oI (s215.1 1020 (ix (x4 + (cI 2))))] [] s215) (fun q => evT f 539 2445 [oR 1020 0, oR 0 0, oR 549 0, oR 681 0, oI x4, nn, nn] (q.2 ++ [vI v216]) q.1)) (fun _ => rfl) (rg_bd2 h fun s217 v218 hc h => rg_call (q := cvI (s217, v218)) (T_fM_deposit hc) ?_)
        refine rg_step 1 (G' := fun f => if v216 = v218 then evT f 539 3122 [oR 1020 0, oR 0 0, oR 549 0, oR 681 0, oI x4, nn, nn] [] s217 else evT f 539 2448 [oR 1020 0, oR 0 0, oR 549 0, oR 681 0, oI x4, nn, nn] [] s217) (fun _ => rfl) (rg_if h (fun h => ?_) fun h => ?_)
        · exact (t_fLaw_b3122 hk23) h
        · exact rg_end 2 (fun _ => rfl) (by cases h; rfl)
      refine rg_if h (fun h => ?_) fun h => ?_
      · refine rg_step 6 (G' := fun f => if inb (x4 + (cI 1)) (ix (s.1 1021 0)) = true then evT f 539 2457 [oR 1020 0, oR 0 0, oR 549 0, oR 681 0, oI x4, nn, nn] [vI (s.1 1020 (ix (x4 + (cI 1)))), vR 0 0] s else none) (fun _ => rfl) (rg_gd h fun h => ?_)
        refine rg_step 1 (G' := fun f => ev_after (evT f 283 0 [oR 0 0, oI (s.1 1020 (ix (x4 + (cI 1))))] [] s) (fun q => evT f 539 2460 [oR 1020 0, oR 0 0, oR 549 0, oR 681 0, oI x4, nn, nn] (q.2 ++ []) q.1)) (fun _ => rfl) (rg_bd1 h fun v219 hc h => rg_call (q := cvPL s v219) (T_fPH_balance hc) ?_)
        refine rg_step 6 (G' := fun f => if inb (x4 + (cI 1)) (ix (s.1 1021 0)) = true then evT f 539 2467 [oR 1020 0, oR 0 0, oR 549 0, oR 681 0, oI x4, nn, nn] [vI (s.1 1020 (ix (x4 + (cI 1)))), vR 549 0, vL v219] s else none) (fun _ => rfl) (rg_gd h fun h => ?_)
        refine rg_step 1 (G' := fun f => ev_after (evT f 497 0 [oR 549 0, oI (s.1 1020 (ix (x4 + (cI 1))))] [] s) (fun q => evT f 539 2470 [oR 1020 0, oR 0 0, oR 549 0, oR 681 0, oI x4, nn, nn] (q.2 ++ [vL v219]) q.1)) (fun _ => rfl) (rg_bd2 h fun s220 v221 hc h => rg_call (q := cvL (s220, v221)) (T_fM_balance hc) ?_)
        refine rg_step 2 (G' := fun f => if (lg_cmp v219 v221) = 0 then evT f 539 3122 [oR 1020 0, oR 0 0, oR 549 0, oR 681 0, oI x4, nn, nn] [] s220 else evT f 539 2474 [oR 1020 0, oR 0 0, oR 549 0, oR 681 0, oI x4, nn, nn] [] s220) (fun _ => rfl) (rg_if h (fun h => ?_) fun h => ?_)
        · exact (t_fLaw_b3122 hk23) h
        · exact rg_end 2 (fun _ => rfl) (by cases h; rfl)
      refine rg_if h (fun h => ?_) fun h => ?_
      · refine rg_step 6 (G' := fun f => if inb (x4 + (cI 1)) (ix (s.1 1021 0)) = true then evT f 539 2483 [oR 1020 0, oR 0 0, oR 549 0, oR 681 0, oI x4, nn, nn] [vI (s.1 1020 (ix (x4 + (cI 1)))), vR 0 0] s else none) (fun _ => rfl) (rg_gd h fun h => ?_)
        refine rg_step 5 (G' := fun f => if inb (x4 + (cI 2)) (ix (s.1 1021 0)) = true then evT f 539 2489 [oR 1020 0, oR 0 0, oR 549 0, oR 681 0, oI x4, nn, nn] [vI (s.1 1020 (ix (x4 + (cI 2)))), vI (s.1 1020 (ix (x4 + (cI 1)))), vR 0 0] s else none) (fun _ => rfl) (rg_gd h fun h => ?_)
        refine rg_step 1 (G' := fun f => ev_after (evT f 284 0 [oR 0 0, oI (s.1 1020 (ix (x4 + (cI 1)))), oI (s.1 1020 (ix (x4 + (cI 2))))] [] s) (fun q => evT f 539 2492 [oR 1020 0, oR 0 0, oR 549 0, oR 681 0, oI x4, nn, nn] (q.2 ++ []) q.1)) (fun _ => rfl) (rg_bd1 h fun v222 hc h => rg_call (q := cvP s v222) (T_fPH_entry hc) ?_)
        refine rg_step 6 (G' := fun f => if inb (x4 + (cI 1)) (ix (s.1 1021 0)) = true then evT f 539 2499 [oR 1020 0, oR 0 0, oR 549 0, oR 681 0, oI x4, nn, nn] [vI (s.1 1020 (ix (x4 + (cI 1)))), vR 549 0, vI v222] s else none) (fun _ => rfl) (rg_gd h fun h => ?_)
        refine rg_step 5 (G' := fun f => if inb (x4 + (cI 2)) (ix (s.1 1021 0)) = true then evT f 539 2505 [oR 1020 0, oR 0 0, oR 549 0, oR 681 0, oI x4, nn, nn] [vI (s.1 1020 (ix (x4 + (cI 2)))), vI (s.1 1020 (ix (x4 + (cI 1)))), vR 549 0, vI v222] s else none) (fun _ => rfl) (rg_gd h fun h => ?_)
        refine rg_step 1 (G' := fun f => ev_after (evT f 498 0 [oR 549 0, oI (s.1 1020 (ix (x4 + (cI 1)))), oI (s.1 1020 (ix (x4 + (cI 2))))] [] s) (fun q => evT f 539 2508 [oR 1020 0, oR 0 0, oR 549 0, oR 681 0, oI x4, nn, nn] (q.2 ++ [vI v222]) q.1)) (fun _ => rfl) (rg_bd2 h fun s223 v224 hc h => rg_call (q := cvI (s223, v224)) (T_fM_entry hc) ?_)
        refine rg_step 1 (G' := fun f => if v222 = v224 then evT f 539 3122 [oR 1020 0, oR 0 0, oR 549 0, oR 681 0, oI x4, nn, nn] [] s223 else evT f 539 2511 [oR 1020 0, oR 0 0, oR 549 0, oR 681 0, oI x4, nn, nn] [] s223) (fun _ => rfl) (rg_if h (fun h => ?_) fun h => ?_)
        · exact (t_fLaw_b3122 hk23) h
        · exact rg_end 2 (fun _ => rfl) (by cases h; rfl)
      refine rg_if h (fun h => ?_) fun h => ?_
      · refine rg_step 2 (G' := fun f => ev_after (evT f 285 0 [oR 0 0, nn] [] s) (fun q => evT f 539 2517 [oR 1020 0, oR 0 0, oR 549 0, oR 681 0, oI x4, nn, nn] (q.2 ++ []) q.1)) (fun _ => rfl) (rg_bd2 h fun s225 v226 hc h => rg_call (q := cvI (s225, v226)) (T_fPH_tariff hc) ?_)
        refine rg_step 2 (G' := fun f => ev_after (evT f 501 0 [oR 549 0] [] s225) (fun q => evT f 539 2521 [oR 1020 0, oR 0 0, oR 549 0, oR 681 0, oI x4, nn, nn] (q.2 ++ [vI v226]) q.1)) (fun _ => rfl) (rg_bd2 h fun s227 v228 hc h => rg_call (q := cvI (s227, v228)) (T_fM_tariff hc) ?_)
        refine rg_step 1 (G' := fun f => if v226 = v228 then evT f 539 3122 [oR 1020 0, oR 0 0, oR 549 0, oR 681 0, oI x4, nn, nn] [] s227 else evT f 539 2524 [oR 1020 0, oR 0 0, oR 549 0, oR 681 0, oI x4, nn, nn] [] s227) (fun _ => rfl) (rg_if h (fun h => ?_) fun h => ?_)
        · exact (t_fLaw_b3122 hk23) h
        · exact rg_end 2 (fun _ => rfl) (by cases h; rfl)
      refine rg_if h (fun h => ?_) fun h => ?_
      · refine rg_step 6 (G' := fun f => if inb (x4 + (cI 1)) (ix (s.1 1021 0)) = true then evT f 539 2533 [oR 1020 0, oR 0 0, oR 549 0, oR 681 0, oI x4, nn, nn] [vI (s.1 1020 (ix (x4 + (cI 1)))), vR 0 0] s else none) (fun _ => rfl) (rg_gd h fun h => ?_)
        refine rg_step 1 (G' := fun f => ev_after (evT f 286 0 [oR 0 0, oI (s.1 1020 (ix (x4 + (cI 1))))] [] s) (fun q => evT f 539 2536 [oR 1020 0, oR 0 0, oR 549 0, oR 681 0, oI x4, nn, nn] (q.2 ++ []) q.1)) (fun _ => rfl) (rg_bd1 h fun v229 hc h => rg_call (q := cvP s v229) (T_fPH_price hc) ?_)
        refine rg_step 6 (G' := fun f => if inb (x4 + (cI 1)) (ix (s.1 1021 0)) = true then evT f 539 2543 [oR 1020 0, oR 0 0, oR 549 0, oR 681 0, oI x4, nn, nn] [vI (s.1 1020 (ix (x4 + (cI 1)))), vR 549 0, vI v229] s else none) (fun _ => rfl) (rg_gd h fun h => ?_)
        refine rg_step 1 (G' := fun f => ev_after (evT f 502 0 [oR 549 0, oI (s.1 1020 (ix (x4 + (cI 1))))] [] s) (fun q => evT f 539 2546 [oR 1020 0, oR 0 0, oR 549 0, oR 681 0, oI x4, nn, nn] (q.2 ++ [vI v229]) q.1)) (fun _ => rfl) (rg_bd2 h fun s230 v231 hc h => rg_call (q := cvI (s230, v231)) (T_fM_price hc) ?_)
        refine rg_step 1 (G' := fun f => if v229 = v231 then evT f 539 3122 [oR 1020 0, oR 0 0, oR 549 0, oR 681 0, oI x4, nn, nn] [] s230 else evT f 539 2549 [oR 1020 0, oR 0 0, oR 549 0, oR 681 0, oI x4, nn, nn] [] s230) (fun _ => rfl) (rg_if h (fun h => ?_) fun h => ?_)
        · exact (t_fLaw_b3122 hk23) h
        · exact rg_end 2 (fun _ => rfl) (by cases h; rfl)
      refine rg_if h (fun h => ?_) fun h => ?_
      · refine rg_step 6 (G' := fun f => if inb (x4 + (cI 1)) (ix (s.1 1021 0)) = true then evT f 539 2558 [oR 1020 0, oR 0 0, oR 549 0, oR 681 0, oI x4, nn, nn] [vI (s.1 1020 (ix (x4 + (cI 1)))), vR 0 0] s else none) (fun _ => rfl) (rg_gd h fun h => ?_)
        refine rg_step 1 (G' := fun f => ev_after (evT f 287 0 [oR 0 0, oI (s.1 1020 (ix (x4 + (cI 1))))] [] s) (fun q => evT f 539 2561 [oR 1020 0, oR 0 0, oR 549 0, oR 681 0, oI x4, nn, nn] (q.2 ++ []) q.1)) (fun _ => rfl) (rg_bd2 h fun s232 v233 hc h => rg_call (q := cvI (s232, v233)) (T_fPH_frank hc) ?_)
        refine rg_step 6 (G' := fun f => if inb (x4 + (cI 1)) (ix (s232.1 1021 0)) = true then evT f 539 2568 [oR 1020 0, oR 0 0, oR 549 0, oR 681 0, oI x4, nn, nn] [vI (s232.1 1020 (ix (x4 + (cI 1)))), vR 549 0, vI v233] s232 else none) (fun _ => rfl) (rg_gd h fun h => ?_)
        refine rg_step 1 (G' := fun f => ev_after (evT f 504 0 [oR 549 0, oI (s232.1 1020 (ix (x4 + (cI 1))))] [] s232) (fun q => evT f 539 2571 [oR 1020 0, oR 0 0, oR 549 0, oR 681 0, oI x4, nn, nn] (q.2 ++ [vI v233]) q.1)) (fun _ => rfl) (rg_bd2 h fun s234 v235 hc h => rg_call (q := cvI (s234, v235)) (T_fM_frank hc) ?_)
        refine rg_step 1 (G' := fun f => if v233 = v235 then evT f 539 3122 [oR 1020 0, oR 0 0, oR 549 0, oR 681 0, oI x4, nn, nn] [] s234 else evT f 539 2574 [oR 1020 0, oR 0 0, oR 549 0, oR 681 0, oI x4, nn, nn] [] s234) (fun _ => rfl) (rg_if h (fun h => ?_) fun h => ?_)
        · exact (t_fLaw_b3122 hk23) h
        · exact rg_end 2 (fun _ => rfl) (by cases h; rfl)
      refine rg_if h (fun h => ?_) fun h => ?_
      · refine rg_step 6 (G' := fun f => if inb (x4 + (cI 1)) (ix (s.1 1021 0)) = true then evT f 539 2583 [oR 1020 0, oR 0 0, oR 549 0, oR 681 0, oI x4, nn, nn] [vI (s.1 1020 (ix (x4 + (cI 1)))), vR 0 0] s else none) (fun _ => rfl) (rg_gd h fun h => ?_)
        refine rg_step 5 (G' := fun f => if inb (x4 + (cI 2)) (ix (s.1 1021 0)) = true then evT f 539 2589 [oR 1020 0, oR 0 0, oR 549 0, oR 681 0, oI x4, nn, nn] [vI (s.1 1020 (ix (x4 + (cI 2)))), vI (s.1 1020 (ix (x4 + (cI 1)))), vR 0 0] s else none) (fun _ => rfl) (rg_gd h fun h => ?_)
        refine rg_step 5 (G' := fun f => if inb (x4 + (cI 3)) (ix (s.1 1021 0)) = true then evT f 539 2595 [oR 1020 0, oR 0 0, oR 549 0, oR 681 0, oI x4, nn, nn] [vI (s.1 1020 (ix (x4 + (cI 3)))), vI (s.1 1020 (ix (x4 + (cI 2)))), vI (s.1 1020 (ix (x4 + (cI 1)))), vR 0 0] s else none) (fun _ => rfl) (rg_gd h fun h => ?_)
        refine rg_step 1 (G' := fun f => ev_after (evT f 288 0 [oR 0 0, oI (s.1 1020 (ix (x4 + (cI 1)))), oI (s.1 1020 (ix (x4 + (cI 2)))), oI (s.1 1020 (ix (x4 + (cI 3))))] [] s) (fun q => evT f 539 2598 [oR 1020 0, oR 0 0, oR 549 0, oR 681 0, oI x4, nn, nn] (q.2 ++ []) q.1)) (fun _ => rfl) (rg_bd2 h fun s236 v237 hc h => rg_call (q := cvI (s236, v237)) (T_fPH_order hc) ?_)
        refine rg_step 6 (G' := fun f => if inb (x4 + (cI 1)) (ix (s236.1 1021 0)) = true then evT f 539 2605 [oR 1020 0, oR 0 0, oR 549 0, oR 681 0, oI x4, nn, nn] [vI (s236.1 1020 (ix (x4 + (cI 1)))), vR 549 0, vI v237] s236 else none) (fun _ => rfl) (rg_gd h fun h => ?_)
        refine rg_step 5 (G' := fun f => if inb (x4 + (cI 2)) (ix (s236.1 1021 0)) = true then evT f 539 2611 [oR 1020 0, oR 0 0, oR 549 0, oR 681 0, oI x4, nn, nn] [vI (s236.1 1020 (ix (x4 + (cI 2)))), vI (s236.1 1020 (ix (x4 + (cI 1)))), vR 549 0, vI v237] s236 else none) (fun _ => rfl) (rg_gd h fun h => ?_)
        refine rg_step 5 (G' := fun f => if inb (x4 + (cI 3)) (ix (s236.1 1021 0)) = true then evT f 539 2617 [oR 1020 0, oR 0 0, oR 549 0, oR 681 0, oI x4, nn, nn] [vI (s236.1 1020 (ix (x4 + (cI 3)))), vI (s236.1 1020 (ix (x4 + (cI 2)))), vI (s236.1 1020 (ix (x4 + (cI 1)))), vR 549 0, vI v237] s236 else none) (fun _ => rfl) (rg_gd h fun h => ?_)
        refine rg_step 1 (G' := fun f => ev_after (evT f 506 0 [oR 549 0, oI (s236.1 1020 (ix (x4 + (cI 1)))), oI (s236.1 1020 (ix (x4 + (cI 2)))), oI (s236.1 1020 (ix (x4 + (cI 3))))] [] s236) (fun q => evT f 539 2620 [oR 1020 0, oR 0 0, oR 549 0, oR 681 0, oI x4, nn, nn] (q.2 ++ [vI v237]) q.1)) (fun _ => rfl) (rg_bd2 h fun s238 v239 hc h => rg_call (q := cvI (s238, v239)) (T_fM_order hc) ?_)
        refine rg_step 1 (G' := fun f => if v237 = v239 then evT f 539 3122 [oR 1020 0, oR 0 0, oR 549 0, oR 681 0, oI x4, nn, nn] [] s238 else evT f 539 2623 [oR 1020 0, oR 0 0, oR 549 0, oR 681 0, oI x4, nn, nn] [] s238) (fun _ => rfl) (rg_if h (fun h => ?_) fun h => ?_)
        · exact (t_fLaw_b3122 hk23) h
        · exact rg_end 2 (fun _ => rfl) (by cases h; rfl)
      refine rg_if h (fun h => ?_) fun h => ?_
      · refine rg_step 6 (G' := fun f => if inb (x4 + (cI 1)) (ix (s.1 1021 0)) = true then evT f 539 2632 [oR 1020 0, oR 0 0, oR 549 0, oR 681 0, oI x4, nn, nn] [vI (s.1 1020 (ix (x4 + (cI 1)))), vR 0 0] s else none) (fun _ => rfl) (rg_gd h fun h => ?_)
        refine rg_step 5 (G' := fun f => if inb (x4 + (cI 2)) (ix (s.1 1021 0)) = true then evT f 539 2638 [oR 1020 0, oR 0 0, oR 549 0, oR 681 0, oI x4, nn, nn] [vI (s.1 1020 (ix (x4 + (cI 2)))), vI (s.1 1020 (ix (x4 + (cI 1)))), vR 0 0] s else none) (fun _ => rfl) (rg_gd h fun h => ?_)
        refine rg_step 5 (G' := fun f => if inb (x4 + (cI 3)) (ix (s.1 1021 0)) = true then evT f 539 2644 [oR 1020 0, oR 0 0, oR 549 0, oR 681 0, oI x4, nn, nn] [vI (s.1 1020 (ix (x4 + (cI 3)))), vI (s.1 1020 (ix (x4 + (cI 2)))), vI (s.1 1020 (ix (x4 + (cI 1)))), vR 0 0] s else none) (fun _ => rfl) (rg_gd h fun h => ?_)
        refine rg_step 1 (G' := fun f => ev_after (evT f 289 0 [oR 0 0, oI (s.1 1020 (ix (x4 + (cI 1)))), oI (s.1 1020 (ix (x4 + (cI 2)))), oI (s.1 1020 (ix (x4 + (cI 3))))] [] s) (fun q => evT f 539 2647 [oR 1020 0, oR 0 0, oR 549 0, oR 681 0, oI x4, nn, nn] (q.2 ++ []) q.1)) (fun _ => rfl) (rg_bd2 h fun s240 v241 hc h => rg_call (q := cvI (s240, v241)) (T_fPH_payOut hc) ?_)
        refine rg_step 6 (G' := fun f => if inb (x4 + (cI 1)) (ix (s240.1 1021 0)) = true then evT f 539 2654 [oR 1020 0, oR 0 0, oR 549 0, oR 681 0, oI x4, nn, nn] [vI (s240.1 1020 (ix (x4 + (cI 1)))), vR 549 0, vI v241] s240 else none) (fun _ => rfl) (rg_gd h fun h => ?_)
        refine rg_step 5 (G' := fun f => if inb (x4 + (cI 2)) (ix (s240.1 1021 0)) = true then evT f 539 2660 [oR 1020 0, oR 0 0, oR 549 0, oR 681 0, oI x4, nn, nn] [vI (s240.1 1020 (ix (x4 + (cI 2)))), vI (s240.1 1020 (ix (x4 + (cI 1)))), vR 549 0, vI v241] s240 else none) (fun _ => rfl) (rg_gd h fun h => ?_)
        refine rg_step 5 (G' := fun f => if inb (x4 + (cI 3)) (ix (s240.1 1021 0)) = true then evT f 539 2666 [oR 1020 0, oR 0 0, oR 549 0, oR 681 0, oI x4, nn, nn] [vI (s240.1 1020 (ix (x4 + (cI 3)))), vI (s240.1 1020 (ix (x4 + (cI 2)))), vI (s240.1 1020 (ix (x4 + (cI 1)))), vR 549 0, vI v241] s240 else none) (fun _ => rfl) (rg_gd h fun h => ?_)
        refine rg_step 1 (G' := fun f => ev_after (evT f 508 0 [oR 549 0, oI (s240.1 1020 (ix (x4 + (cI 1)))), oI (s240.1 1020 (ix (x4 + (cI 2)))), oI (s240.1 1020 (ix (x4 + (cI 3))))] [] s240) (fun q => evT f 539 2669 [oR 1020 0, oR 0 0, oR 549 0, oR 681 0, oI x4, nn, nn] (q.2 ++ [vI v241]) q.1)) (fun _ => rfl) (rg_bd2 h fun s242 v243 hc h => rg_call (q := cvI (s242, v243)) (T_fM_payOut hc) ?_)
        refine rg_step 1 (G' := fun f => if v241 = v243 then evT f 539 3122 [oR 1020 0, oR 0 0, oR 549 0, oR 681 0, oI x4, nn, nn] [] s242 else evT f 539 2672 [oR 1020 0, oR 0 0, oR 549 0, oR 681 0, oI x4, nn, nn] [] s242) (fun _ => rfl) (rg_if h (fun h => ?_) fun h => ?_)
        · exact (t_fLaw_b3122 hk23) h
        · exact rg_end 2 (fun _ => rfl) (by cases h; rfl)
      refine rg_if h (fun h => ?_) fun h => ?_
      · refine rg_step 6 (G' := fun f => if inb (x4 + (cI 1)) (ix (s.1 1021 0)) = true then evT f 539 2681 [oR 1020 0, oR 0 0, oR 549 0, oR 681 0, oI x4, nn, nn] [vI (s.1 1020 (ix (x4 + (cI 1)))), vR 0 0] s else none) (fun _ => rfl) (rg_gd h fun h => ?_)
        refine rg_step 5 (G' := fun f => if inb (x4 + (cI 2)) (ix (s.1 1021 0)) = true then evT f 539 2687 [oR 1020 0, oR 0 0, oR 549 0, oR 681 0, oI x4, nn, nn] [vI (s.1 1020 (ix (x4 + (cI 2)))), vI (s.1 1020 (ix (x4 + (cI 1)))), vR 0 0] s else none) (fun _ => rfl) (rg_gd h fun h => ?_)
        refine rg_step 1 (G' := fun f => ev_after (evT f 290 0 [oR 0 0, oI (s.1 1020 (ix (x4 + (cI 1)))), oI (s.1 1020 (ix (x4 + (cI 2))))] [] s) (fun q => evT f 539 2690 [oR 1020 0, oR 0 0, oR 549 0, oR 681 0, oI x4, nn, nn] (q.2 ++ []) q.1)) (fun _ => rfl) (rg_bd1 h fun v244 hc h => rg_call (q := cvP s v244) (T_fPH_orderAt hc) ?_)
        refine rg_step 6 (G' := fun f => if inb (x4 + (cI 1)) (ix (s.1 1021 0)) = true then evT f 539 2697 [oR 1020 0, oR 0 0, oR 549 0, oR 681 0, oI x4, nn, nn] [vI (s.1 1020 (ix (x4 + (cI 1)))), vR 549 0, vI v244] s else none) (fun _ => rfl) (rg_gd h fun h => ?_)
        refine rg_step 5 (G' := fun f => if inb (x4 + (cI 2)) (ix (s.1 1021 0)) = true then evT f 539 2703 [oR 1020 0, oR 0 0, oR 549 0, oR 681 0, oI x4, nn, nn] [vI (s.1 1020 (ix (x4 + (cI 2)))), vI (s.1 1020 (ix (x4 + (cI 1)))), vR 549 0, vI v244] s else none) (fun _ => rfl) (rg_gd h fun h => ?_)
        refine rg_step 1 (G' := fun f => ev_after (evT f 509 0 [oR 549 0, oI (s.1 1020 (ix (x4 + (cI 1)))), oI (s.1 1020 (ix (x4 + (cI 2))))] [] s) (fun q => evT f 539 2706 [oR 1020 0, oR 0 0, oR 549 0, oR 681 0, oI x4, nn, nn] (q.2 ++ [vI v244]) q.1)) (fun _ => rfl) (rg_bd2 h fun s245 v246 hc h => rg_call (q := cvI (s245, v246)) (T_fM_orderAt hc) ?_)
        refine rg_step 1 (G' := fun f => if v244 = v246 then evT f 539 3122 [oR 1020 0, oR 0 0, oR 549 0, oR 681 0, oI x4, nn, nn] [] s245 else evT f 539 2709 [oR 1020 0, oR 0 0, oR 549 0, oR 681 0, oI x4, nn, nn] [] s245) (fun _ => rfl) (rg_if h (fun h => ?_) fun h => ?_)
        · exact (t_fLaw_b3122 hk23) h
        · exact rg_end 2 (fun _ => rfl) (by cases h; rfl)
      refine rg_if h (fun h => ?_) fun h => ?_
      · refine rg_step 6 (G' := fun f => if inb (x4 + (cI 1)) (ix (s.1 1021 0)) = true then evT f 539 2718 [oR 1020 0, oR 0 0, oR 549 0, oR 681 0, oI x4, nn, nn] [vI (s.1 1020 (ix (x4 + (cI 1)))), vR 0 0] s else none) (fun _ => rfl) (rg_gd h fun h => ?_)
        refine rg_step 5 (G' := fun f => if inb (x4 + (cI 2)) (ix (s.1 1021 0)) = true then evT f 539 2724 [oR 1020 0, oR 0 0, oR 549 0, oR 681 0, oI x4, nn, nn] [vI (s.1 1020 (ix (x4 + (cI 2)))), vI (s.1 1020 (ix (x4 + (cI 1)))), vR 0 0] s else none) (fun _ => rfl) (rg_gd h fun h => ?_)
        refine rg_step 1 (G' := fun f => ev_after (evT f 291 0 [oR 0 0, oI (s.1 1020 (ix (x4 + (cI 1)))), oI (s.1 1020 (ix (x4 + (cI 2))))] [] s) (fun q => evT f 539 2727 [oR 1020 0, oR 0 0, oR 549 0, oR 681 0, oI x4, nn, nn] (q.2 ++ []) q.1)) (fun _ => rfl) (rg_bd2 h fun s247 v248 hc h => rg_call (q := cvI (s247, v248)) (T_fPH_claim hc) ?_)
        refine rg_step 6 (G' := fun f => if inb (x4 + (cI 1)) (ix (s247.1 1021 0)) = true then evT f 539 2734 [oR 1020 0, oR 0 0, oR 549 0, oR 681 0, oI x4, nn, nn] [vI (s247.1 1020 (ix (x4 + (cI 1)))), vR 549 0, vI v248] s247 else none) (fun _ => rfl) (rg_gd h fun h => ?_)
        refine rg_step 5 (G' := fun f => if inb (x4 + (cI 2)) (ix (s247.1 1021 0)) = true then evT f 539 2740 [oR 1020 0, oR 0 0, oR 549 0, oR 681 0, oI x4, nn, nn] [vI (s247.1 1020 (ix (x4 + (cI 2)))), vI (s247.1 1020 (ix (x4 + (cI 1)))), vR 549 0, vI v248] s247 else none) (fun _ => rfl) (rg_gd h fun h => ?_)
        refine rg_step 1 (G' := fun f => ev_after (evT f 511 0 [oR 549 0, oI (s247.1 1020 (ix (x4 + (cI 1)))), oI (s247.1 1020 (ix (x4 + (cI 2))))] [] s247) (fun q => evT f 539 2743 [oR 1020 0, oR 0 0, oR 549 0, oR 681 0, oI x4, nn, nn] (q.2 ++ [vI v248]) q.1)) (fun _ => rfl) (rg_bd2 h fun s249 v250 hc h => rg_call (q := cvI (s249, v250)) (T_fM_claim hc) ?_)
        refine rg_step 1 (G' := fun f => if v248 = v250 then evT f 539 3122 [oR 1020 0, oR 0 0, oR 549 0, oR 681 0, oI x4, nn, nn] [] s249 else evT f 539 2746 [oR 1020 0, oR 0 0, oR 549 0, oR 681 0, oI x4, nn, nn] [] s249) (fun _ => rfl) (rg_if h (fun h => ?_) fun h => ?_)
        · exact (t_fLaw_b3122 hk23) h
        · exact rg_end 2 (fun _ => rfl) (by cases h; rfl)
      refine rg_if h (fun h => ?_) fun h => ?_
      · refine rg_step 6 (G' := fun f => if inb (x4 + (cI 1)) (ix (s.1 1021 0)) = true then evT f 539 2755 [oR 1020 0, oR 0 0, oR 549 0, oR 681 0, oI x4, nn, nn] [vI (s.1 1020 (ix (x4 + (cI 1)))), vR 0 0] s else none) (fun _ => rfl) (rg_gd h fun h => ?_)
        refine rg_step 5 (G' := fun f => if inb (x4 + (cI 2)) (ix (s.1 1021 0)) = true then evT f 539 2761 [oR 1020 0, oR 0 0, oR 549 0, oR 681 0, oI x4, nn, nn] [vI (s.1 1020 (ix (x4 + (cI 2)))), vI (s.1 1020 (ix (x4 + (cI 1)))), vR 0 0] s else none) (fun _ => rfl) (rg_gd h fun h => ?_)
        refine rg_step 1 (G' := fun f => ev_after (evT f 292 0 [oR 0 0, oI (s.1 1020 (ix (x4 + (cI 1)))), oI (s.1 1020 (ix (x4 + (cI 2))))] [] s) (fun q => evT f 539 2764 [oR 1020 0, oR 0 0, oR 549 0, oR 681 0, oI x4, nn, nn] (q.2 ++ []) q.1)) (fun _ => rfl) (rg_bd2 h fun s251 v252 hc h => rg_call (q := cvI (s251, v252)) (T_fPH_locker hc) ?_)
        refine rg_step 6 (G' := fun f => if inb (x4 + (cI 1)) (ix (s251.1 1021 0)) = true then evT f 539 2771 [oR 1020 0, oR 0 0, oR 549 0, oR 681 0, oI x4, nn, nn] [vI (s251.1 1020 (ix (x4 + (cI 1)))), vR 549 0, vI v252] s251 else none) (fun _ => rfl) (rg_gd h fun h => ?_)
        refine rg_step 5 (G' := fun f => if inb (x4 + (cI 2)) (ix (s251.1 1021 0)) = true then evT f 539 2777 [oR 1020 0, oR 0 0, oR 549 0, oR 681 0, oI x4, nn, nn] [vI (s251.1 1020 (ix (x4 + (cI 2)))), vI (s251.1 1020 (ix (x4 + (cI 1)))), vR 549 0, vI v252] s251 else none) (fun _ => rfl) (rg_gd h fun h => ?_)
        refine rg_step 1 (G' := fun f => ev_after (evT f 513 0 [oR 549 0, oI (s251.1 1020 (ix (x4 + (cI 1)))), oI (s251.1 1020 (ix (x4 + (cI 2))))] [] s251) (fun q => evT f 539 2780 [oR 1020 0, oR 0 0, oR 549 0, oR 681 0, oI x4, nn, nn] (q.2 ++ [vI v252]) q.1)) (fun _ => rfl) (rg_bd2 h fun s253 v254 hc h => rg_call (q := cvI (s253, v254)) (T_fM_locker hc) ?_)
        refine rg_step 1 (G' := fun f => if v252 = v254 then evT f 539 3122 [oR 1020 0, oR 0 0, oR 549 0, oR 681 0, oI x4, nn, nn] [] s253 else evT f 539 2783 [oR 1020 0, oR 0 0, oR 549 0, oR 681 0, oI x4, nn, nn] [] s253) (fun _ => rfl) (rg_if h (fun h => ?_) fun h => ?_)
        · exact (t_fLaw_b3122 hk23) h
        · exact rg_end 2 (fun _ => rfl) (by cases h; rfl)
      refine rg_if h (fun h => ?_) fun h => ?_
      · refine rg_step 6 (G' := fun f => if inb (x4 + (cI 1)) (ix (s.1 1021 0)) = true then evT f 539 2792 [oR 1020 0, oR 0 0, oR 549 0, oR 681 0, oI x4, nn, nn] [vI (s.1 1020 (ix (x4 + (cI 1)))), vR 0 0] s else none) (fun _ => rfl) (rg_gd h fun h => ?_)
        refine rg_step 5 (G' := fun f => if inb (x4 + (cI 2)) (ix (s.1 1021 0)) = true then evT f 539 2798 [oR 1020 0, oR 0 0, oR 549 0, oR 681 0, oI x4, nn, nn] [vI (s.1 1020 (ix (x4 + (cI 2)))), vI (s.1 1020 (ix (x4 + (cI 1)))), vR 0 0] s else none) (fun _ => rfl) (rg_gd h fun h => ?_)
        refine rg_step 1 (G' := fun f => ev_after (evT f 293 0 [oR 0 0, oI (s.1 1020 (ix (x4 + (cI 1)))), oI (s.1 1020 (ix (x4 + (cI 2))))] [] s) (fun q => evT f 539 2801 [oR 1020 0, oR 0 0, oR 549 0, oR 681 0, oI x4, nn, nn] (q.2 ++ []) q.1)) (fun _ => rfl) (rg_bd1 h fun v255 hc h => rg_call (q := cvP s v255) (T_fPH_lockerAt hc) ?_)
        refine rg_step 6 (G' := fun f => if inb (x4 + (cI 1)) (ix (s.1 1021 0)) = true then evT f 539 2808 [oR 1020 0, oR 0 0, oR 549 0, oR 681 0, oI x4, nn, nn] [vI (s.1 1020 (ix (x4 + (cI 1)))), vR 549 0, vI v255] s else none) (fun _ => rfl) (rg_gd h fun h => ?_)
        refine rg_step 5 (G' := fun f => if inb (x4 + (cI 2)) (ix (s.1 1021 0)) = true then evT f 539 2814 [oR 1020 0, oR 0 0, oR 549 0, oR 681 0, oI x4, nn, nn] [vI (s.1 1020 (ix (x4 + (cI 2)))), vI (s.1 1020 (ix (x4 + (cI 1)))), vR 549 0, vI v255] s else none) (fun _ => rfl) (rg_gd h fun h => ?_)
        refine rg_step 1 (G' := fun f => ev_after (evT f 514 0 [oR 549 0, oI (s.1 1020 (ix (x4 + (cI 1)))), oI (s.1 1020 (ix (x4 + (cI 2)))), nn, nn] [] s) (fun q => evT f 539 2817 [oR 1020 0, oR 0 0, oR 549 0, oR 681 0, oI x4, nn, nn] (q.2 ++ [vI v255]) q.1)) (fun _ => rfl) (rg_bd2 h fun s256 v257 hc h => rg_call (q := cvI (s256, v257)) (T_fM_lockerAt hc) ?_)
        refine rg_step 1 (G' := fun f => if v255 = v257 then evT f 539 3122 [oR 1020 0, oR 0 0, oR 549 0, oR 681 0, oI x4, nn, nn] [] s256 else evT f 539 2820 [oR 1020 0, oR 0 0, oR 549 0, oR 681 0, oI x4, nn, nn] [] s256) (fun _ => rfl) (rg_if h (fun h => ?_) fun h => ?_)
        · exact (t_fLaw_b3122 hk23) h
        · exact rg_end 2 (fun _ => rfl) (by cases h; rfl)
      refine rg_if h (fun h => ?_) fun h => ?_
      · refine rg_step 6 (G' := fun f => if inb (x4 + (cI 1)) (ix (s.1 1021 0)) = true then evT f 539 2829 [oR 1020 0, oR 0 0, oR 549 0, oR 681 0, oI x4, nn, nn] [vI (s.1 1020 (ix (x4 + (cI 1)))), vR 0 0] s else none) (fun _ => rfl) (rg_gd h fun h => ?_)
        refine rg_step 5 (G' := fun f => if inb (x4 + (cI 2)) (ix (s.1 1021 0)) = true then evT f 539 2835 [oR 1020 0, oR 0 0, oR 549 0, oR 681 0, oI x4, nn, nn] [vI (s.1 1020 (ix (x4 + (cI 2)))), vI (s.1 1020 (ix (x4 + (cI 1)))), vR 0 0] s else none) (fun _ => rfl) (rg_gd h fun h => ?_)
        refine rg_step 1 (G' := fun f => ev_after (evT f 294 0 [oR 0 0, oI (s.1 1020 (ix (x4 + (cI 1)))), oI (s.1 1020 (ix (x4 + (cI 2))))] [] s) (fun q => evT f 539 2838 [oR 1020 0, oR 0 0, oR 549 0, oR 681 0, oI x4, nn, nn] (q.2 ++ []) q.1)) (fun _ => rfl) (rg_bd2 h fun s258 v259 hc h => rg_call (q := cvI (s258, v259)) (T_fPH_device hc) ?_)
        refine rg_step 6 (G' := fun f => if inb (x4 + (cI 1)) (ix (s258.1 1021 0)) = true then evT f 539 2845 [oR 1020 0, oR 0 0, oR 549 0, oR 681 0, oI x4, nn, nn] [vI (s258.1 1020 (ix (x4 + (cI 1)))), vR 549 0, vI v259] s258 else none) (fun _ => rfl) (rg_gd h fun h => ?_)
        refine rg_step 5 (G' := fun f => if inb (x4 + (cI 2)) (ix (s258.1 1021 0)) = true then evT f 539 2851 [oR 1020 0, oR 0 0, oR 549 0, oR 681 0, oI x4, nn, nn] [vI (s258.1 1020 (ix (x4 + (cI 2)))), vI (s258.1 1020 (ix (x4 + (cI 1)))), vR 549 0, vI v259] s258 else none) (fun _ => rfl) (rg_gd h fun h => ?_)
        refine rg_step 1 (G' := fun f => ev_after (evT f 516 0 [oR 549 0, oI (s258.1 1020 (ix (x4 + (cI 1)))), oI (s258.1 1020 (ix (x4 + (cI 2))))] [] s258) (fun q => evT f 539 2854 [oR 1020 0, oR 0 0, oR 549 0, oR 681 0, oI x4, nn, nn] (q.2 ++ [vI v259]) q.1)) (fun _ => rfl) (rg_bd2 h fun s260 v261 hc h => rg_call (q := cvI (s260, v261)) (T_fM_device hc) ?_)
        refine rg_step 1 (G' := fun f => if v259 = v261 then evT f 539 3122 [oR 1020 0, oR 0 0, oR 549 0, oR 681 0, oI x4, nn, nn] [] s260 else evT f 539 2857 [oR 1020 0, oR 0 0, oR 549 0, oR 681 0, oI x4, nn, nn] [] s260) (fun _ => rfl) (rg_if h (fun h => ?_) fun h => ?_)
        · exact (t_fLaw_b3122 hk23) h
        · exact rg_end 2 (fun _ => rfl) (by cases h; rfl)
      refine rg_if h (fun h => ?_) fun h => ?_
      · refine rg_step 6 (G' := fun f => if inb (x4 + (cI 1)) (ix (s.1 1021 0)) = true then evT f 539 2866 [oR 1020 0, oR 0 0, oR 549 0, oR 681 0, oI x4, nn, nn] [vI (s.1 1020 (ix (x4 + (cI 1)))), vR 0 0] s else none) (fun _ => rfl) (rg_gd h fun h => ?_)
        refine rg_step 5 (G' := fun f => if inb (x4 + (cI 2)) (ix (s.1 1021 0)) = true then evT f 539 2872 [oR 1020 0, oR 0 0, oR 549 0, oR 681 0, oI x4, nn, nn] [vI (s.1 1020 (ix (x4 + (cI 2)))), vI (s.1 1020 (ix (x4 + (cI 1)))), vR 0 0] s else none) (fun _ => rfl) (rg_gd h fun h => ?_)
        refine rg_step 5 (G' := fun f => if inb (x4 + (cI 3)) (ix (s.1 1021 0)) = true then evT f 539 2878 [oR 1020 0, oR 0 0, oR 549 0, oR 681 0, oI x4, nn, nn] [vI (s.1 1020 (ix (x4 + (cI 3)))), vI (s.1 1020 (ix (x4 + (cI 2)))), vI (s.1 1020 (ix (x4 + (cI 1)))), vR 0 0] s else none) (fun _ => rfl) (rg_gd h fun h => ?_)
        refine rg_step 5 (G' := fun f => if inb (x4 + (cI 4)) (ix (s.1 1021 0)) = true then evT f 539 2884 [oR 1020 0, oR 0 0, oR 549 0, oR 681 0, oI x4, nn, nn] [vI (s.1 1020 (ix (x4 + (cI 4)))), vI (s.1 1020 (ix (x4 + (cI 3)))), vI (s.1 1020 (ix (x4 + (cI 2)))), vI (s.1 1020 (ix (x4 + (cI 1)))), vR 0 0] s else none) (fun _ => rfl) (rg_gd h fun h => ?_)
        refine rg_step 1 (G' := fun f => ev_after (evT f 295 0 [oR 0 0, oI (s.1 1020 (ix (x4 + (cI 1)))), oI (s.1 1020 (ix (x4 + (cI 2)))), oI (s.1 1020 (ix (x4 + (cI 3)))), oI (s.1 1020 (ix (x4 + (cI 4))))] [] s) (fun q => evT f 539 2887 [oR 1020 0, oR 0 0, oR 549 0, oR 681 0, oI x4, nn, nn] (q.2 ++ []) q.1)) (fun _ => rfl) (rg_bd2 h fun s262 v263 hc h => rg_call (q := cvI (s262, v263)) (T_fPH_scanned hc) ?_)
        refine rg_step 6 (G' := fun f => if inb (x4 + (cI 1)) (ix (s262.1 1021 0)) = true then evT f 539 2894 [oR 1020 0, oR 0 0, oR 549 0, oR 681 0, oI x4, nn, nn] [vI (s262.1 1020 (ix (x4 + (cI 1)))), vR 549 0, vI v263] s262 else none) (fun _ => rfl) (rg_gd h fun h => ?_)
        refine rg_step 5 (G' := fun f => if inb (x4 + (cI 2)) (ix (s262.1 1021 0)) = true then evT f 539 2900 [oR 1020 0, oR 0 0, oR 549 0, oR 681 0, oI x4, nn, nn] [vI (s262.1 1020 (ix (x4 + (cI 2)))), vI (s262.1 1020 (ix (x4 + (cI 1)))), vR 549 0, vI v263] s262 else none) (fun _ => rfl) (rg_gd h fun h => ?_)
        refine rg_step 5 (G' := fun f => if inb (x4 + (cI 3)) (ix (s262.1 1021 0)) = true then evT f 539 2906 [oR 1020 0, oR 0 0, oR 549 0, oR 681 0, oI x4, nn, nn] [vI (s262.1 1020 (ix (x4 + (cI 3)))), vI (s262.1 1020 (ix (x4 + (cI 2)))), vI (s262.1 1020 (ix (x4 + (cI 1)))), vR 549 0, vI v263] s262 else none) (fun _ => rfl) (rg_gd h fun h => ?_)
        refine rg_step 5 (G' := fun f => if inb (x4 + (cI 4)) (ix (s262.1 1021 0)) = true then evT f 539 2912 [oR 1020 0, oR 0 0, oR 549 0, oR 681 0, oI x4, nn, nn] [vI (s262.1 1020 (ix (x4 + (cI 4)))), vI (s262.1 1020 (ix (x4 + (cI 3)))), vI (s262.1 1020 (ix (x4 + (cI 2)))), vI (s262.1 1020 (ix (x4 + (cI 1)))), vR 549 0, vI v263] s262 else none) (fun _ => rfl) (rg_gd h fun h => ?_)
        refine rg_step 1 (G' := fun f => ev_after (evT f 518 0 [oR 549 0, oI (s262.1 1020 (ix (x4 + (cI 1)))), oI (s262.1 1020 (ix (x4 + (cI 2)))), oI (s262.1 1020 (ix (x4 + (cI 3)))), oI (s262.1 1020 (ix (x4 + (cI 4))))] [] s262) (fun q => evT f 539 2915 [oR 1020 0, oR 0 0, oR 549 0, oR 681 0, oI x4, nn, nn] (q.2 ++ [vI v263]) q.1)) (fun _ => rfl) (rg_bd2 h fun s264 v265 hc h => rg_call (q := cvI (s264, v265)) (T_fM_scanned hc) ?_)
        refine rg_step 1 (G' := fun f => if v263 = v265 then evT f 539 3122 [oR 1020 0, oR 0 0, oR 549 0, oR 681 0, oI x4, nn, nn] [] s264 else evT f 539 2918 [oR 1020 0, oR 0 0, oR 549 0, oR 681 0, oI x4, nn, nn] [] s264) (fun _ => rfl) (rg_if h (fun h => ?_) fun h => ?_)
        · exact (t_fLaw_b3122 hk23) h
        · exact rg_end 2 (fun _ => rfl) (by cases h; rfl)
      refine rg_if h (fun h => ?_) fun h => ?_
      · refine rg_step 6 (G' := fun f => if inb (x4 + (cI 1)) (ix (s.1 1021 0)) = true then evT f 539 2927 [oR 1020 0, oR 0 0, oR 549 0, oR 681 0, oI x4, nn, nn] [vI (s.1 1020 (ix (x4 + (cI 1)))), vR 0 0] s else none) (fun _ => rfl) (rg_gd h fun h => ?_)
        refine rg_step 5 (G' := fun f => if inb (x4 + (cI 2)) (ix (s.1 1021 0)) = true then evT f 539 2933 [oR 1020 0, oR 0 0, oR 549 0, oR 681 0, oI x4, nn, nn] [vI (s.1 1020 (ix (x4 + (cI 2)))), vI (s.1 1020 (ix (x4 + (cI 1)))), vR 0 0] s else none) (fun _ => rfl) (rg_gd h fun h => ?_)
        refine rg_step 5 (G' := fun f => if inb (x4 + (cI 3)) (ix (s.1 1021 0)) = true then evT f 539 2939 [oR 1020 0, oR 0 0, oR 549 0, oR 681 0, oI x4, nn, nn] [vI (s.1 1020 (ix (x4 + (cI 3)))), vI (s.1 1020 (ix (x4 + (cI 2)))), vI (s.1 1020 (ix (x4 + (cI 1)))), vR 0 0] s else none) (fun _ => rfl) (rg_gd h fun h => ?_)
        refine rg_step 1 (G' := fun f => ev_after (evT f 296 0 [oR 0 0, oI (s.1 1020 (ix (x4 + (cI 1)))), oI (s.1 1020 (ix (x4 + (cI 2)))), oI (s.1 1020 (ix (x4 + (cI 3))))] [] s) (fun q => evT f 539 2942 [oR 1020 0, oR 0 0, oR 549 0, oR 681 0, oI x4, nn, nn] (q.2 ++ []) q.1)) (fun _ => rfl) (rg_bd1 h fun v266 hc h => rg_call (q := cvP s v266) (T_fPH_trace hc) ?_)
        refine rg_step 6 (G' := fun f => if inb (x4 + (cI 1)) (ix (s.1 1021 0)) = true then evT f 539 2949 [oR 1020 0, oR 0 0, oR 549 0, oR 681 0, oI x4, nn, nn] [vI (s.1 1020 (ix (x4 + (cI 1)))), vR 549 0, vI v266] s else none) (fun _ => rfl) (rg_gd h fun h => ?_)
        refine rg_step 5 (G' := fun f => if inb (x4 + (cI 2)) (ix (s.1 1021 0)) = true then evT f 539 2955 [oR 1020 0, oR 0 0, oR 549 0, oR 681 0, oI x4, nn, nn] [vI (s.1 1020 (ix (x4 + (cI 2)))), vI (s.1 1020 (ix (x4 + (cI 1)))), vR 549 0, vI v266] s else none) (fun _ => rfl) (rg_gd h fun h => ?_)
        refine rg_step 5 (G' := fun f => if inb (x4 + (cI 3)) (ix (s.1 1021 0)) = true then evT f 539 2961 [oR 1020 0, oR 0 0, oR 549 0, oR 681 0, oI x4, nn, nn] [vI (s.1 1020 (ix (x4 + (cI 3)))), vI (s.1 1020 (ix (x4 + (cI 2)))), vI (s.1 1020 (ix (x4 + (cI 1)))), vR 549 0, vI v266] s else none) (fun _ => rfl) (rg_gd h fun h => ?_)
        refine rg_step 1 (G' := fun f => ev_after (evT f 519 0 [oR 549 0, oI (s.1 1020 (ix (x4 + (cI 1)))), oI (s.1 1020 (ix (x4 + (cI 2)))), oI (s.1 1020 (ix (x4 + (cI 3)))), nn, nn, nn, nn, nn, nn] [] s) (fun q => evT f 539 2964 [oR 1020 0, oR 0 0, oR 549 0, oR 681 0, oI x4, nn, nn] (q.2 ++ [vI v266]) q.1)) (fun _ => rfl) (rg_bd2 h fun s267 v268 hc h => rg_call (q := cvI (s267, v268)) (T_fM_trace hc) ?_)
        refine rg_step 1 (G' := fun f => if v266 = v268 then evT f 539 3122 [oR 1020 0, oR 0 0, oR 549 0, oR 681 0, oI x4, nn, nn] [] s267 else evT f 539 2967 [oR 1020 0, oR 0 0, oR 549 0, oR 681 0, oI x4, nn, nn] [] s267) (fun _ => rfl) (rg_if h (fun h => ?_) fun h => ?_)
        · exact (t_fLaw_b3122 hk23) h
        · exact rg_end 2 (fun _ => rfl) (by cases h; rfl)
      refine rg_if h (fun h => ?_) fun h => ?_
      · refine rg_step 6 (G' := fun f => if inb (x4 + (cI 1)) (ix (s.1 1021 0)) = true then evT f 539 2976 [oR 1020 0, oR 0 0, oR 549 0, oR 681 0, oI x4, nn, nn] [vI (s.1 1020 (ix (x4 + (cI 1)))), vR 0 0] s else none) (fun _ => rfl) (rg_gd h fun h => ?_)
        refine rg_step 5 (G' := fun f => if inb (x4 + (cI 2)) (ix (s.1 1021 0)) = true then evT f 539 2982 [oR 1020 0, oR 0 0, oR 549 0, oR 681 0, oI x4, nn, nn] [vI (s.1 1020 (ix (x4 + (cI 2)))), vI (s.1 1020 (ix (x4 + (cI 1)))), vR 0 0] s else none) (fun _ => rfl) (rg_gd h fun h => ?_)
        refine rg_step 5 (G' := fun f => if inb (x4 + (cI 3)) (ix (s.1 1021 0)) = true then evT f 539 2988 [oR 1020 0, oR 0 0, oR 549 0, oR 681 0, oI x4, nn, nn] [vI (s.1 1020 (ix (x4 + (cI 3)))), vI (s.1 1020 (ix (x4 + (cI 2)))), vI (s.1 1020 (ix (x4 + (cI 1)))), vR 0 0] s else none) (fun _ => rfl) (rg_gd h fun h => ?_)
        refine rg_step 1 (G' := fun f => if (s.1 1020 (ix (x4 + (cI 3)))) = 0 then evT f 539 2995 [oR 1020 0, oR 0 0, oR 549 0, oR 681 0, oI x4, nn, nn] [vI (s.1 1020 (ix (x4 + (cI 2)))), vI (s.1 1020 (ix (x4 + (cI 1)))), vR 0 0] s else evT f 539 2991 [oR 1020 0, oR 0 0, oR 549 0, oR 681 0, oI x4, nn, nn] [vI (s.1 1020 (ix (x4 + (cI 2)))), vI (s.1 1020 (ix (x4 + (cI 1)))), vR 0 0] s) (fun _ => rfl) (rg_if h (fun h => ?_) fun h => ?_)
        · exact rg_step 1 (G' := fun f => evT f 539 2996 [oR 1020 0, oR 0 0, oR 549 0, oR 681 0, oI x4, nn, nn] [vI (cI 0), vI (s.1 1020 (ix (x4 + (cI 2)))), vI (s.1 1020 (ix (x4 + (cI 1)))), vR 0 0] s) (fun _ => rfl) ((t_fLaw_b2996 hk23) h)
        · exact rg_step 2 (G' := fun f => evT f 539 2996 [oR 1020 0, oR 0 0, oR 549 0, oR 681 0, oI x4, nn, nn] [vI (cI 1), vI (s.1 1020 (ix (x4 + (cI 2)))), vI (s.1 1020 (ix (x4 + (cI 1)))), vR 0 0] s) (fun _ => rfl) ((t_fLaw_b2996 hk23) h)
      refine rg_if h (fun h => ?_) fun h => ?_
      · refine rg_step 6 (G' := fun f => if inb (x4 + (cI 1)) (ix (s.1 1021 0)) = true then evT f 539 3041 [oR 1020 0, oR 0 0, oR 549 0, oR 681 0, oI x4, nn, nn] [vI (s.1 1020 (ix (x4 + (cI 1)))), vR 0 0] s else none) (fun _ => rfl) (rg_gd h fun h => ?_)
        refine rg_step 5 (G' := fun f => if inb (x4 + (cI 2)) (ix (s.1 1021 0)) = true then evT f 539 3047 [oR 1020 0, oR 0 0, oR 549 0, oR 681 0, oI x4, nn, nn] [vI (s.1 1020 (ix (x4 + (cI 2)))), vI (s.1 1020 (ix (x4 + (cI 1)))), vR 0 0] s else none) (fun _ => rfl) (rg_gd h fun h => ?_)
        refine rg_step 1 (G' := fun f => ev_after (evT f 298 0 [oR 0 0, oI (s.1 1020 (ix (x4 + (cI 1)))), oI (s.1 1020 (ix (x4 + (cI 2))))] [] s) (fun q => evT f 539 3050 [oR 1020 0, oR 0 0, oR 549 0, oR 681 0, oI x4, nn, nn] (q.2 ++ []) q.1)) (fun _ => rfl) (rg_bd1 h fun v269 hc h => rg_call (q := cvP s v269) (T_fPH_notice hc) ?_)
        refine rg_step 6 (G' := fun f => if inb (x4 + (cI 1)) (ix (s.1 1021 0)) = true then evT f 539 3057 [oR 1020 0, oR 0 0, oR 549 0, oR 681 0, oI x4, nn, nn] [vI (s.1 1020 (ix (x4 + (cI 1)))), vR 549 0, vI v269] s else none) (fun _ => rfl) (rg_gd h fun h => ?_)
        refine rg_step 5 (G' := fun f => if inb (x4 + (cI 2)) (ix (s.1 1021 0)) = true then evT f 539 3063 [oR 1020 0, oR 0 0, oR 549 0, oR 681 0, oI x4, nn, nn] [vI (s.1 1020 (ix (x4 + (cI 2)))), vI (s.1 1020 (ix (x4 + (cI 1)))), vR 549 0, vI v269] s else none) (fun _ => rfl) (rg_gd h fun h => ?_)
        refine rg_step 1 (G' := fun f => ev_after (evT f 522 0 [oR 549 0, oI (s.1 1020 (ix (x4 + (cI 1)))), oI (s.1 1020 (ix (x4 + (cI 2))))] [] s) (fun q => evT f 539 3066 [oR 1020 0, oR 0 0, oR 549 0, oR 681 0, oI x4, nn, nn] (q.2 ++ [vI v269]) q.1)) (fun _ => rfl) (rg_bd2 h fun s270 v271 hc h => rg_call (q := cvI (s270, v271)) (T_fM_notice hc) ?_)
        refine rg_step 1 (G' := fun f => if v269 = v271 then evT f 539 3122 [oR 1020 0, oR 0 0, oR 549 0, oR 681 0, oI x4, nn, nn] [] s270 else evT f 539 3069 [oR 1020 0, oR 0 0, oR 549 0, oR 681 0, oI x4, nn, nn] [] s270) (fun _ => rfl) (rg_if h (fun h => ?_) fun h => ?_)
        · exact (t_fLaw_b3122 hk23) h
        · exact rg_end 2 (fun _ => rfl) (by cases h; rfl)
      refine rg_if h (fun h => ?_) fun h => ?_
      · refine rg_step 6 (G' := fun f => if inb (x4 + (cI 1)) (ix (s.1 1021 0)) = true then evT f 539 3078 [oR 1020 0, oR 0 0, oR 549 0, oR 681 0, oI x4, nn, nn] [vI (s.1 1020 (ix (x4 + (cI 1)))), vR 0 0] s else none) (fun _ => rfl) (rg_gd h fun h => ?_)
        refine rg_step 1 (G' := fun f => ev_after (evT f 299 0 [oR 0 0, oI (s.1 1020 (ix (x4 + (cI 1))))] [] s) (fun q => evT f 539 3081 [oR 1020 0, oR 0 0, oR 549 0, oR 681 0, oI x4, nn, nn] (q.2 ++ []) q.1)) (fun _ => rfl) (rg_bd2 h fun s272 v273 hc h => rg_call (q := cvI (s272, v273)) (T_fPH_tick hc) ?_)
        refine rg_step 6 (G' := fun f => if inb (x4 + (cI 1)) (ix (s272.1 1021 0)) = true then evT f 539 3088 [oR 1020 0, oR 0 0, oR 549 0, oR 681 0, oI x4, nn, nn] [vI (s272.1 1020 (ix (x4 + (cI 1)))), vR 549 0, vI v273] s272 else none) (fun _ => rfl) (rg_gd h fun h => ?_)
        refine rg_step 1 (G' := fun f => ev_after (evT f 527 0 [oR 549 0, oI (s272.1 1020 (ix (x4 + (cI 1))))] [] s272) (fun q => evT f 539 3091 [oR 1020 0, oR 0 0, oR 549 0, oR 681 0, oI x4, nn, nn] (q.2 ++ [vI v273]) q.1)) (fun _ => rfl) (rg_bd2 h fun s274 v275 hc h => rg_call (q := cvI (s274, v275)) (T_fM_tick hc) ?_)
        refine rg_step 1 (G' := fun f => if v273 = v275 then evT f 539 3122 [oR 1020 0, oR 0 0, oR 549 0, oR 681 0, oI x4, nn, nn] [] s274 else evT f 539 3094 [oR 1020 0, oR 0 0, oR 549 0, oR 681 0, oI x4, nn, nn] [] s274) (fun _ => rfl) (rg_if h (fun h => ?_) fun h => ?_)
        · exact (t_fLaw_b3122 hk23) h
        · exact rg_end 2 (fun _ => rfl) (by cases h; rfl)
      refine rg_if h (fun h => ?_) fun h => ?_
      · refine rg_step 2 (G' := fun f => ev_after (evT f 300 0 [oR 0 0] [] s) (fun q => evT f 539 3100 [oR 1020 0, oR 0 0, oR 549 0, oR 681 0, oI x4, nn, nn] (q.2 ++ []) q.1)) (fun _ => rfl) (rg_bd1 h fun v276 hc h => rg_call (q := cvP s v276) (T_fPH_now hc) ?_)
        refine rg_step 2 (G' := fun f => ev_after (evT f 528 0 [oR 549 0] [] s) (fun q => evT f 539 3104 [oR 1020 0, oR 0 0, oR 549 0, oR 681 0, oI x4, nn, nn] (q.2 ++ [vI v276]) q.1)) (fun _ => rfl) (rg_bd2 h fun s277 v278 hc h => rg_call (q := cvI (s277, v278)) (T_fM_now hc) ?_)
        refine rg_step 1 (G' := fun f => if v276 = v278 then evT f 539 3122 [oR 1020 0, oR 0 0, oR 549 0, oR 681 0, oI x4, nn, nn] [] s277 else evT f 539 3107 [oR 1020 0, oR 0 0, oR 549 0, oR 681 0, oI x4, nn, nn] [] s277) (fun _ => rfl) (rg_if h (fun h => ?_) fun h => ?_)
        · exact (t_fLaw_b3122 hk23) h
        · exact rg_end 2 (fun _ => rfl) (by cases h; rfl)
      refine rg_if h (fun h => ?_) fun h => ?_
      · refine rg_step 2 (G' := fun f => ev_after (evT f 301 0 [oR 0 0] [] s) (fun q => evT f 539 3113 [oR 1020 0, oR 0 0, oR 549 0, oR 681 0, oI x4, nn, nn] (q.2 ++ []) q.1)) (fun _ => rfl) (rg_bd2 h fun s279 v280 hc h => rg_call (q := cvI (s279, v280)) (T_fPH_audit hc) ?_)
        refine rg_step 2 (G' := fun f => ev_after (evT f 529 0 [oR 549 0] [] s279) (fun q => evT f 539 3117 [oR 1020 0, oR 0 0, oR 549 0, oR 681 0, oI x4, nn, nn] (q.2 ++ [vI v280]) q.1)) (fun _ => rfl) (rg_bd2 h fun s281 v282 hc h => rg_call (q := cvI (s281, v282)) (T_fM_audit hc) ?_)
        refine rg_step 1 (G' := fun f => if v280 = v282 then evT f 539 3122 [oR 1020 0, oR 0 0, oR 549 0, oR 681 0, oI x4, nn, nn] [] s281 else evT f 539 3120 [oR 1020 0, oR 0 0, oR 549 0, oR 681 0, oI x4, nn, nn] [] s281) (fun _ => rfl) (rg_if h (fun h => ?_) fun h => ?_)
        · exact (t_fLaw_b3122 hk23) h
        · exact rg_end 2 (fun _ => rfl) (by cases h; rfl)
      exact (t_fLaw_b3122 hk23) h
    · exact rg_end 2 (fun _ => rfl) (by cases h; rfl)
theorem t_fLaw_h23 {n : Nat} {s : ev_M} {x4 : Int32} {j5 : Option ev_V} {j6 : Option ev_V} {q : ev_M × Int32} (h : fLaw_h23 n s x4 = some q) : RR 539 23 [oR 1020 0, oR 0 0, oR 549 0, oR 681 0, oI x4, j5, j6] [] s (cvI q) := ti_fLaw_h23 n s x4 j5 j6 q h
