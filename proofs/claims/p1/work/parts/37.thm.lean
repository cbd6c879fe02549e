/-! ===== the interpreter does what the functions say, 6 ===== -/
theorem t_fLog_writeAll_b37 {k10 : ev_M → Int32 → Int32 → Option (ev_M × Int32)} (hk10 : ∀ {s : ev_M} {x1 : Int32} {x2 : Int32} {q : ev_M × Int32}, k10 s x1 x2 = some q → RR 128 10 [oR 9 0, oI x1, oI x2] [] s (cvI q)) {s : ev_M} {x1 : Int32} {x2 : Int32} {y1 : Int32} {y2 : Int32} {y3 : Int32} {q : ev_M × Int32} (h : fLog_writeAll_b37 k10 s x1 x2 y1 y2 y3 = some q) : RR 128 37 [oR 9 0, oI x1, oI x2] [vI y3, vI y2, vI y1, vR 9 0] s (cvI q) := by
  refine rg_step 1 (G' := fun f => ev_after (evT f 129 0 [oR 9 0, oI y1, oI y2, oI y3, nn, nn, nn, nn] [] s) (fun q => evT f 128 40 [oR 9 0, oI x1, oI x2] (q.2 ++ []) q.1)) (fun _ => rfl) (rg_bd1 h fun s1 hc h => rg_call (q := cvV s1) (T_fLog_makeBlock hc) ?_)
  refine rg_step 8 (G' := fun f => ev_after (evT f 130 0 [oR 9 0, oI (((s1.1 9 4) + x2) + (cI 1)), nn] [] s1) (fun q => evT f 128 52 [oR 9 0, oI x1, oI x2] (q.2 ++ []) q.1)) (fun _ => rfl) (rg_bd2 h fun s2 v3 hc h => rg_call (q := cvI (s2, v3)) (T_fLog_writes hc) ?_)
  refine rg_step 1 (G' := fun f => if v3 = 0 then evT f 128 55 [oR 9 0, oI x1, oI x2] [] s2 else evT f 128 63 [oR 9 0, oI x1, oI x2] [] s2) (fun _ => rfl) (rg_if h (fun h => ?_) fun h => ?_)
  · refine rg_step 3 (G' := fun f => evT f 128 60 [oR 9 0, oI x1, oI x2] [] (wI s2 9 9 (cI 1))) (fun _ => rfl) (rg_ltM h fun s4 h => ?_)
    exact rg_end 2 (fun _ => rfl) (by cases h; rfl)
  · exact rg_step 2 (G' := fun f => evT f 128 10 [oR 9 0, oI x1, oI (x2 + cI 1)] [] s2) (fun _ => rfl) (hk10 h)
theorem ti_fLog_writeAll_h10 : ∀ (n : Nat) (s : ev_M) (x1 : Int32) (x2 : Int32) (q : ev_M × Int32), fLog_writeAll_h10 n s x1 x2 = some q → RR 128 10 [oR 9 0, oI x1, oI x2] [] s (cvI q) := by
  intro n
  induction n with
  | zero => intro s x1 x2 q h; cases h
  | succ n ih =>
    have hk10 : ∀ {s : ev_M} {x1 : Int32} {x2 : Int32} {q : ev_M × Int32}, fLog_writeAll_h10 n s x1 x2 = some q → RR 128 10 [oR 9 0, oI x1, oI x2] [] s (cvI q) := fun h => ih _ _ _ _ h
    intro s x1 x2 q h
    refine rg_step 3 (G' := fun f => if x2 < x1 then evT f 128 15 [oR 9 0, oI x1, oI x2] [] s else evT f 128 69 [oR 9 0, oI x1, oI x2] [] s) (fun _ => rfl) (rg_if h (fun h => ?_) fun h => ?_)
    · refine rg_step 13 (G' := fun f => if x2 = (x1 - (cI 1)) then evT f 128 32 [oR 9 0, oI x1, oI x2] [vI (((s.1 9 4) + x2) + (cI 1)), vI x2, vR 9 0] s else evT f 128 36 [oR 9 0, oI x1, oI x2] [vI (((s.1 9 4) + x2) + (cI 1)), vI x2, vR 9 0] s) (fun _ => rfl) (rg_if h (fun h => ?_) fun h => ?_)
      · exact rg_step 2 (G' := fun f => evT f 128 37 [oR 9 0, oI x1, oI x2] [vI (cI 1), vI (((s.1 9 4) + x2) + (cI 1)), vI x2, vR 9 0] s) (fun _ => rfl) ((t_fLog_writeAll_b37 hk10) h)
      · exact rg_step 1 (G' := fun f => evT f 128 37 [oR 9 0, oI x1, oI x2] [vI (cI 0), vI (((s.1 9 4) + x2) + (cI 1)), vI x2, vR 9 0] s) (fun _ => rfl) ((t_fLog_writeAll_b37 hk10) h)
    · refine rg_step 6 (G' := fun f => evT f 128 79 [oR 9 0, oI x1, oI x2] [] (wI s 9 4 ((s.1 9 4) + x1))) (fun _ => rfl) (rg_ltM h fun s5 h => ?_)
      refine rg_step 3 (G' := fun f => evT f 128 84 [oR 9 0, oI x1, oI x2] [] (wI s5 9 6 (cI 0))) (fun _ => rfl) (rg_ltM h fun s6 h => ?_)
      refine rg_step 3 (G' := fun f => evT f 128 89 [oR 9 0, oI x1, oI x2] [] (wI s6 9 7 (cI 0))) (fun _ => rfl) (rg_ltM h fun s7 h => ?_)
      exact rg_end 2 (fun _ => rfl) (by cases h; rfl)
theorem t_fLog_writeAll_h10 {n : Nat} {s : ev_M} {x1 : Int32} {x2 : Int32} {q : ev_M × Int32} (h : fLog_writeAll_h10 n s x1 x2 = some q) : RR 128 10 [oR 9 0, oI x1, oI x2] [] s (cvI q) := ti_fLog_writeAll_h10 n s x1 x2 q h
theorem T_fLog_writeAll {s : ev_M} {q : ev_M × Int32} (h : fLog_writeAll s = some q) : RR 128 0 [oR 9 0, nn, nn] [] s (cvI q) := by
  refine rg_step 3 (G' := fun f => ev_after (evT f 127 0 [oI (s.1 9 6)] [] s) (fun q => evT f 128 7 [oR 9 0, nn, nn] (q.2 ++ []) q.1)) (fun _ => rfl) (rg_bd1 h fun v8 hc h => rg_call (q := cvP s v8) (T_fLog_blocksFor hc) ?_)
  exact rg_step 3 (G' := fun f => evT f 128 10 [oR 9 0, oI v8, oI (cI 0)] [] s) (fun _ => rfl) ((t_fLog_writeAll_h10) h)
theorem T_fPH_sync {s : ev_M} {q : ev_M × Int32} (h : fPH_sync s = some q) : RR 231 0 [oR 0 0] [] s (cvI q) := by
  refine rg_step 4 (G' := fun f => if (s.1 9 9) = 0 then evT f 231 15 [oR 0 0] [] s else evT f 231 10 [oR 0 0] [] s) (fun _ => rfl) (rg_if h (fun h => ?_) fun h => ?_)
  · refine rg_step 3 (G' := fun f => ev_after (evT f 128 0 [oR 9 0, nn, nn] [] s) (fun q => evT f 231 22 [oR 0 0] (q.2 ++ []) q.1)) (fun _ => rfl) (rg_bd2 h fun s1 v2 hc h => rg_call (q := cvI (s1, v2)) (T_fLog_writeAll hc) ?_)
    exact rg_end 1 (fun _ => rfl) (by cases h; rfl)
  · exact rg_end 3 (fun _ => rfl) (by cases h; rfl)
theorem ti_fM_sum_556_h4 {s : ev_M} : ∀ (n : Nat) (x1 : Int32) (x2 : Int32) (x3 : Int32) (j4 : Option ev_V) (q : Int32), fM_sum_556_h4 s n x1 x2 x3 = some q → RR 326 4 [oR 556 0, oI x1, oI x2, oI x3, j4] [] s (cvP s q) := by
  intro n
  induction n with
  | zero => intro x1 x2 x3 j4 q h; cases h
  | succ n ih =>
    have hk4 : ∀ {x1 : Int32} {x2 : Int32} {x3 : Int32} {j4 : Option ev_V} {q : Int32}, fM_sum_556_h4 s n x1 x2 x3 = some q → RR 326 4 [oR 556 0, oI x1, oI x2, oI x3, j4] [] s (cvP s q) := fun h => ih _ _ _ _ _ h
    intro x1 x2 x3 j4 q h
    refine rg_step 5 (G' := fun f => if x3 < (x1 + (cI 252)) then evT f 326 13 [oR 556 0, oI x1, oI x2, oI x3, nn] [] s else evT f 326 45 [oR 556 0, oI x1, oI x2, oI x3, nn] [] s) (fun _ => rfl) (rg_if h (fun h => ?_) fun h => ?_)
    · refine rg_step 4 (G' := fun f => if inb x3 256 = true then evT f 326 17 [oR 556 0, oI x1, oI x2, oI x3, nn] [vI (s.1 556 (ix x3)), vI x2] s else none) (fun _ => rfl) (rg_gd h fun h => ?_)
      refine rg_step 4 (G' := fun f => evT f 326 24 [oR 556 0, oI x1, oI x2, oI x3, oI (x2 ^^^ ((s.1 556 (ix x3)) &&& (cI 255)))] [] s) (fun _ => rfl) (rg_ltI (P := fun v1 => RG (fun f => evT f 326 24 [oR 556 0, oI x1, oI x2, oI x3, oI v1] [] s) (cvP s q)) h fun v1 h => ?_)
      refine rg_step 7 (G' := fun f => evT f 326 34 [oR 556 0, oI x1, oI x2, oI x3, oI v1] [vI ((v1 <<< ((cI 3) &&& 31)) ||| (iushr v1 (cI 29)))] s) (fun _ => rfl) ?_
      refine rg_step 1 (G' := fun f => evT f 326 37 [oR 556 0, oI x1, oI x2, oI x3, oI v1] [vI (cI (-2048144777)), vI ((v1 <<< ((cI 3) &&& 31)) ||| (iushr v1 (cI 29)))] s) (fun f => ev_ldcw (f := f) (M := 326) (pc := 34) (idx := 487) (r := (-2048144777)) rfl (by decide)) ?_
      refine rg_step 1 (G' := fun f => evT f 326 38 [oR 556 0, oI x1, oI x2, oI x3, oI v1] [vI (((v1 <<< ((cI 3) &&& 31)) ||| (iushr v1 (cI 29))) * (cI (-2048144777)))] s) (fun f => ev_mul1 (f := f) (M := 326) (pc := 37) rfl) ?_
      refine rg_step 1 (G' := fun f => evT f 326 39 [oR 556 0, oI x1, oI (((v1 <<< ((cI 3) &&& 31)) ||| (iushr v1 (cI 29))) * (cI (-2048144777))), oI x3, oI v1] [] s) (fun _ => rfl) (rg_ltI (P := fun v2 => RG (fun f => evT f 326 39 [oR 556 0, oI x1, oI v2, oI x3, oI v1] [] s) (cvP s q)) h fun v2 h => ?_)
      exact rg_step 2 (G' := fun f => evT f 326 4 [oR 556 0, oI x1, oI v2, oI (x3 + cI 1), oI v1] [] s) (fun _ => rfl) (hk4 h)
    · exact rg_end 2 (fun _ => rfl) (by cases h; rfl)
theorem t_fM_sum_556_h4 {s : ev_M} {n : Nat} {x1 : Int32} {x2 : Int32} {x3 : Int32} {j4 : Option ev_V} {q : Int32} (h : fM_sum_556_h4 s n x1 x2 x3 = some q) : RR 326 4 [oR 556 0, oI x1, oI x2, oI x3, j4] [] s (cvP s q) := ti_fM_sum_556_h4 n x1 x2 x3 j4 q h
theorem T_fM_sum_556 {s : ev_M} {a1 : Int32} {q : Int32} (h : fM_sum_556 s a1 = some q) : RR 326 0 [oR 556 0, oI a1, nn, nn, nn] [] s (cvP s q) := by
  exact rg_step 4 (G' := fun f => evT f 326 4 [oR 556 0, oI a1, oI (cI 0), oI a1, nn] [] s) (fun _ => rfl) ((t_fM_sum_556_h4) h)
theorem t_fM_make_b65 {k21 : ev_M → Int32 → Int32 → Int32 → Int32 → Int32 → Option ev_M} (hk21 : ∀ {s : ev_M} {x1 : Int32} {x2 : Int32} {x3 : Int32} {x4 : Int32} {x5 : Int32} {j6 : Option ev_V} {q : ev_M}, k21 s x1 x2 x3 x4 x5 = some q → RR 328 21 [oR 549 0, oI x1, oI x2, oI x3, oI x4, oI x5, j6] [] s (cvV q)) {s : ev_M} {x1 : Int32} {x2 : Int32} {x3 : Int32} {x4 : Int32} {x5 : Int32} {y1 : Int32} {y2 : Int32} {j6 : Option ev_V} {q : ev_M} (h : fM_make_b65 k21 s x1 x2 x3 x4 x5 y1 y2 = some q) : RR 328 65 [oR 549 0, oI x1, oI x2, oI x3, oI x4, oI x5, j6] [vI y2, vI y1, vR 556 0] s (cvV q) := by
  refine rg_step 1 (G' := fun f => if inb y1 256 = true then evT f 328 66 [oR 549 0, oI x1, oI x2, oI x3, oI x4, oI x5, nn] [] (wI s 556 (ix y1) (i2b y2)) else none) (fun _ => rfl) (rg_gd h fun h => rg_ltM h fun s1 h => ?_)
  exact rg_step 2 (G' := fun f => evT f 328 21 [oR 549 0, oI x1, oI x2, oI x3, oI x4, oI (x5 + cI 1), nn] [] s1) (fun _ => rfl) (hk21 h)
theorem t_fM_make_b64 {k21 : ev_M → Int32 → Int32 → Int32 → Int32 → Int32 → Option ev_M} (hk21 : ∀ {s : ev_M} {x1 : Int32} {x2 : Int32} {x3 : Int32} {x4 : Int32} {x5 : Int32} {j6 : Option ev_V} {q : ev_M}, k21 s x1 x2 x3 x4 x5 = some q → RR 328 21 [oR 549 0, oI x1, oI x2, oI x3, oI x4, oI x5, j6] [] s (cvV q)) {s : ev_M} {x1 : Int32} {x2 : Int32} {x3 : Int32} {x4 : Int32} {x5 : Int32} {y1 : Int32} {j6 : Option ev_V} {q : ev_M} (h : fM_make_b64 k21 s x1 x2 x3 x4 x5 y1 = some q) : RR 328 64 [oR 549 0, oI x1, oI x2, oI x3, oI x4, oI x5, j6] [vI y1, vR 556 0] s (cvV q) := by
  exact rg_step 1 (G' := fun f => evT f 328 65 [oR 549 0, oI x1, oI x2, oI x3, oI x4, oI x5, nn] [vI (cI 0), vI y1, vR 556 0] s) (fun _ => rfl) ((t_fM_make_b65 hk21) h)
theorem ti_fM_make_h129 : ∀ (n : Nat) (s : ev_M) (x5 : Int32) (x6 : Int32) (j1 : Option ev_V) (j2 : Option ev_V) (j3 : Option ev_V) (j4 : Option ev_V) (q : ev_M), fM_make_h129 n s x5 x6 = some q → RR 328 129 [oR 549 0, j1, j2, j3, j4, oI x5, oI x6] [] s (cvV q) := by
  intro n
  induction n with
  | zero => intro s x5 x6 j1 j2 j3 j4 q h; cases h
  | succ n ih =>
    have hk129 : ∀ {s : ev_M} {x5 : Int32} {x6 : Int32} {j1 : Option ev_V} {j2 : Option ev_V} {j3 : Option ev_V} {j4 : Option ev_V} {q : ev_M}, fM_make_h129 n s x5 x6 = some q → RR 328 129 [oR 549 0, j1, j2, j3, j4, oI x5, oI x6] [] s (cvV q) := fun h => ih _ _ _ _ _ _ _ _ h
    intro s x5 x6 j1 j2 j3 j4 q h
    refine rg_step 3 (G' := fun f => if x6 < (cI 4) then evT f 328 135 [oR 549 0, nn, nn, nn, nn, oI x5, oI x6] [] s else evT f 328 164 [oR 549 0, nn, nn, nn, nn, oI x5, oI x6] [] s) (fun _ => rfl) (rg_if h (fun h => ?_) fun h => ?_)
    · refine rg_step 14 (G' := fun f => if inb ((cI 252) + x6) 256 = true then evT f 328 158 [oR 549 0, nn, nn, nn, nn, oI x5, oI x6] [] (wI s 556 (ix ((cI 252) + x6)) (i2b (i2b (x5 >>> (((cI 24) - ((cI 8) * x6)) &&& 31))))) else none) (fun _ => rfl) (rg_gd h fun h => rg_ltM h fun s2 h => ?_)
      exact rg_step 2 (G' := fun f => evT f 328 129 [oR 549 0, nn, nn, nn, nn, oI x5, oI (x6 + cI 1)] [] s2) (fun _ => rfl) (hk129 h)
    · exact rg_end 1 (fun _ => rfl) (by cases h; rfl)
theorem t_fM_make_h129 {n : Nat} {s : ev_M} {x5 : Int32} {x6 : Int32} {j1 : Option ev_V} {j2 : Option ev_V} {j3 : Option ev_V} {j4 : Option ev_V} {q : ev_M} (h : fM_make_h129 n s x5 x6 = some q) : RR 328 129 [oR 549 0, j1, j2, j3, j4, oI x5, oI x6] [] s (cvV q) := ti_fM_make_h129 n s x5 x6 j1 j2 j3 j4 q h
theorem t_fM_make_b105 {s : ev_M} {x4 : Int32} {y1 : Int32} {y2 : Int32} {j1 : Option ev_V} {j2 : Option ev_V} {j3 : Option ev_V} {j5 : Option ev_V} {j6 : Option ev_V} {q : ev_M} (h : fM_make_b105 s x4 y1 y2 = some q) : RR 328 105 [oR 549 0, j1, j2, j3, oI x4, j5, j6] [vI y2, vI y1, vR 556 0] s (cvV q) := by
  refine rg_step 2 (G' := fun f => if inb y1 256 = true then evT f 328 107 [oR 549 0, nn, nn, nn, oI x4, nn, nn] [] (wI s 556 (ix y1) (i2b (i2b y2))) else none) (fun _ => rfl) (rg_gd h fun h => rg_ltM h fun s3 h => ?_)
  refine rg_step 6 (G' := fun f => evT f 328 116 [oR 549 0, nn, nn, nn, oI x4, nn, nn] [] (wI s3 556 (ix (cI 3)) (i2b (i2b x4)))) (fun _ => rfl) (rg_ltM h fun s4 h => ?_)
  refine rg_step 4 (G' := fun f => ev_after (evT f 326 0 [oR 556 0, oI (cI 0), nn, nn, nn] [] s4) (fun q => evT f 328 124 [oR 549 0, nn, nn, nn, oI x4, nn, nn] (q.2 ++ []) q.1)) (fun _ => rfl) (rg_bd1 h fun v5 hc h => rg_call (q := cvP s4 v5) (T_fM_sum_556 hc) ?_)
  exact rg_step 3 (G' := fun f => evT f 328 129 [oR 549 0, nn, nn, nn, oI x4, oI v5, oI (cI 0)] [] s4) (fun _ => rfl) ((t_fM_make_h129) h)
theorem ti_fM_make_h21 : ∀ (n : Nat) (s : ev_M) (x1 : Int32) (x2 : Int32) (x3 : Int32) (x4 : Int32) (x5 : Int32) (j6 : Option ev_V) (q : ev_M), fM_make_h21 n s x1 x2 x3 x4 x5 = some q → RR 328 21 [oR 549 0, oI x1, oI x2, oI x3, oI x4, oI x5, j6] [] s (cvV q) := by
  intro n
  induction n with
  | zero => intro s x1 x2 x3 x4 x5 j6 q h; cases h
  | succ n ih =>
    have hk21 : ∀ {s : ev_M} {x1 : Int32} {x2 : Int32} {x3 : Int32} {x4 : Int32} {x5 : Int32} {j6 : Option ev_V} {q : ev_M}, fM_make_h21 n s x1 x2 x3 x4 x5 = some q → RR 328 21 [oR 549 0, oI x1, oI x2, oI x3, oI x4, oI x5, j6] [] s (cvV q) := fun h => ih _ _ _ _ _ _ _ _ h
    intro s x1 x2 x3 x4 x5 j6 q h
    refine rg_step 3 (G' := fun f => if x5 < (cI 252) then evT f 328 29 [oR 549 0, oI x1, oI x2, oI x3, oI x4, oI x5, nn] [] s else evT f 328 72 [oR 549 0, oI x1, oI x2, oI x3, oI x4, oI x5, nn] [] s) (fun _ => rfl) (rg_if h (fun h => ?_) fun h => ?_)
    · refine rg_step 6 (G' := fun f => if x5 < (cI 4) then evT f 328 64 [oR 549 0, oI x1, oI x2, oI x3, oI x4, oI x5, nn] [vI x5, vR 556 0] s else evT f 328 41 [oR 549 0, oI x1, oI x2, oI x3, oI x4, oI x5, nn] [vI x5, vR 556 0] s) (fun _ => rfl) (rg_if h (fun h => ?_) fun h => ?_)
      · exact (t_fM_make_b64 hk21) h
      · refine rg_step 5 (G' := fun f => if x5 < (x4 + (cI 4)) then evT f 328 50 [oR 549 0, oI x1, oI x2, oI x3, oI x4, oI x5, nn] [vI x5, vR 556 0] s else evT f 328 64 [oR 549 0, oI x1, oI x2, oI x3, oI x4, oI x5, nn] [vI x5, vR 556 0] s) (fun _ => rfl) (rg_if h (fun h => ?_) fun h => ?_)
        · refine rg_step 8 (G' := fun f => if inb ((x2 + x5) - (cI 4)) 37200 = true then evT f 328 61 [oR 549 0, oI x1, oI x2, oI x3, oI x4, oI x5, nn] [vI (s.1 552 (ix ((x2 + x5) - (cI 4)))), vI x5, vR 556 0] s else none) (fun _ => rfl) (rg_gd h fun h => ?_)
          exact rg_step 1 (G' := fun f => evT f 328 65 [oR 549 0, oI x1, oI x2, oI x3, oI x4, oI x5, nn] [vI (s.1 552 (ix ((x2 + x5) - (cI 4)))), vI x5, vR 556 0] s) (fun _ => rfl) ((t_fM_make_b65 hk21) h)
        · exact (t_fM_make_b64 hk21) h
    · refine rg_step 8 (G' := fun f => evT f 328 83 [oR 549 0, oI x1, oI x2, oI x3, oI x4, oI x5, nn] [] (wI s 556 (ix (cI 0)) (i2b (i2b (x1 >>> ((cI 8) &&& 31)))))) (fun _ => rfl) (rg_ltM h fun s6 h => ?_)
      refine rg_step 6 (G' := fun f => evT f 328 91 [oR 549 0, oI x1, oI x2, oI x3, oI x4, oI x5, nn] [] (wI s6 556 (ix (cI 1)) (i2b (i2b x1)))) (fun _ => rfl) (rg_ltM h fun s7 h => ?_)
      refine rg_step 5 (G' := fun f => if x3 = 0 then evT f 328 104 [oR 549 0, oI x1, oI x2, oI x3, oI x4, oI x5, nn] [vI (cI 2), vR 556 0] s7 else evT f 328 100 [oR 549 0, oI x1, oI x2, oI x3, oI x4, oI x5, nn] [vI (cI 2), vR 556 0] s7) (fun _ => rfl) (rg_if h (fun h => ?_) fun h => ?_)
      · exact rg_step 1 (G' := fun f => evT f 328 105 [oR 549 0, oI x1, oI x2, oI x3, oI x4, oI x5, nn] [vI (cI 0), vI (cI 2), vR 556 0] s7) (fun _ => rfl) ((t_fM_make_b105) h)
      · exact rg_step 2 (G' := fun f => evT f 328 105 [oR 549 0, oI x1, oI x2, oI x3, oI x4, oI x5, nn] [vI (cI 1), vI (cI 2), vR 556 0] s7) (fun _ => rfl) ((t_fM_make_b105) h)
theorem t_fM_make_h21 {n : Nat} {s : ev_M} {x1 : Int32} {x2 : Int32} {x3 : Int32} {x4 : Int32} {x5 : Int32} {j6 : Option ev_V} {q : ev_M} (h : fM_make_h21 n s x1 x2 x3 x4 x5 = some q) : RR 328 21 [oR 549 0, oI x1, oI x2, oI x3, oI x4, oI x5, j6] [] s (cvV q) := ti_fM_make_h21 n s x1 x2 x3 x4 x5 j6 q h
theorem t_fM_make_b16 {s : ev_M} {x1 : Int32} {x2 : Int32} {x3 : Int32} {y0 : Int32} {j4 : Option ev_V} {j5 : Option ev_V} {j6 : Option ev_V} {q : ev_M} (h : fM_make_b16 s x1 x2 x3 y0 = some q) : RR 328 16 [oR 549 0, oI x1, oI x2, oI x3, j4, j5, j6] [vI y0] s (cvV q) := by
  exact rg_step 3 (G' := fun f => evT f 328 21 [oR 549 0, oI x1, oI x2, oI x3, oI y0, oI (cI 0), nn] [] s) (fun _ => rfl) ((t_fM_make_h21) h)
theorem T_fM_make {s : ev_M} {a1 : Int32} {a2 : Int32} {a3 : Int32} {q : ev_M} (h : fM_make s a1 a2 a3 = some q) : RR 328 0 [oR 549 0, oI a1, oI a2, oI a3, nn, nn, nn] [] s (cvV q) := by
  refine rg_step 2 (G' := fun f => if a3 = 0 then evT f 328 13 [oR 549 0, oI a1, oI a2, oI a3, nn, nn, nn] [] s else evT f 328 4 [oR 549 0, oI a1, oI a2, oI a3, nn, nn, nn] [] s) (fun _ => rfl) (rg_if h (fun h => ?_) fun h => ?_)
  · exact rg_step 1 (G' := fun f => evT f 328 16 [oR 549 0, oI a1, oI a2, oI a3, nn, nn, nn] [vI (cI 248)] s) (fun _ => rfl) ((t_fM_make_b16) h)
  · exact rg_step 5 (G' := fun f => evT f 328 16 [oR 549 0, oI a1, oI a2, oI a3, nn, nn, nn] [vI ((s.1 549 9) - a2)] s) (fun _ => rfl) ((t_fM_make_b16) h)
theorem t_fM_sync_b174 {k32 : ev_M → Int32 → Int32 → Option (ev_M × Int32)} (hk32 : ∀ {s : ev_M} {x1 : Int32} {x2 : Int32} {j3 : Option ev_V} {j4 : Option ev_V} {j5 : Option ev_V} {q : ev_M × Int32}, k32 s x1 x2 = some q → RR 329 32 [oR 549 0, oI x1, oI x2, j3, j4, j5] [] s (cvI q)) {s : ev_M} {x1 : Int32} {x2 : Int32} {y1 : Int32} {j3 : Option ev_V} {j4 : Option ev_V} {j5 : Option ev_V} {q : ev_M × Int32} (h : fM_sync_b174 k32 s x1 x2 y1 = some q) : RR 329 174 [oR 549 0, oI x1, oI x2, j3, j4, j5] [vI y1, vR 549 0] s (cvI q) := by
  refine rg_step 1 (G' := fun f => evT f 329 177 [oR 549 0, oI x1, oI x2, nn, nn, nn] [] (wI s 549 6 y1)) (fun _ => rfl) (rg_ltM h fun s1 h => ?_)
  exact rg_step 2 (G' := fun f => evT f 329 32 [oR 549 0, oI x1, oI (x2 + cI 1), nn, nn, nn] [] s1) (fun _ => rfl) (hk32 h)
theorem t_fM_sync_b140 {k32 : ev_M → Int32 → Int32 → Option (ev_M × Int32)} (hk32 : ∀ {s : ev_M} {x1 : Int32} {x2 : Int32} {j3 : Option ev_V} {j4 : Option ev_V} {j5 : Option ev_V} {q : ev_M × Int32}, k32 s x1 x2 = some q → RR 329 32 [oR 549 0, oI x1, oI x2, j3, j4, j5] [] s (cvI q)) {s : ev_M} {x1 : Int32} {x2 : Int32} {y1 : Int32} {y2 : Int32} {j3 : Option ev_V} {j4 : Option ev_V} {j5 : Option ev_V} {q : ev_M × Int32} (h : fM_sync_b140 k32 s x1 x2 y1 y2 = some q) : RR 329 140 [oR 549 0, oI x1, oI x2, j3, j4, j5] [vI y2, vI y1, vR 555 0] s (cvI q) := by
  refine rg_step 1 (G' := fun f => if inb y1 151 = true then evT f 329 141 [oR 549 0, oI x1, oI x2, nn, nn, nn] [] (wI s 555 (ix y1) (y2 &&& 1)) else none) (fun _ => rfl) (rg_gd h fun h => rg_ltM h fun s2 h => ?_)
  refine rg_step 3 (G' := fun f => if (s2.1 549 6) = 0 then evT f 329 148 [oR 549 0, oI x1, oI x2, nn, nn, nn] [] s2 else evT f 329 156 [oR 549 0, oI x1, oI x2, nn, nn, nn] [] s2) (fun _ => rfl) (rg_if h (fun h => ?_) fun h => ?_)
  · refine rg_step 3 (G' := fun f => evT f 329 153 [oR 549 0, oI x1, oI x2, nn, nn, nn] [] (wI s2 549 5 (cI 1))) (fun _ => rfl) (rg_ltM h fun s3 h => ?_)
    exact rg_end 2 (fun _ => rfl) (by cases h; rfl)
  · refine rg_step 4 (G' := fun f => if (s2.1 549 6) ≤ 0 then evT f 329 173 [oR 549 0, oI x1, oI x2, nn, nn, nn] [vR 549 0] s2 else evT f 329 164 [oR 549 0, oI x1, oI x2, nn, nn, nn] [vR 549 0] s2) (fun _ => rfl) (rg_if h (fun h => ?_) fun h => ?_)
    · exact rg_step 1 (G' := fun f => evT f 329 174 [oR 549 0, oI x1, oI x2, nn, nn, nn] [vI (cI (-1)), vR 549 0] s2) (fun _ => rfl) ((t_fM_sync_b174 hk32) h)
    · exact rg_step 5 (G' := fun f => evT f 329 174 [oR 549 0, oI x1, oI x2, nn, nn, nn] [vI ((s2.1 549 6) - (cI 1)), vR 549 0] s2) (fun _ => rfl) ((t_fM_sync_b174 hk32) h)
theorem ti_fM_sync_h90 {k32 : ev_M → Int32 → Int32 → Option (ev_M × Int32)} (hk32 : ∀ {s : ev_M} {x1 : Int32} {x2 : Int32} {j3 : Option ev_V} {j4 : Option ev_V} {j5 : Option ev_V} {q : ev_M × Int32}, k32 s x1 x2 = some q → RR 329 32 [oR 549 0, oI x1, oI x2, j3, j4, j5] [] s (cvI q)) : ∀ (n : Nat) (s : ev_M) (x1 : Int32) (x2 : Int32) (x3 : Int32) (x4 : Int32) (x5 : Int32) (q : ev_M × Int32), fM_sync_h90 k32 n s x1 x2 x3 x4 x5 = some q → RR 329 90 [oR 549 0, oI x1, oI x2, oI x3, oI x4, oI x5] [] s (cvI q) := by
  intro n
  induction n with
  | zero => intro s x1 x2 x3 x4 x5 q h; cases h
  | succ n ih =>
    have hk90 : ∀ {s : ev_M} {x1 : Int32} {x2 : Int32} {x3 : Int32} {x4 : Int32} {x5 : Int32} {q : ev_M × Int32}, fM_sync_h90 k32 n s x1 x2 x3 x4 x5 = some q → RR 329 90 [oR 549 0, oI x1, oI x2, oI x3, oI x4, oI x5] [] s (cvI q) := fun h => ih _ _ _ _ _ _ _ h
    intro s x1 x2 x3 x4 x5 q h
    refine rg_step 3 (G' := fun f => if x5 < x4 then evT f 329 97 [oR 549 0, oI x1, oI x2, oI x3, oI x4, oI x5] [] s else evT f 329 123 [oR 549 0, oI x1, oI x2, oI x3, oI x4, oI x5] [] s) (fun _ => rfl) (rg_if h (fun h => ?_) fun h => ?_)
    · refine rg_step 11 (G' := fun f => if inb x5 256 = true then evT f 329 116 [oR 549 0, oI x1, oI x2, oI x3, oI x4, oI x5] [vI (s.1 556 (ix x5)), vI (((cI 256) * x3) + x5), vR 551 0] s else none) (fun _ => rfl) (rg_gd h fun h => ?_)
      refine rg_step 1 (G' := fun f => if inb (((cI 256) * x3) + x5) 38656 = true then evT f 329 117 [oR 549 0, oI x1, oI x2, oI x3, oI x4, oI x5] [] (wI s 551 (ix (((cI 256) * x3) + x5)) (i2b (s.1 556 (ix x5)))) else none) (fun _ => rfl) (rg_gd h fun h => rg_ltM h fun s4 h => ?_)
      exact rg_step 2 (G' := fun f => evT f 329 90 [oR 549 0, oI x1, oI x2, oI x3, oI x4, oI (x5 + cI 1)] [] s4) (fun _ => rfl) (hk90 h)
    · refine rg_step 6 (G' := fun f => if (s.1 549 6) = 0 then evT f 329 135 [oR 549 0, oI x1, oI x2, oI x3, oI x4, oI x5] [vI x3, vR 555 0] s else evT f 329 139 [oR 549 0, oI x1, oI x2, oI x3, oI x4, oI x5] [vI x3, vR 555 0] s) (fun _ => rfl) (rg_if h (fun h => ?_) fun h => ?_)
      · exact rg_step 2 (G' := fun f => evT f 329 140 [oR 549 0, oI x1, oI x2, oI x3, oI x4, oI x5] [vI (cI 1), vI x3, vR 555 0] s) (fun _ => rfl) ((t_fM_sync_b140 hk32) h)
      · exact rg_step 1 (G' := fun f => evT f 329 140 [oR 549 0, oI x1, oI x2, oI x3, oI x4, oI x5] [vI (cI 0), vI x3, vR 555 0] s) (fun _ => rfl) ((t_fM_sync_b140 hk32) h)
theorem t_fM_sync_h90 {k32 : ev_M → Int32 → Int32 → Option (ev_M × Int32)} (hk32 : ∀ {s : ev_M} {x1 : Int32} {x2 : Int32} {j3 : Option ev_V} {j4 : Option ev_V} {j5 : Option ev_V} {q : ev_M × Int32}, k32 s x1 x2 = some q → RR 329 32 [oR 549 0, oI x1, oI x2, j3, j4, j5] [] s (cvI q)) {n : Nat} {s : ev_M} {x1 : Int32} {x2 : Int32} {x3 : Int32} {x4 : Int32} {x5 : Int32} {q : ev_M × Int32} (h : fM_sync_h90 k32 n s x1 x2 x3 x4 x5 = some q) : RR 329 90 [oR 549 0, oI x1, oI x2, oI x3, oI x4, oI x5] [] s (cvI q) := ti_fM_sync_h90 hk32 n s x1 x2 x3 x4 x5 q h
theorem t_fM_sync_b85 {k32 : ev_M → Int32 → Int32 → Option (ev_M × Int32)} (hk32 : ∀ {s : ev_M} {x1 : Int32} {x2 : Int32} {j3 : Option ev_V} {j4 : Option ev_V} {j5 : Option ev_V} {q : ev_M × Int32}, k32 s x1 x2 = some q → RR 329 32 [oR 549 0, oI x1, oI x2, j3, j4, j5] [] s (cvI q)) {s : ev_M} {x1 : Int32} {x2 : Int32} {x3 : Int32} {y0 : Int32} {j4 : Option ev_V} {j5 : Option ev_V} {q : ev_M × Int32} (h : fM_sync_b85 k32 s x1 x2 x3 y0 = some q) : RR 329 85 [oR 549 0, oI x1, oI x2, oI x3, j4, j5] [vI y0] s (cvI q) := by
  exact rg_step 3 (G' := fun f => evT f 329 90 [oR 549 0, oI x1, oI x2, oI x3, oI y0, oI (cI 0)] [] s) (fun _ => rfl) ((t_fM_sync_h90 hk32) h)
theorem t_fM_sync_b65 {k32 : ev_M → Int32 → Int32 → Option (ev_M × Int32)} (hk32 : ∀ {s : ev_M} {x1 : Int32} {x2 : Int32} {j3 : Option ev_V} {j4 : Option ev_V} {j5 : Option ev_V} {q : ev_M × Int32}, k32 s x1 x2 = some q → RR 329 32 [oR 549 0, oI x1, oI x2, j3, j4, j5] [] s (cvI q)) {s : ev_M} {x1 : Int32} {x2 : Int32} {x3 : Int32} {y1 : Int32} {y2 : Int32} {y3 : Int32} {j4 : Option ev_V} {j5 : Option ev_V} {q : ev_M × Int32} (h : fM_sync_b65 k32 s x1 x2 x3 y1 y2 y3 = some q) : RR 329 65 [oR 549 0, oI x1, oI x2, oI x3, j4, j5] [vI y3, vI y2, vI y1, vR 549 0] s (cvI q) := by
  refine rg_step 1 (G' := fun f => ev_after (evT f 328 0 [oR 549 0, oI y1, oI y2, oI y3, nn, nn, nn] [] s) (fun q => evT f 329 68 [oR 549 0, oI x1, oI x2, oI x3, nn, nn] (q.2 ++ []) q.1)) (fun _ => rfl) (rg_bd1 h fun s5 hc h => rg_call (q := cvV s5) (T_fM_make hc) ?_)
  refine rg_step 3 (G' := fun f => if (s5.1 549 6) = 0 then evT f 329 75 [oR 549 0, oI x1, oI x2, oI x3, nn, nn] [] s5 else evT f 329 82 [oR 549 0, oI x1, oI x2, oI x3, nn, nn] [] s5) (fun _ => rfl) (rg_if h (fun h => ?_) fun h => ?_)
  · exact rg_step 3 (G' := fun f => evT f 329 85 [oR 549 0, oI x1, oI x2, oI x3, nn, nn] [vI (s5.1 549 7)] s5) (fun _ => rfl) ((t_fM_sync_b85 hk32) h)
  · exact rg_step 1 (G' := fun f => evT f 329 85 [oR 549 0, oI x1, oI x2, oI x3, nn, nn] [vI (cI 256)] s5) (fun _ => rfl) ((t_fM_sync_b85 hk32) h)
theorem ti_fM_sync_h32 : ∀ (n : Nat) (s : ev_M) (x1 : Int32) (x2 : Int32) (j3 : Option ev_V) (j4 : Option ev_V) (j5 : Option ev_V) (q : ev_M × Int32), fM_sync_h32 n s x1 x2 = some q → RR 329 32 [oR 549 0, oI x1, oI x2, j3, j4, j5] [] s (cvI q) := by
  intro n
  induction n with
  | zero => intro s x1 x2 j3 j4 j5 q h; cases h
  | succ n ih =>
    have hk32 : ∀ {s : ev_M} {x1 : Int32} {x2 : Int32} {j3 : Option ev_V} {j4 : Option ev_V} {j5 : Option ev_V} {q : ev_M × Int32}, fM_sync_h32 n s x1 x2 = some q → RR 329 32 [oR 549 0, oI x1, oI x2, j3, j4, j5] [] s (cvI q) := fun h => ih _ _ _ _ _ _ _ h
    intro s x1 x2 j3 j4 j5 q h
    refine rg_step 3 (G' := fun f => if x2 < x1 then evT f 329 37 [oR 549 0, oI x1, oI x2, nn, nn, nn] [] s else evT f 329 183 [oR 549 0, oI x1, oI x2, nn, nn, nn] [] s) (fun _ => rfl) (rg_if h (fun h => ?_) fun h => ?_)
    · refine rg_step 7 (G' := fun f => evT f 329 46 [oR 549 0, oI x1, oI x2, oI (((s.1 549 4) + (cI 1)) + x2), nn, nn] [] s) (fun _ => rfl) (rg_ltI (P := fun v6 => RG (fun f => evT f 329 46 [oR 549 0, oI x1, oI x2, oI v6, nn, nn] [] s) (cvI q)) h fun v6 h => ?_)
      refine rg_step 10 (G' := fun f => if x2 = (x1 - (cI 1)) then evT f 329 60 [oR 549 0, oI x1, oI x2, oI v6, nn, nn] [vI ((cI 248) * x2), vI v6, vR 549 0] s else evT f 329 64 [oR 549 0, oI x1, oI x2, oI v6, nn, nn] [vI ((cI 248) * x2), vI v6, vR 549 0] s) (fun _ => rfl) (rg_if h (fun h => ?_) fun h => ?_)
      · exact rg_step 2 (G' := fun f => evT f 329 65 [oR 549 0, oI x1, oI x2, oI v6, nn, nn] [vI (cI 1), vI ((cI 248) * x2), vI v6, vR 549 0] s) (fun _ => rfl) ((t_fM_sync_b65 hk32) h)
      · exact rg_step 1 (G' := fun f => evT f 329 65 [oR 549 0, oI x1, oI x2, oI v6, nn, nn] [vI (cI 0), vI ((cI 248) * x2), vI v6, vR 549 0] s) (fun _ => rfl) ((t_fM_sync_b65 hk32) h)
    · refine rg_step 6 (G' := fun f => evT f 329 193 [oR 549 0, oI x1, oI x2, nn, nn, nn] [] (wI s 549 4 ((s.1 549 4) + x1))) (fun _ => rfl) (rg_ltM h fun s7 h => ?_)
      refine rg_step 3 (G' := fun f => evT f 329 198 [oR 549 0, oI x1, oI x2, nn, nn, nn] [] (wI s7 549 9 (cI 0))) (fun _ => rfl) (rg_ltM h fun s8 h => ?_)
      refine rg_step 3 (G' := fun f => evT f 329 203 [oR 549 0, oI x1, oI x2, nn, nn, nn] [] (wI s8 549 10 (cI 0))) (fun _ => rfl) (rg_ltM h fun s9 h => ?_)
      exact rg_end 2 (fun _ => rfl) (by cases h; rfl)
theorem t_fM_sync_h32 {n : Nat} {s : ev_M} {x1 : Int32} {x2 : Int32} {j3 : Option ev_V} {j4 : Option ev_V} {j5 : Option ev_V} {q : ev_M × Int32} (h : fM_sync_h32 n s x1 x2 = some q) : RR 329 32 [oR 549 0, oI x1, oI x2, j3, j4, j5] [] s (cvI q) := ti_fM_sync_h32 n s x1 x2 j3 j4 j5 q h
theorem T_fM_sync {s : ev_M} {q : ev_M × Int32} (h : fM_sync s = some q) : RR 329 0 [oR 549 0, nn, nn, nn, nn, nn] [] s (cvI q) := by
  refine rg_step 3 (G' := fun f => evT f 329 5 [oR 549 0, nn, nn, nn, nn, nn] [] (wI s 549 0 (cI 0))) (fun _ => rfl) (rg_ltM h fun s10 h => ?_)
  refine rg_step 3 (G' := fun f => if (s10.1 549 5) = 0 then evT f 329 15 [oR 549 0, nn, nn, nn, nn, nn] [] s10 else evT f 329 12 [oR 549 0, nn, nn, nn, nn, nn] [] s10) (fun _ => rfl) (rg_if h (fun h => ?_) fun h => ?_)
  · refine rg_step 8 (G' := fun f => if (cI 248) = 0 then none else evT f 329 29 [oR 549 0, nn, nn, nn, nn, nn] [vI ((((s10.1 549 9) + (cI 248)) - (cI 1)) / (cI 248))] s10) (fun _ => rfl) (rg_dv h fun h => ?_)
    refine rg_step 1 (G' := fun f => evT f 329 30 [oR 549 0, oI ((((s10.1 549 9) + (cI 248)) - (cI 1)) / (cI 248)), nn, nn, nn, nn] [] s10) (fun _ => rfl) (rg_ltI (P := fun v11 => RG (fun f => evT f 329 30 [oR 549 0, oI v11, nn, nn, nn, nn] [] s10) (cvI q)) h fun v11 h => ?_)
    exact rg_step 2 (G' := fun f => evT f 329 32 [oR 549 0, oI v11, oI (cI 0), nn, nn, nn] [] s10) (fun _ => rfl) ((t_fM_sync_h32) h)
  · exact rg_end 2 (fun _ => rfl) (by cases h; rfl)
theorem T_fLog_setCut {s : ev_M} {a1 : Int32} {a2 : Int32} {q : ev_M × Int32} (h : fLog_setCut s a1 a2 = some q) : RR 131 0 [oR 9 0, oI a1, oI a2] [] s (cvI q) := by
  refine rg_step 4 (G' := fun f => ev_after (evT f 308 0 [oI a1, oI (cI (-1)), oI (cI 2000)] [] s) (fun q => evT f 131 8 [oR 9 0, oI a1, oI a2] (q.2 ++ []) q.1)) (fun _ => rfl) (rg_bd1 h fun v1 hc h => rg_call (q := cvP s v1) (T_fPH_outside hc) ?_)
  refine rg_step 1 (G' := fun f => if v1 = 0 then evT f 131 11 [oR 9 0, oI a1, oI a2] [] s else evT f 131 22 [oR 9 0, oI a1, oI a2] [] s) (fun _ => rfl) (rg_if h (fun h => ?_) fun h => ?_)
  · refine rg_step 4 (G' := fun f => ev_after (evT f 308 0 [oI a2, oI (cI 0), oI (cI 255)] [] s) (fun q => evT f 131 19 [oR 9 0, oI a1, oI a2] (q.2 ++ []) q.1)) (fun _ => rfl) (rg_bd1 h fun v2 hc h => rg_call (q := cvP s v2) (T_fPH_outside hc) ?_)
    refine rg_step 1 (G' := fun f => if v2 = 0 then evT f 131 25 [oR 9 0, oI a1, oI a2] [] s else evT f 131 22 [oR 9 0, oI a1, oI a2] [] s) (fun _ => rfl) (rg_if h (fun h => ?_) fun h => ?_)
    · refine rg_step 3 (G' := fun f => evT f 131 30 [oR 9 0, oI a1, oI a2] [] (wI s 9 10 a1)) (fun _ => rfl) (rg_ltM h fun s3 h => ?_)
      refine rg_step 3 (G' := fun f => evT f 131 35 [oR 9 0, oI a1, oI a2] [] (wI s3 9 11 a2)) (fun _ => rfl) (rg_ltM h fun s4 h => ?_)
      exact rg_end 2 (fun _ => rfl) (by cases h; rfl)
    · exact rg_end 2 (fun _ => rfl) (by cases h; rfl)
  · exact rg_end 2 (fun _ => rfl) (by cases h; rfl)
theorem T_fPH_cut {s : ev_M} {a1 : Int32} {a2 : Int32} {q : ev_M × Int32} (h : fPH_cut s a1 a2 = some q) : RR 232 0 [oR 0 0, oI a1, oI a2] [] s (cvI q) := by
  refine rg_step 4 (G' := fun f => if (s.1 9 9) = 0 then evT f 232 15 [oR 0 0, oI a1, oI a2] [] s else evT f 232 10 [oR 0 0, oI a1, oI a2] [] s) (fun _ => rfl) (rg_if h (fun h => ?_) fun h => ?_)
  · refine rg_step 5 (G' := fun f => ev_after (evT f 131 0 [oR 9 0, oI a1, oI a2] [] s) (fun q => evT f 232 24 [oR 0 0, oI a1, oI a2] (q.2 ++ []) q.1)) (fun _ => rfl) (rg_bd2 h fun s1 v2 hc h => rg_call (q := cvI (s1, v2)) (T_fLog_setCut hc) ?_)
    exact rg_end 1 (fun _ => rfl) (by cases h; rfl)
  · exact rg_end 3 (fun _ => rfl) (by cases h; rfl)
theorem T_fM_cut {s : ev_M} {a1 : Int32} {a2 : Int32} {q : ev_M × Int32} (h : fM_cut s a1 a2 = some q) : RR 330 0 [oR 549 0, oI a1, oI a2] [] s (cvI q) := by
  refine rg_step 3 (G' := fun f => evT f 330 5 [oR 549 0, oI a1, oI a2] [] (wI s 549 0 (cI 0))) (fun _ => rfl) (rg_ltM h fun s1 h => ?_)
  refine rg_step 3 (G' := fun f => if (s1.1 549 5) = 0 then evT f 330 15 [oR 549 0, oI a1, oI a2] [] s1 else evT f 330 12 [oR 549 0, oI a1, oI a2] [] s1) (fun _ => rfl) (rg_if h (fun h => ?_) fun h => ?_)
  · refine rg_step 4 (G' := fun f => ev_after (evT f 311 0 [oI a1, oI (cI (-1)), oI (cI 2000)] [] s1) (fun q => evT f 330 23 [oR 549 0, oI a1, oI a2] (q.2 ++ []) q.1)) (fun _ => rfl) (rg_bd1 h fun v2 hc h => rg_call (q := cvP s1 v2) (T_fM_in hc) ?_)
    refine rg_step 1 (G' := fun f => if v2 = 0 then evT f 330 37 [oR 549 0, oI a1, oI a2] [] s1 else evT f 330 26 [oR 549 0, oI a1, oI a2] [] s1) (fun _ => rfl) (rg_if h (fun h => ?_) fun h => ?_)
    · exact rg_end 2 (fun _ => rfl) (by cases h; rfl)
    · refine rg_step 4 (G' := fun f => ev_after (evT f 311 0 [oI a2, oI (cI 0), oI (cI 255)] [] s1) (fun q => evT f 330 34 [oR 549 0, oI a1, oI a2] (q.2 ++ []) q.1)) (fun _ => rfl) (rg_bd1 h fun v3 hc h => rg_call (q := cvP s1 v3) (T_fM_in hc) ?_)
      refine rg_step 1 (G' := fun f => if v3 = 0 then evT f 330 37 [oR 549 0, oI a1, oI a2] [] s1 else evT f 330 40 [oR 549 0, oI a1, oI a2] [] s1) (fun _ => rfl) (rg_if h (fun h => ?_) fun h => ?_)
      · exact rg_end 2 (fun _ => rfl) (by cases h; rfl)
      · refine rg_step 3 (G' := fun f => evT f 330 45 [oR 549 0, oI a1, oI a2] [] (wI s1 549 6 a1)) (fun _ => rfl) (rg_ltM h fun s4 h => ?_)
        refine rg_step 3 (G' := fun f => evT f 330 50 [oR 549 0, oI a1, oI a2] [] (wI s4 549 7 a2)) (fun _ => rfl) (rg_ltM h fun s5 h => ?_)
        exact rg_end 2 (fun _ => rfl) (by cases h; rfl)
  · exact rg_end 2 (fun _ => rfl) (by cases h; rfl)
theorem T_fLog_forgetGathered {s : ev_M} {q : ev_M} (h : fLog_forgetGathered s = some q) : RR 141 0 [oR 9 0] [] s (cvV q) := by
  refine rg_step 3 (G' := fun f => evT f 141 5 [oR 9 0] [] (wI s 9 6 (cI 0))) (fun _ => rfl) (rg_ltM h fun s1 h => ?_)
  refine rg_step 3 (G' := fun f => evT f 141 10 [oR 9 0] [] (wI s1 9 7 (cI 0))) (fun _ => rfl) (rg_ltM h fun s2 h => ?_)
  refine rg_step 3 (G' := fun f => evT f 141 15 [oR 9 0] [] (wI s2 9 8 (cI 0))) (fun _ => rfl) (rg_ltM h fun s3 h => ?_)
  exact rg_end 1 (fun _ => rfl) (by cases h; rfl)
theorem ti_fTape_fill_4_13_h8 : ∀ (n : Nat) (s : ev_M) (x2 : Int32) (x3 : Int32) (x4 : Int32) (q : ev_M), fTape_fill_4_13_h8 n s x2 x3 x4 = some q → RR 223 8 [oR 4 0, oR 13 0, oI x2, oI x3, oI x4] [] s (cvV q) := by
  intro n
  induction n with
  | zero => intro s x2 x3 x4 q h; cases h
  | succ n ih =>
    have hk8 : ∀ {s : ev_M} {x2 : Int32} {x3 : Int32} {x4 : Int32} {q : ev_M}, fTape_fill_4_13_h8 n s x2 x3 x4 = some q → RR 223 8 [oR 4 0, oR 13 0, oI x2, oI x3, oI x4] [] s (cvV q) := fun h => ih _ _ _ _ _ h
    intro s x2 x3 x4 q h
    refine rg_step 5 (G' := fun f => if x4 < (x2 + x3) then evT f 223 16 [oR 4 0, oR 13 0, oI x2, oI x3, oI x4] [] s else evT f 223 59 [oR 4 0, oR 13 0, oI x2, oI x3, oI x4] [] s) (fun _ => rfl) (rg_if h (fun h => ?_) fun h => ?_)
    · refine rg_step 4 (G' := fun f => if x4 < (cI 37200) then evT f 223 23 [oR 4 0, oR 13 0, oI x2, oI x3, oI x4] [] s else evT f 223 59 [oR 4 0, oR 13 0, oI x2, oI x3, oI x4] [] s) (fun _ => rfl) (rg_if h (fun h => ?_) fun h => ?_)
      · refine rg_step 4 (G' := fun f => if (s.1 4 1) < (cI 4096) then evT f 223 33 [oR 4 0, oR 13 0, oI x2, oI x3, oI x4] [] s else evT f 223 59 [oR 4 0, oR 13 0, oI x2, oI x3, oI x4] [] s) (fun _ => rfl) (rg_if h (fun h => ?_) fun h => ?_)
        · refine rg_step 9 (G' := fun f => evT f 223 48 [oR 4 0, oR 13 0, oI x2, oI x3, oI x4] [vI (s.1 4 1), vR 5 0] (wI s 4 1 ((s.1 4 1) + (cI 1)))) (fun _ => rfl) (rg_ltM h fun s1 h => ?_)
          refine rg_step 3 (G' := fun f => if inb x4 37200 = true then evT f 223 52 [oR 4 0, oR 13 0, oI x2, oI x3, oI x4] [vI (s1.1 13 (ix x4)), vI (s.1 4 1), vR 5 0] s1 else none) (fun _ => rfl) (rg_gd h fun h => ?_)
          refine rg_step 1 (G' := fun f => if inb (s.1 4 1) 4096 = true then evT f 223 53 [oR 4 0, oR 13 0, oI x2, oI x3, oI x4] [] (wI s1 5 (ix (s.1 4 1)) (i2b (s1.1 13 (ix x4)))) else none) (fun _ => rfl) (rg_gd h fun h => rg_ltM h fun s2 h => ?_)
          exact rg_step 2 (G' := fun f => evT f 223 8 [oR 4 0, oR 13 0, oI x2, oI x3, oI (x4 + cI 1)] [] s2) (fun _ => rfl) (hk8 h)
        · exact rg_end 1 (fun _ => rfl) (by cases h; rfl)
      · exact rg_end 1 (fun _ => rfl) (by cases h; rfl)
    · exact rg_end 1 (fun _ => rfl) (by cases h; rfl)
theorem t_fTape_fill_4_13_h8 {n : Nat} {s : ev_M} {x2 : Int32} {x3 : Int32} {x4 : Int32} {q : ev_M} (h : fTape_fill_4_13_h8 n s x2 x3 x4 = some q) : RR 223 8 [oR 4 0, oR 13 0, oI x2, oI x3, oI x4] [] s (cvV q) := ti_fTape_fill_4_13_h8 n s x2 x3 x4 q h
theorem T_fTape_fill_4_13 {s : ev_M} {a2 : Int32} {a3 : Int32} {q : ev_M} (h : fTape_fill_4_13 s a2 a3 = some q) : RR 223 0 [oR 4 0, oR 13 0, oI a2, oI a3, nn] [] s (cvV q) := by
  refine rg_step 3 (G' := fun f => evT f 223 5 [oR 4 0, oR 13 0, oI a2, oI a3, nn] [] (wI s 4 1 (cI 0))) (fun _ => rfl) (rg_ltM h fun s3 h => ?_)
  exact rg_step 2 (G' := fun f => evT f 223 8 [oR 4 0, oR 13 0, oI a2, oI a3, oI a2] [] s3) (fun _ => rfl) ((t_fTape_fill_4_13_h8) h)
theorem ti_fLog_wordAt_h4 {s : ev_M} : ∀ (n : Nat) (x1 : Int32) (x2 : Int32) (x3 : Int32) (q : Int32), fLog_wordAt_h4 s n x1 x2 x3 = some q → RR 144 4 [oR 9 0, oI x1, oI x2, oI x3] [] s (cvP s q) := by
  intro n
  induction n with
  | zero => intro x1 x2 x3 q h; cases h
  | succ n ih =>
    have hk4 : ∀ {x1 : Int32} {x2 : Int32} {x3 : Int32} {q : Int32}, fLog_wordAt_h4 s n x1 x2 x3 = some q → RR 144 4 [oR 9 0, oI x1, oI x2, oI x3] [] s (cvP s q) := fun h => ih _ _ _ _ h
    intro x1 x2 x3 q h
    refine rg_step 5 (G' := fun f => if x3 < (x1 + (cI 4)) then evT f 144 11 [oR 9 0, oI x1, oI x2, oI x3] [] s else evT f 144 42 [oR 9 0, oI x1, oI x2, oI x3] [] s) (fun _ => rfl) (rg_if h (fun h => ?_) fun h => ?_)
    · refine rg_step 5 (G' := fun f => if x3 < (cI 37200) then evT f 144 20 [oR 9 0, oI x1, oI x2, oI x3] [] s else evT f 144 42 [oR 9 0, oI x1, oI x2, oI x3] [] s) (fun _ => rfl) (rg_if h (fun h => ?_) fun h => ?_)
      · refine rg_step 7 (G' := fun f => if inb x3 37200 = true then evT f 144 30 [oR 9 0, oI x1, oI x2, oI x3] [vI (s.1 13 (ix x3)), vI (x2 <<< ((cI 8) &&& 31))] s else none) (fun _ => rfl) (rg_gd h fun h => ?_)
        refine rg_step 4 (G' := fun f => evT f 144 36 [oR 9 0, oI x1, oI ((x2 <<< ((cI 8) &&& 31)) ||| ((s.1 13 (ix x3)) &&& (cI 255))), oI x3] [] s) (fun _ => rfl) (rg_ltI (P := fun v1 => RG (fun f => evT f 144 36 [oR 9 0, oI x1, oI v1, oI x3] [] s) (cvP s q)) h fun v1 h => ?_)
        exact rg_step 2 (G' := fun f => evT f 144 4 [oR 9 0, oI x1, oI v1, oI (x3 + cI 1)] [] s) (fun _ => rfl) (hk4 h)
      · exact rg_end 2 (fun _ => rfl) (by cases h; rfl)
    · exact rg_end 2 (fun _ => rfl) (by cases h; rfl)
theorem t_fLog_wordAt_h4 {s : ev_M} {n : Nat} {x1 : Int32} {x2 : Int32} {x3 : Int32} {q : Int32} (h : fLog_wordAt_h4 s n x1 x2 x3 = some q) : RR 144 4 [oR 9 0, oI x1, oI x2, oI x3] [] s (cvP s q) := ti_fLog_wordAt_h4 n x1 x2 x3 q h
theorem T_fLog_wordAt {s : ev_M} {a1 : Int32} {q : Int32} (h : fLog_wordAt s a1 = some q) : RR 144 0 [oR 9 0, oI a1, nn, nn] [] s (cvP s q) := by
  exact rg_step 4 (G' := fun f => evT f 144 4 [oR 9 0, oI a1, oI (cI 0), oI a1] [] s) (fun _ => rfl) ((t_fLog_wordAt_h4) h)
theorem t_fLog_readsRecord_4_b223 {s : ev_M} {x2 : Int32} {j1 : Option ev_V} {j3 : Option ev_V} {q : ev_M × Int32} (h : fLog_readsRecord_4_b223 s x2 = some q) : RR 143 223 [oR 9 0, j1, oI x2, j3] [] s (cvI q) := by
  refine rg_step 3 (G' := fun f => evT f 143 228 [oR 9 0, nn, oI x2, nn] [] (wI s 9 8 x2)) (fun _ => rfl) (rg_ltM h fun s1 h => ?_)
  exact rg_end 2 (fun _ => rfl) (by cases h; rfl)
theorem t_fLog_readsRecord_4_b138 {s : ev_M} {x2 : Int32} {j3 : Option ev_V} {q : ev_M × Int32} (h : fLog_readsRecord_4_b138 s x2 = some q) : RR 143 138 [oR 9 0, oR 4 0, oI x2, j3] [] s (cvI q) := by
  refine rg_step 3 (G' := fun f => ev_after (evT f 126 0 [oI (s.1 9 14)] [] s) (fun q => evT f 143 145 [oR 9 0, oR 4 0, oI x2, nn] (q.2 ++ []) q.1)) (fun _ => rfl) (rg_bd1 h fun v2 hc h => rg_call (q := cvP s v2) (T_fLog_readsTape hc) ?_)
  refine rg_step 1 (G' := fun f => if v2 = 0 then evT f 143 223 [oR 9 0, oR 4 0, oI x2, nn] [] s else evT f 143 148 [oR 9 0, oR 4 0, oI x2, nn] [] s) (fun _ => rfl) (rg_if h (fun h => ?_) fun h => ?_)
  · exact (t_fLog_readsRecord_4_b223) h
  · refine rg_step 6 (G' := fun f => if (x2 + (cI 2)) ≤ (s.1 9 6) then evT f 143 160 [oR 9 0, oR 4 0, oI x2, nn] [] s else evT f 143 158 [oR 9 0, oR 4 0, oI x2, nn] [] s) (fun _ => rfl) (rg_if h (fun h => ?_) fun h => ?_)
    · refine rg_step 4 (G' := fun f => if inb x2 37200 = true then evT f 143 166 [oR 9 0, oR 4 0, oI x2, nn] [vI (s.1 13 (ix x2))] s else none) (fun _ => rfl) (rg_gd h fun h => ?_)
      refine rg_step 10 (G' := fun f => if inb (x2 + (cI 1)) 37200 = true then evT f 143 181 [oR 9 0, oR 4 0, oI x2, nn] [vI (s.1 13 (ix (x2 + (cI 1)))), vI (((s.1 13 (ix x2)) &&& (cI 255)) <<< ((cI 8) &&& 31))] s else none) (fun _ => rfl) (rg_gd h fun h => ?_)
      refine rg_step 4 (G' := fun f => evT f 143 187 [oR 9 0, oR 4 0, oI x2, oI ((((s.1 13 (ix x2)) &&& (cI 255)) <<< ((cI 8) &&& 31)) ||| ((s.1 13 (ix (x2 + (cI 1)))) &&& (cI 255)))] [] s) (fun _ => rfl) (rg_ltI (P := fun v3 => RG (fun f => evT f 143 187 [oR 9 0, oR 4 0, oI x2, oI v3] [] s) (cvI q)) h fun v3 h => ?_)
      refine rg_step 4 (G' := fun f => if v3 ≤ (cI 4096) then evT f 143 197 [oR 9 0, oR 4 0, oI (x2 + cI 2), oI v3] [] s else evT f 143 207 [oR 9 0, oR 4 0, oI (x2 + cI 2), oI v3] [] s) (fun _ => rfl) (rg_if h (fun h => ?_) fun h => ?_)
      · refine rg_step 6 (G' := fun f => if ((x2 + cI 2) + v3) ≤ (s.1 9 6) then evT f 143 209 [oR 9 0, oR 4 0, oI (x2 + cI 2), oI v3] [] s else evT f 143 207 [oR 9 0, oR 4 0, oI (x2 + cI 2), oI v3] [] s) (fun _ => rfl) (rg_if h (fun h => ?_) fun h => ?_)
        · refine rg_step 6 (G' := fun f => ev_after (evT f 223 0 [oR 4 0, oR 13 0, oI (x2 + cI 2), oI v3, nn] [] s) (fun q => evT f 143 219 [oR 9 0, oR 4 0, oI (x2 + cI 2), oI v3] (q.2 ++ []) q.1)) (fun _ => rfl) (rg_bd1 h fun s4 hc h => rg_call (q := cvV s4) (T_fTape_fill_4_13 hc) ?_)
          refine rg_step 4 (G' := fun f => evT f 143 223 [oR 9 0, oR 4 0, oI ((x2 + cI 2) + v3), oI v3] [] s4) (fun _ => rfl) (rg_ltI (P := fun v5 => RG (fun f => evT f 143 223 [oR 9 0, oR 4 0, oI v5, oI v3] [] s4) (cvI q)) h fun v5 h => ?_)
          exact (t_fLog_readsRecord_4_b223) h
        · exact rg_end 2 (fun _ => rfl) (by cases h; rfl)
      · exact rg_end 2 (fun _ => rfl) (by cases h; rfl)
    · exact rg_end 2 (fun _ => rfl) (by cases h; rfl)
theorem ti_fLog_readsRecord_4_h75 : ∀ (n : Nat) (s : ev_M) (x2 : Int32) (x3 : Int32) (q : ev_M × Int32), fLog_readsRecord_4_h75 n s x2 x3 = some q → RR 143 75 [oR 9 0, oR 4 0, oI x2, oI x3] [] s (cvI q) := by
  intro n
  induction n with
  | zero => intro s x2 x3 q h; cases h
  | succ n ih =>
    have hk75 : ∀ {s : ev_M} {x2 : Int32} {x3 : Int32} {q : ev_M × Int32}, fLog_readsRecord_4_h75 n s x2 x3 = some q → RR 143 75 [oR 9 0, oR 4 0, oI x2, oI x3] [] s (cvI q) := fun h => ih _ _ _ _ h
    intro s x2 x3 q h
    refine rg_step 5 (G' := fun f => if inb (s.1 9 14) 41 = true then evT f 143 84 [oR 9 0, oR 4 0, oI x2, oI x3] [vI (s.1 1003 (ix (s.1 9 14))), vI x3] s else none) (fun _ => rfl) (rg_gd h fun h => ?_)
    refine rg_step 1 (G' := fun f => if x3 < (s.1 1003 (ix (s.1 9 14))) then evT f 143 87 [oR 9 0, oR 4 0, oI x2, oI x3] [] s else evT f 143 113 [oR 9 0, oR 4 0, oI x2, oI x3] [] s) (fun _ => rfl) (rg_if h (fun h => ?_) fun h => ?_)
    · refine rg_step 13 (G' := fun f => ev_after (evT f 144 0 [oR 9 0, oI (((s.1 9 8) + (cI 1)) + ((cI 4) * x3)), nn, nn] [] s) (fun q => evT f 143 106 [oR 9 0, oR 4 0, oI x2, oI x3] (q.2 ++ [vI x3, vR 14 0]) q.1)) (fun _ => rfl) (rg_bd1 h fun v6 hc h => rg_call (q := cvP s v6) (T_fLog_wordAt hc) ?_)
      refine rg_step 1 (G' := fun f => if inb x3 6 = true then evT f 143 107 [oR 9 0, oR 4 0, oI x2, oI x3] [] (wI s 14 (ix x3) v6) else none) (fun _ => rfl) (rg_gd h fun h => rg_ltM h fun s7 h => ?_)
      exact rg_step 2 (G' := fun f => evT f 143 75 [oR 9 0, oR 4 0, oI x2, oI (x3 + cI 1)] [] s7) (fun _ => rfl) (hk75 h)
    · refine rg_step 4 (G' := fun f => if (s.1 9 14) = (cI 39) then evT f 143 122 [oR 9 0, oR 4 0, oI x2, oI x3] [] s else evT f 143 138 [oR 9 0, oR 4 0, oI x2, oI x3] [] s) (fun _ => rfl) (rg_if h (fun h => ?_) fun h => ?_)
      · refine rg_step 7 (G' := fun f => ev_after (evT f 308 0 [oI (s.1 14 (ix (cI 2))), oI (cI 0), oI (cI 1)] [] s) (fun q => evT f 143 133 [oR 9 0, oR 4 0, oI x2, oI x3] (q.2 ++ []) q.1)) (fun _ => rfl) (rg_bd1 h fun v8 hc h => rg_call (q := cvP s v8) (T_fPH_outside hc) ?_)
        refine rg_step 1 (G' := fun f => if v8 = 0 then evT f 143 138 [oR 9 0, oR 4 0, oI x2, oI x3] [] s else evT f 143 136 [oR 9 0, oR 4 0, oI x2, oI x3] [] s) (fun _ => rfl) (rg_if h (fun h => ?_) fun h => ?_)
        · exact (t_fLog_readsRecord_4_b138) h
        · exact rg_end 2 (fun _ => rfl) (by cases h; rfl)
      · exact (t_fLog_readsRecord_4_b138) h
theorem t_fLog_readsRecord_4_h75 {n : Nat} {s : ev_M} {x2 : Int32} {x3 : Int32} {q : ev_M × Int32} (h : fLog_readsRecord_4_h75 n s x2 x3 = some q) : RR 143 75 [oR 9 0, oR 4 0, oI x2, oI x3] [] s (cvI q) := ti_fLog_readsRecord_4_h75 n s x2 x3 q h
theorem T_fLog_readsRecord_4 {s : ev_M} {q : ev_M × Int32} (h : fLog_readsRecord_4 s = some q) : RR 143 0 [oR 9 0, oR 4 0, nn, nn] [] s (cvI q) := by
  refine rg_step 5 (G' := fun f => if (s.1 9 8) < (s.1 9 6) then evT f 143 13 [oR 9 0, oR 4 0, nn, nn] [] s else evT f 143 11 [oR 9 0, oR 4 0, nn, nn] [] s) (fun _ => rfl) (rg_if h (fun h => ?_) fun h => ?_)
  · refine rg_step 6 (G' := fun f => if inb (s.1 9 8) 37200 = true then evT f 143 23 [oR 9 0, oR 4 0, nn, nn] [vI (s.1 13 (ix (s.1 9 8))), vR 9 0] s else none) (fun _ => rfl) (rg_gd h fun h => ?_)
    refine rg_step 3 (G' := fun f => evT f 143 30 [oR 9 0, oR 4 0, nn, nn] [] (wI s 9 14 ((s.1 13 (ix (s.1 9 8))) &&& (cI 255)))) (fun _ => rfl) (rg_ltM h fun s9 h => ?_)
    refine rg_step 5 (G' := fun f => ev_after (evT f 308 0 [oI (s9.1 9 14), oI (cI 1), oI (cI 40)] [] s9) (fun q => evT f 143 40 [oR 9 0, oR 4 0, nn, nn] (q.2 ++ []) q.1)) (fun _ => rfl) (rg_bd1 h fun v10 hc h => rg_call (q := cvP s9 v10) (T_fPH_outside hc) ?_)
    refine rg_step 1 (G' := fun f => if v10 = 0 then evT f 143 45 [oR 9 0, oR 4 0, nn, nn] [] s9 else evT f 143 43 [oR 9 0, oR 4 0, nn, nn] [] s9) (fun _ => rfl) (rg_if h (fun h => ?_) fun h => ?_)
    · refine rg_step 9 (G' := fun f => if inb (s9.1 9 14) 41 = true then evT f 143 60 [oR 9 0, oR 4 0, nn, nn] [vI (s9.1 1003 (ix (s9.1 9 14))), vI (cI 4), vI ((s9.1 9 8) + (cI 1))] s9 else none) (fun _ => rfl) (rg_gd h fun h => ?_)
      refine rg_step 3 (G' := fun f => evT f 143 63 [oR 9 0, oR 4 0, oI (((s9.1 9 8) + (cI 1)) + ((cI 4) * (s9.1 1003 (ix (s9.1 9 14))))), nn] [] s9) (fun _ => rfl) (rg_ltI (P := fun v11 => RG (fun f => evT f 143 63 [oR 9 0, oR 4 0, oI v11, nn] [] s9) (cvI q)) h fun v11 h => ?_)
      refine rg_step 4 (G' := fun f => if v11 ≤ (s9.1 9 6) then evT f 143 73 [oR 9 0, oR 4 0, oI v11, nn] [] s9 else evT f 143 71 [oR 9 0, oR 4 0, oI v11, nn] [] s9) (fun _ => rfl) (rg_if h (fun h => ?_) fun h => ?_)
      · exact rg_step 2 (G' := fun f => evT f 143 75 [oR 9 0, oR 4 0, oI v11, oI (cI 0)] [] s9) (fun _ => rfl) ((t_fLog_readsRecord_4_h75) h)
      · exact rg_end 2 (fun _ => rfl) (by cases h; rfl)
    · exact rg_end 2 (fun _ => rfl) (by cases h; rfl)
  · exact rg_end 2 (fun _ => rfl) (by cases h; rfl)
theorem T_fTape_byteAt_4 {s : ev_M} {a1 : Int32} {q : Int32} (h : fTape_byteAt_4 s a1 = some q) : RR 224 0 [oR 4 0, oI a1] [] s (cvP s q) := by
  refine rg_step 2 (G' := fun f => if a1 < 0 then evT f 224 25 [oR 4 0, oI a1] [] s else evT f 224 4 [oR 4 0, oI a1] [] s) (fun _ => rfl) (rg_if h (fun h => ?_) fun h => ?_)
  · exact rg_end 2 (fun _ => rfl) (by cases h; rfl)
  · refine rg_step 4 (G' := fun f => if a1 < (s.1 4 1) then evT f 224 12 [oR 4 0, oI a1] [] s else evT f 224 25 [oR 4 0, oI a1] [] s) (fun _ => rfl) (rg_if h (fun h => ?_) fun h => ?_)
    · refine rg_step 4 (G' := fun f => if inb a1 4096 = true then evT f 224 18 [oR 4 0, oI a1] [vI (s.1 5 (ix a1))] s else none) (fun _ => rfl) (rg_gd h fun h => ?_)
      exact rg_end 4 (fun _ => rfl) (by cases h; rfl)
    · exact rg_end 2 (fun _ => rfl) (by cases h; rfl)
theorem t_fTape_readsNumber_4_b69 {s : ev_M} {x1 : Int32} {x2 : Int32} {q : ev_M × Int32} (h : fTape_readsNumber_4_b69 s x1 x2 = some q) : RR 228 69 [oR 4 0, oI x1, oI x2] [] s (cvI q) := by
  refine rg_step 2 (G' := fun f => if x2 = 0 then evT f 228 85 [oR 4 0, oI x1, oI x2] [] s else evT f 228 73 [oR 4 0, oI x1, oI x2] [] s) (fun _ => rfl) (rg_if h (fun h => ?_) fun h => ?_)
  · exact rg_end 2 (fun _ => rfl) (by cases h; rfl)
  · refine rg_step 6 (G' := fun f => if (s.1 4 4) < (cI 4) then evT f 228 87 [oR 4 0, oI x1, oI x2] [] s else evT f 228 85 [oR 4 0, oI x1, oI x2] [] s) (fun _ => rfl) (rg_if h (fun h => ?_) fun h => ?_)
    · refine rg_step 9 (G' := fun f => evT f 228 102 [oR 4 0, oI x1, oI x2] [vI (s.1 4 4), vR 6 0] (wI s 4 4 ((s.1 4 4) + (cI 1)))) (fun _ => rfl) (rg_ltM h fun s1 h => ?_)
      refine rg_step 2 (G' := fun f => if inb (s.1 4 4) 4 = true then evT f 228 104 [oR 4 0, oI x1, oI x2] [] (wI s1 6 (ix (s.1 4 4)) x1) else none) (fun _ => rfl) (rg_gd h fun h => rg_ltM h fun s2 h => ?_)
      exact rg_end 2 (fun _ => rfl) (by cases h; rfl)
    · exact rg_end 2 (fun _ => rfl) (by cases h; rfl)
theorem ti_fTape_readsNumber_4_h4 : ∀ (n : Nat) (s : ev_M) (x1 : Int32) (x2 : Int32) (q : ev_M × Int32), fTape_readsNumber_4_h4 n s x1 x2 = some q → RR 228 4 [oR 4 0, oI x1, oI x2] [] s (cvI q) := by
  intro n
  induction n with
  | zero => intro s x1 x2 q h; cases h
  | succ n ih =>
    have hk4 : ∀ {s : ev_M} {x1 : Int32} {x2 : Int32} {q : ev_M × Int32}, fTape_readsNumber_4_h4 n s x1 x2 = some q → RR 228 4 [oR 4 0, oI x1, oI x2] [] s (cvI q) := fun h => ih _ _ _ _ h
    intro s x1 x2 q h
    refine rg_step 3 (G' := fun f => if x2 < (cI 6) then evT f 228 10 [oR 4 0, oI x1, oI x2] [] s else evT f 228 69 [oR 4 0, oI x1, oI x2] [] s) (fun _ => rfl) (rg_if h (fun h => ?_) fun h => ?_)
    · refine rg_step 4 (G' := fun f => ev_after (evT f 224 0 [oR 4 0, oI (s.1 4 2)] [] s) (fun q => evT f 228 18 [oR 4 0, oI x1, oI x2] (q.2 ++ []) q.1)) (fun _ => rfl) (rg_bd1 h fun v3 hc h => rg_call (q := cvP s v3) (T_fTape_byteAt_4 hc) ?_)
      refine rg_step 2 (G' := fun f => if v3 < (cI 48) then evT f 228 69 [oR 4 0, oI x1, oI x2] [] s else evT f 228 23 [oR 4 0, oI x1, oI x2] [] s) (fun _ => rfl) (rg_if h (fun h => ?_) fun h => ?_)
      · exact (t_fTape_readsNumber_4_b69) h
      · refine rg_step 4 (G' := fun f => ev_after (evT f 224 0 [oR 4 0, oI (s.1 4 2)] [] s) (fun q => evT f 228 31 [oR 4 0, oI x1, oI x2] (q.2 ++ []) q.1)) (fun _ => rfl) (rg_bd1 h fun v4 hc h => rg_call (q := cvP s v4) (T_fTape_byteAt_4 hc) ?_)
        refine rg_step 2 (G' := fun f => if v4 ≤ (cI 57) then evT f 228 36 [oR 4 0, oI x1, oI x2] [] s else evT f 228 69 [oR 4 0, oI x1, oI x2] [] s) (fun _ => rfl) (rg_if h (fun h => ?_) fun h => ?_)
        · refine rg_step 7 (G' := fun f => ev_after (evT f 224 0 [oR 4 0, oI (s.1 4 2)] [] s) (fun q => evT f 228 48 [oR 4 0, oI x1, oI x2] (q.2 ++ [vI (x1 * (cI 10))]) q.1)) (fun _ => rfl) (rg_bd1 h fun v5 hc h => rg_call (q := cvP s v5) (T_fTape_byteAt_4 hc) ?_)
          refine rg_step 4 (G' := fun f => evT f 228 53 [oR 4 0, oI (((x1 * (cI 10)) + v5) - (cI 48)), oI x2] [] s) (fun _ => rfl) (rg_ltI (P := fun v6 => RG (fun f => evT f 228 53 [oR 4 0, oI v6, oI x2] [] s) (cvI q)) h fun v6 h => ?_)
          refine rg_step 7 (G' := fun f => evT f 228 66 [oR 4 0, oI v6, oI (x2 + cI 1)] [] (wI s 4 2 ((s.1 4 2) + (cI 1)))) (fun _ => rfl) (rg_ltM h fun s7 h => ?_)
          exact rg_step 1 (G' := fun f => evT f 228 4 [oR 4 0, oI v6, oI (x2 + cI 1)] [] s7) (fun _ => rfl) (hk4 h)
        · exact (t_fTape_readsNumber_4_b69) h
    · exact (t_fTape_readsNumber_4_b69) h
theorem t_fTape_readsNumber_4_h4 {n : Nat} {s : ev_M} {x1 : Int32} {x2 : Int32} {q : ev_M × Int32} (h : fTape_readsNumber_4_h4 n s x1 x2 = some q) : RR 228 4 [oR 4 0, oI x1, oI x2] [] s (cvI q) := ti_fTape_readsNumber_4_h4 n s x1 x2 q h
theorem T_fTape_readsNumber_4 {s : ev_M} {q : ev_M × Int32} (h : fTape_readsNumber_4 s = some q) : RR 228 0 [oR 4 0, nn, nn] [] s (cvI q) := by
  exact rg_step 4 (G' := fun f => evT f 228 4 [oR 4 0, oI (cI 0), oI (cI 0)] [] s) (fun _ => rfl) ((t_fTape_readsNumber_4_h4) h)
theorem t_fTape_readsName_4_b83 {s : ev_M} {x1 : Int32} {j0 : Option ev_V} {q : ev_M × Int32} (h : fTape_readsName_4_b83 s x1 = some q) : RR 229 83 [j0, oI x1] [] s (cvI q) := by
  refine rg_step 2 (G' := fun f => if x1 ≤ 0 then evT f 229 91 [nn, oI x1] [] s else evT f 229 87 [nn, oI x1] [] s) (fun _ => rfl) (rg_if h (fun h => ?_) fun h => ?_)
  · exact rg_end 2 (fun _ => rfl) (by cases h; rfl)
  · exact rg_end 3 (fun _ => rfl) (by cases h; rfl)
theorem ti_fTape_readsName_4_h7 : ∀ (n : Nat) (s : ev_M) (x1 : Int32) (q : ev_M × Int32), fTape_readsName_4_h7 n s x1 = some q → RR 229 7 [oR 4 0, oI x1] [] s (cvI q) := by
  intro n
  induction n with
  | zero => intro s x1 q h; cases h
  | succ n ih =>
    have hk7 : ∀ {s : ev_M} {x1 : Int32} {q : ev_M × Int32}, fTape_readsName_4_h7 n s x1 = some q → RR 229 7 [oR 4 0, oI x1] [] s (cvI q) := fun h => ih _ _ _ h
    intro s x1 q h
    refine rg_step 3 (G' := fun f => if x1 < (cI 10) then evT f 229 13 [oR 4 0, oI x1] [] s else evT f 229 83 [oR 4 0, oI x1] [] s) (fun _ => rfl) (rg_if h (fun h => ?_) fun h => ?_)
    · refine rg_step 4 (G' := fun f => ev_after (evT f 224 0 [oR 4 0, oI (s.1 4 2)] [] s) (fun q => evT f 229 21 [oR 4 0, oI x1] (q.2 ++ []) q.1)) (fun _ => rfl) (rg_bd1 h fun v1 hc h => rg_call (q := cvP s v1) (T_fTape_byteAt_4 hc) ?_)
      refine rg_step 2 (G' := fun f => if v1 < (cI 65) then evT f 229 83 [oR 4 0, oI x1] [] s else evT f 229 26 [oR 4 0, oI x1] [] s) (fun _ => rfl) (rg_if h (fun h => ?_) fun h => ?_)
      · exact (t_fTape_readsName_4_b83) h
      · refine rg_step 4 (G' := fun f => ev_after (evT f 224 0 [oR 4 0, oI (s.1 4 2)] [] s) (fun q => evT f 229 34 [oR 4 0, oI x1] (q.2 ++ []) q.1)) (fun _ => rfl) (rg_bd1 h fun v2 hc h => rg_call (q := cvP s v2) (T_fTape_byteAt_4 hc) ?_)
        refine rg_step 2 (G' := fun f => if v2 ≤ (cI 90) then evT f 229 39 [oR 4 0, oI x1] [] s else evT f 229 83 [oR 4 0, oI x1] [] s) (fun _ => rfl) (rg_if h (fun h => ?_) fun h => ?_)
        · refine rg_step 9 (G' := fun f => ev_after (evT f 224 0 [oR 4 0, oI (s.1 4 2)] [] s) (fun q => evT f 229 56 [oR 4 0, oI x1] (q.2 ++ [vL ((s.2.1 4 5) * (cL 27)), vR 4 0]) q.1)) (fun _ => rfl) (rg_bd1 h fun v3 hc h => rg_call (q := cvP s v3) (T_fTape_byteAt_4 hc) ?_)
          refine rg_step 7 (G' := fun f => evT f 229 67 [oR 4 0, oI x1] [] (wL s 4 5 (((((s.2.1 4 5) * (cL 27)) + (Int32.toInt64 v3)) - (cL 65)) + (cL 1)))) (fun _ => rfl) (rg_ltM h fun s4 h => ?_)
          refine rg_step 7 (G' := fun f => evT f 229 80 [oR 4 0, oI (x1 + cI 1)] [] (wI s4 4 2 ((s4.1 4 2) + (cI 1)))) (fun _ => rfl) (rg_ltM h fun s5 h => ?_)
          exact rg_step 1 (G' := fun f => evT f 229 7 [oR 4 0, oI (x1 + cI 1)] [] s5) (fun _ => rfl) (hk7 h)
        · exact (t_fTape_readsName_4_b83) h
    · exact (t_fTape_readsName_4_b83) h
theorem t_fTape_readsName_4_h7 {n : Nat} {s : ev_M} {x1 : Int32} {q : ev_M × Int32} (h : fTape_readsName_4_h7 n s x1 = some q) : RR 229 7 [oR 4 0, oI x1] [] s (cvI q) := ti_fTape_readsName_4_h7 n s x1 q h
theorem T_fTape_readsName_4 {s : ev_M} {q : ev_M × Int32} (h : fTape_readsName_4 s = some q) : RR 229 0 [oR 4 0, nn] [] s (cvI q) := by
  refine rg_step 3 (G' := fun f => evT f 229 5 [oR 4 0, nn] [] (wL s 4 5 (cL 0))) (fun _ => rfl) (rg_ltM h fun s6 h => ?_)
  exact rg_step 2 (G' := fun f => evT f 229 7 [oR 4 0, oI (cI 0)] [] s6) (fun _ => rfl) ((t_fTape_readsName_4_h7) h)
theorem T_fTape_reads_4 {s : ev_M} {a1 : Int32} {q : ev_M × Int32} (h : fTape_reads_4 s a1 = some q) : RR 227 0 [oR 4 0, oI a1] [] s (cvI q) := by
  refine rg_step 3 (G' := fun f => if a1 = (cI 35) then evT f 227 6 [oR 4 0, oI a1] [] s else evT f 227 11 [oR 4 0, oI a1] [] s) (fun _ => rfl) (rg_if h (fun h => ?_) fun h => ?_)
  · refine rg_step 2 (G' := fun f => ev_after (evT f 228 0 [oR 4 0, nn, nn] [] s) (fun q => evT f 227 10 [oR 4 0, oI a1] (q.2 ++ []) q.1)) (fun _ => rfl) (rg_bd2 h fun s1 v2 hc h => rg_call (q := cvI (s1, v2)) (T_fTape_readsNumber_4 hc) ?_)
    exact rg_step 1 (G' := fun f => if bz v2 = true then some (s1, [vI v2]) else none) (fun _ => rfl) (rg_gd h fun h => rg_end 0 (fun _ => rfl) (by cases h; rfl))
  · refine rg_step 3 (G' := fun f => if a1 = (cI 64) then evT f 227 17 [oR 4 0, oI a1] [] s else evT f 227 22 [oR 4 0, oI a1] [] s) (fun _ => rfl) (rg_if h (fun h => ?_) fun h => ?_)
    · refine rg_step 2 (G' := fun f => ev_after (evT f 229 0 [oR 4 0, nn] [] s) (fun q => evT f 227 21 [oR 4 0, oI a1] (q.2 ++ []) q.1)) (fun _ => rfl) (rg_bd2 h fun s3 v4 hc h => rg_call (q := cvI (s3, v4)) (T_fTape_readsName_4 hc) ?_)
      exact rg_step 1 (G' := fun f => if bz v4 = true then some (s3, [vI v4]) else none) (fun _ => rfl) (rg_gd h fun h => rg_end 0 (fun _ => rfl) (by cases h; rfl))
    · refine rg_step 4 (G' := fun f => ev_after (evT f 224 0 [oR 4 0, oI (s.1 4 2)] [] s) (fun q => evT f 227 30 [oR 4 0, oI a1] (q.2 ++ []) q.1)) (fun _ => rfl) (rg_bd1 h fun v5 hc h => rg_call (q := cvP s v5) (T_fTape_byteAt_4 hc) ?_)
      refine rg_step 2 (G' := fun f => if v5 = a1 then evT f 227 36 [oR 4 0, oI a1] [] s else evT f 227 34 [oR 4 0, oI a1] [] s) (fun _ => rfl) (rg_if h (fun h => ?_) fun h => ?_)
      · refine rg_step 6 (G' := fun f => evT f 227 46 [oR 4 0, oI a1] [] (wI s 4 2 ((s.1 4 2) + (cI 1)))) (fun _ => rfl) (rg_ltM h fun s6 h => ?_)
        exact rg_end 2 (fun _ => rfl) (by cases h; rfl)
      · exact rg_end 2 (fun _ => rfl) (by cases h; rfl)
theorem ti_fTape_readsEntry_4_1010_h56 : ∀ (n : Nat) (s : ev_M) (x2 : Int32) (x3 : Int32) (j4 : Option ev_V) (q : ev_M × Int32), fTape_readsEntry_4_1010_h56 n s x2 x3 = some q → RR 226 56 [oR 4 0, oR 1010 0, oI x2, oI x3, j4] [] s (cvI q) := by
  intro n
  induction n with
  | zero => intro s x2 x3 j4 q h; cases h
  | succ n ih =>
    have hk56 : ∀ {s : ev_M} {x2 : Int32} {x3 : Int32} {j4 : Option ev_V} {q : ev_M × Int32}, fTape_readsEntry_4_1010_h56 n s x2 x3 = some q → RR 226 56 [oR 4 0, oR 1010 0, oI x2, oI x3, j4] [] s (cvI q) := fun h => ih _ _ _ _ _ h
    intro s x2 x3 j4 q h
    refine rg_step 3 (G' := fun f => ev_after ((fSlen 1010).map (cvP s)) (fun q => evT f 226 61 [oR 4 0, oR 1010 0, oI x2, oI x3, nn] (q.2 ++ [vI x3]) q.1)) (fun _ => rfl) (rg_bd1 h fun v1 hc h => rg_prm (q := cvP s v1) (by rw [hc]; rfl) ?_)
    refine rg_step 1 (G' := fun f => if x3 < v1 then evT f 226 64 [oR 4 0, oR 1010 0, oI x2, oI x3, nn] [] s else evT f 226 97 [oR 4 0, oR 1010 0, oI x2, oI x3, nn] [] s) (fun _ => rfl) (rg_if h (fun h => ?_) fun h => ?_)
    · refine rg_step 3 (G' := fun f => ev_after ((fSat 1010 x3).map (cvP s)) (fun q => evT f 226 69 [oR 4 0, oR 1010 0, oI x2, oI x3, nn] (q.2 ++ []) q.1)) (fun _ => rfl) (rg_bd1 h fun v2 hc h => rg_prm (q := cvP s v2) (by rw [hc]; rfl) ?_)
      refine rg_step 4 (G' := fun f => ev_after (evT f 227 0 [oR 4 0, oI v2] [] s) (fun q => evT f 226 77 [oR 4 0, oR 1010 0, oI x2, oI x3, oI v2] (q.2 ++ []) q.1)) (fun _ => rfl) (rg_bd2 h fun s3 v4 hc h => rg_call (q := cvI (s3, v4)) (T_fTape_reads_4 hc) ?_)
      refine rg_step 1 (G' := fun f => if v4 = 0 then evT f 226 80 [oR 4 0, oR 1010 0, oI x2, oI x3, oI v2] [] s3 else evT f 226 82 [oR 4 0, oR 1010 0, oI x2, oI x3, oI v2] [] s3) (fun _ => rfl) (rg_if h (fun h => ?_) fun h => ?_)
      · exact rg_end 2 (fun _ => rfl) (by cases h; rfl)
      · refine rg_step 3 (G' := fun f => if v2 = (cI 59) then evT f 226 89 [oR 4 0, oR 1010 0, oI x2, oI x3, oI v2] [] s3 else evT f 226 91 [oR 4 0, oR 1010 0, oI x2, oI x3, oI v2] [] s3) (fun _ => rfl) (rg_if h (fun h => ?_) fun h => ?_)
        · exact rg_end 2 (fun _ => rfl) (by cases h; rfl)
        · exact rg_step 2 (G' := fun f => evT f 226 56 [oR 4 0, oR 1010 0, oI x2, oI (x3 + cI 1), oI v2] [] s3) (fun _ => rfl) (hk56 h)
    · exact rg_end 2 (fun _ => rfl) (by cases h; rfl)
theorem t_fTape_readsEntry_4_1010_h56 {n : Nat} {s : ev_M} {x2 : Int32} {x3 : Int32} {j4 : Option ev_V} {q : ev_M × Int32} (h : fTape_readsEntry_4_1010_h56 n s x2 x3 = some q) : RR 226 56 [oR 4 0, oR 1010 0, oI x2, oI x3, j4] [] s (cvI q) := ti_fTape_readsEntry_4_1010_h56 n s x2 x3 j4 q h
theorem t_fTape_readsEntry_4_1010_b36 {s : ev_M} {x2 : Int32} {y0 : Int32} {j3 : Option ev_V} {j4 : Option ev_V} {q : ev_M × Int32} (h : fTape_readsEntry_4_1010_b36 s x2 y0 = some q) : RR 226 36 [oR 4 0, oR 1010 0, oI x2, j3, j4] [vI y0] s (cvI q) := by
  refine rg_step 3 (G' := fun f => if y0 < 0 then evT f 226 41 [oR 4 0, oR 1010 0, oI x2, oI y0, nn] [] s else evT f 226 43 [oR 4 0, oR 1010 0, oI x2, oI y0, nn] [] s) (fun _ => rfl) (rg_if h (fun h => ?_) fun h => ?_)
  · exact rg_end 2 (fun _ => rfl) (by cases h; rfl)
  · refine rg_step 6 (G' := fun f => evT f 226 53 [oR 4 0, oR 1010 0, oI x2, oI y0, nn] [] (wI s 4 2 ((s.1 4 2) + (cI 1)))) (fun _ => rfl) (rg_ltM h fun s5 h => ?_)
    exact rg_step 1 (G' := fun f => evT f 226 56 [oR 4 0, oR 1010 0, oI x2, oI (y0 + cI 1), nn] [] s5) (fun _ => rfl) ((t_fTape_readsEntry_4_1010_h56) h)
theorem t_fTape_readsEntry_4_1010_b35 {s : ev_M} {x2 : Int32} {j3 : Option ev_V} {j4 : Option ev_V} {q : ev_M × Int32} (h : fTape_readsEntry_4_1010_b35 s x2 = some q) : RR 226 35 [oR 4 0, oR 1010 0, oI x2, j3, j4] [] s (cvI q) := by
  exact rg_step 1 (G' := fun f => evT f 226 36 [oR 4 0, oR 1010 0, oI x2, nn, nn] [vI (cI (-1))] s) (fun _ => rfl) ((t_fTape_readsEntry_4_1010_b36) h)
theorem T_fTape_readsEntry_4_1010 {s : ev_M} {q : ev_M × Int32} (h : fTape_readsEntry_4_1010 s = some q) : RR 226 0 [oR 4 0, oR 1010 0, nn, nn, nn] [] s (cvI q) := by
  refine rg_step 3 (G' := fun f => evT f 226 5 [oR 4 0, oR 1010 0, nn, nn, nn] [] (wI s 4 4 (cI 0))) (fun _ => rfl) (rg_ltM h fun s6 h => ?_)
  refine rg_step 4 (G' := fun f => ev_after (evT f 224 0 [oR 4 0, oI (s6.1 4 2)] [] s6) (fun q => evT f 226 13 [oR 4 0, oR 1010 0, nn, nn, nn] (q.2 ++ []) q.1)) (fun _ => rfl) (rg_bd1 h fun v7 hc h => rg_call (q := cvP s6 v7) (T_fTape_byteAt_4 hc) ?_)
  refine rg_step 4 (G' := fun f => if v7 < (cI 65) then evT f 226 35 [oR 4 0, oR 1010 0, oI v7, nn, nn] [] s6 else evT f 226 20 [oR 4 0, oR 1010 0, oI v7, nn, nn] [] s6) (fun _ => rfl) (rg_if h (fun h => ?_) fun h => ?_)
  · exact (t_fTape_readsEntry_4_1010_b35) h
  · refine rg_step 3 (G' := fun f => if v7 ≤ (cI 90) then evT f 226 26 [oR 4 0, oR 1010 0, oI v7, nn, nn] [] s6 else evT f 226 35 [oR 4 0, oR 1010 0, oI v7, nn, nn] [] s6) (fun _ => rfl) (rg_if h (fun h => ?_) fun h => ?_)
    · refine rg_step 4 (G' := fun f => ev_after ((fSix 1010 (i2c v7)).map (cvP s6)) (fun q => evT f 226 32 [oR 4 0, oR 1010 0, oI v7, nn, nn] (q.2 ++ []) q.1)) (fun _ => rfl) (rg_bd1 h fun v8 hc h => rg_prm (q := cvP s6 v8) (by rw [hc]; rfl) ?_)
      exact rg_step 1 (G' := fun f => evT f 226 36 [oR 4 0, oR 1010 0, oI v7, nn, nn] [vI v8] s6) (fun _ => rfl) ((t_fTape_readsEntry_4_1010_b36) h)
    · exact (t_fTape_readsEntry_4_1010_b35) h
theorem T_fBook_addsStreet_4 {s : ev_M} {a1 : Int32} {q : ev_M × Int32} (h : fBook_addsStreet_4 s a1 = some q) : RR 16 0 [oR 30 0, oI a1, oR 4 0, nn, nn, nn] [] s (cvI q) := by
  refine rg_step 5 (G' := fun f => evT f 16 7 [oR 30 0, oI a1, oR 4 0, oI (s.1 6 (ix (cI 1))), nn, nn] [] s) (fun _ => rfl) (rg_ltI (P := fun v1 => RG (fun f => evT f 16 7 [oR 30 0, oI a1, oR 4 0, oI v1, nn, nn] [] s) (cvI q)) h fun v1 h => ?_)
  refine rg_step 5 (G' := fun f => evT f 16 15 [oR 30 0, oI a1, oR 4 0, oI v1, oI (s.1 6 (ix (cI 2))), nn] [] s) (fun _ => rfl) (rg_ltI (P := fun v2 => RG (fun f => evT f 16 15 [oR 30 0, oI a1, oR 4 0, oI v1, oI v2, nn] [] s) (cvI q)) h fun v2 h => ?_)
  refine rg_step 5 (G' := fun f => evT f 16 23 [oR 30 0, oI a1, oR 4 0, oI v1, oI v2, oI (s.1 6 (ix (cI 3)))] [] s) (fun _ => rfl) (rg_ltI (P := fun v3 => RG (fun f => evT f 16 23 [oR 30 0, oI a1, oR 4 0, oI v1, oI v2, oI v3] [] s) (cvI q)) h fun v3 h => ?_)
  refine rg_step 5 (G' := fun f => ev_after (evT f 23 0 [oR 30 0, oI a1, oL (s.2.1 4 5), nn, nn] [] s) (fun q => evT f 16 32 [oR 30 0, oI a1, oR 4 0, oI v1, oI v2, oI v3] (q.2 ++ []) q.1)) (fun _ => rfl) (rg_bd1 h fun v4 hc h => rg_call (q := cvP s v4) (T_fBook_streetOf hc) ?_)
  refine rg_step 2 (G' := fun f => if v4 = (cI (-1)) then evT f 16 36 [oR 30 0, oI a1, oR 4 0, oI v1, oI v2, oI v3] [] s else evT f 16 45 [oR 30 0, oI a1, oR 4 0, oI v1, oI v2, oI v3] [] s) (fun _ => rfl) (rg_if h (fun h => ?_) fun h => ?_)
  · refine rg_step 4 (G' := fun f => if (s.1 30 4) < (cI 30) then evT f 16 47 [oR 30 0, oI a1, oR 4 0, oI v1, oI v2, oI v3] [] s else evT f 16 45 [oR 30 0, oI a1, oR 4 0, oI v1, oI v2, oI v3] [] s) (fun _ => rfl) (rg_if h (fun h => ?_) fun h => ?_)
    · refine rg_step 4 (G' := fun f => ev_after (evT f 308 0 [oI v1, oI (cI 0), oI (cI 999)] [] s) (fun q => evT f 16 55 [oR 30 0, oI a1, oR 4 0, oI v1, oI v2, oI v3] (q.2 ++ []) q.1)) (fun _ => rfl) (rg_bd1 h fun v5 hc h => rg_call (q := cvP s v5) (T_fPH_outside hc) ?_)
      refine rg_step 1 (G' := fun f => if v5 = 0 then evT f 16 58 [oR 30 0, oI a1, oR 4 0, oI v1, oI v2, oI v3] [] s else evT f 16 80 [oR 30 0, oI a1, oR 4 0, oI v1, oI v2, oI v3] [] s) (fun _ => rfl) (rg_if h (fun h => ?_) fun h => ?_)
      · refine rg_step 4 (G' := fun f => ev_after (evT f 308 0 [oI v2, oI (cI 0), oI (cI 999)] [] s) (fun q => evT f 16 67 [oR 30 0, oI a1, oR 4 0, oI v1, oI v2, oI v3] (q.2 ++ []) q.1)) (fun _ => rfl) (rg_bd1 h fun v6 hc h => rg_call (q := cvP s v6) (T_fPH_outside hc) ?_)
        refine rg_step 1 (G' := fun f => if v6 = 0 then evT f 16 70 [oR 30 0, oI a1, oR 4 0, oI v1, oI v2, oI v3] [] s else evT f 16 80 [oR 30 0, oI a1, oR 4 0, oI v1, oI v2, oI v3] [] s) (fun _ => rfl) (rg_if h (fun h => ?_) fun h => ?_)
        · refine rg_step 4 (G' := fun f => ev_after (evT f 308 0 [oI v3, oI (cI 0), oI (cI 3)] [] s) (fun q => evT f 16 77 [oR 30 0, oI a1, oR 4 0, oI v1, oI v2, oI v3] (q.2 ++ []) q.1)) (fun _ => rfl) (rg_bd1 h fun v7 hc h => rg_call (q := cvP s v7) (T_fPH_outside hc) ?_)
          refine rg_step 1 (G' := fun f => if v7 = 0 then evT f 16 82 [oR 30 0, oI a1, oR 4 0, oI v1, oI v2, oI v3] [] s else evT f 16 80 [oR 30 0, oI a1, oR 4 0, oI v1, oI v2, oI v3] [] s) (fun _ => rfl) (rg_if h (fun h => ?_) fun h => ?_)
          · refine rg_step 8 (G' := fun f => if inb (s.1 30 4) 30 = true then evT f 16 94 [oR 30 0, oI a1, oR 4 0, oI v1, oI v2, oI v3] [] (wI s (33 + (ix (cI 3))) (ix (s.1 30 4)) a1) else none) (fun _ => rfl) (rg_gd h fun h => rg_ltM h fun s8 h => ?_)
            refine rg_step 8 (G' := fun f => if inb (s8.1 30 4) 30 = true then evT f 16 106 [oR 30 0, oI a1, oR 4 0, oI v1, oI v2, oI v3] [] (wI s8 (33 + (ix (cI 0))) (ix (s8.1 30 4)) v1) else none) (fun _ => rfl) (rg_gd h fun h => rg_ltM h fun s9 h => ?_)
            refine rg_step 8 (G' := fun f => if inb (s9.1 30 4) 30 = true then evT f 16 119 [oR 30 0, oI a1, oR 4 0, oI v1, oI v2, oI v3] [] (wI s9 (33 + (ix (cI 1))) (ix (s9.1 30 4)) v2) else none) (fun _ => rfl) (rg_gd h fun h => rg_ltM h fun s10 h => ?_)
            refine rg_step 8 (G' := fun f => if inb (s10.1 30 4) 30 = true then evT f 16 132 [oR 30 0, oI a1, oR 4 0, oI v1, oI v2, oI v3] [] (wI s10 (33 + (ix (cI 2))) (ix (s10.1 30 4)) v3) else none) (fun _ => rfl) (rg_gd h fun h => rg_ltM h fun s11 h => ?_)
            refine rg_step 9 (G' := fun f => evT f 16 147 [oR 30 0, oI a1, oR 4 0, oI v1, oI v2, oI v3] [vI (s11.1 30 4), vR 37 0] (wI s11 30 4 ((s11.1 30 4) + (cI 1)))) (fun _ => rfl) (rg_ltM h fun s12 h => ?_)
            refine rg_step 3 (G' := fun f => if inb (s11.1 30 4) 30 = true then evT f 16 152 [oR 30 0, oI a1, oR 4 0, oI v1, oI v2, oI v3] [] (wL s12 37 (ix (s11.1 30 4)) (s12.2.1 4 5)) else none) (fun _ => rfl) (rg_gd h fun h => rg_ltM h fun s13 h => ?_)
            exact rg_end 2 (fun _ => rfl) (by cases h; rfl)
          · exact rg_end 2 (fun _ => rfl) (by cases h; rfl)
        · exact rg_end 2 (fun _ => rfl) (by cases h; rfl)
      · exact rg_end 2 (fun _ => rfl) (by cases h; rfl)
    · exact rg_end 2 (fun _ => rfl) (by cases h; rfl)
  · exact rg_end 2 (fun _ => rfl) (by cases h; rfl)
theorem t_fBook_addsRange_4_b109 {k71 : ev_M → Int32 → Int32 → Int32 → Int32 → Int32 → Option (ev_M × Int32)} (hk71 : ∀ {s : ev_M} {x1 : Int32} {x3 : Int32} {x4 : Int32} {x5 : Int32} {x6 : Int32} {j2 : Option ev_V} {q : ev_M × Int32}, k71 s x1 x3 x4 x5 x6 = some q → RR 17 71 [oR 30 0, oI x1, j2, oI x3, oI x4, oI x5, oI x6] [] s (cvI q)) {s : ev_M} {x1 : Int32} {x3 : Int32} {x4 : Int32} {x5 : Int32} {x6 : Int32} {j2 : Option ev_V} {q : ev_M × Int32} (h : fBook_addsRange_4_b109 k71 s x1 x3 x4 x5 x6 = some q) : RR 17 109 [oR 30 0, oI x1, j2, oI x3, oI x4, oI x5, oI x6] [] s (cvI q) := by
  exact rg_step 2 (G' := fun f => evT f 17 71 [oR 30 0, oI x1, nn, oI x3, oI x4, oI x5, oI (x6 + cI 1)] [] s) (fun _ => rfl) (hk71 h)
theorem ti_fBook_addsRange_4_h71 : ∀ (n : Nat) (s : ev_M) (x1 : Int32) (x3 : Int32) (x4 : Int32) (x5 : Int32) (x6 : Int32) (j2 : Option ev_V) (q : ev_M × Int32), fBook_addsRange_4_h71 n s x1 x3 x4 x5 x6 = some q → RR 17 71 [oR 30 0, oI x1, j2, oI x3, oI x4, oI x5, oI x6] [] s (cvI q) := by
  intro n
  induction n with
  | zero => intro s x1 x3 x4 x5 x6 j2 q h; cases h
  | succ n ih =>
    have hk71 : ∀ {s : ev_M} {x1 : Int32} {x3 : Int32} {x4 : Int32} {x5 : Int32} {x6 : Int32} {j2 : Option ev_V} {q : ev_M × Int32}, fBook_addsRange_4_h71 n s x1 x3 x4 x5 x6 = some q → RR 17 71 [oR 30 0, oI x1, j2, oI x3, oI x4, oI x5, oI x6] [] s (cvI q) := fun h => ih _ _ _ _ _ _ _ _ h
    intro s x1 x3 x4 x5 x6 j2 q h
    refine rg_step 4 (G' := fun f => if x6 < (s.1 30 7) then evT f 17 80 [oR 30 0, oI x1, nn, oI x3, oI x4, oI x5, oI x6] [] s else evT f 17 115 [oR 30 0, oI x1, nn, oI x3, oI x4, oI x5, oI x6] [] s) (fun _ => rfl) (rg_if h (fun h => ?_) fun h => ?_)
    · refine rg_step 6 (G' := fun f => if inb x6 60 = true then evT f 17 89 [oR 30 0, oI x1, nn, oI x3, oI x4, oI x5, oI x6] [vI (s.1 (39 + (ix (cI 0))) (ix x6))] s else none) (fun _ => rfl) (rg_gd h fun h => ?_)
      refine rg_step 2 (G' := fun f => if (s.1 (39 + (ix (cI 0))) (ix x6)) = x1 then evT f 17 93 [oR 30 0, oI x1, nn, oI x3, oI x4, oI x5, oI x6] [] s else evT f 17 109 [oR 30 0, oI x1, nn, oI x3, oI x4, oI x5, oI x6] [] s) (fun _ => rfl) (rg_if h (fun h => ?_) fun h => ?_)
      · refine rg_step 6 (G' := fun f => ev_after (evT f 18 0 [oR 30 0, oI x6, oI x3, oI x4, oI x5, nn, nn, nn] [] s) (fun q => evT f 17 104 [oR 30 0, oI x1, nn, oI x3, oI x4, oI x5, oI x6] (q.2 ++ []) q.1)) (fun _ => rfl) (rg_bd1 h fun v1 hc h => rg_call (q := cvP s v1) (T_fBook_sharesHouse hc) ?_)
        refine rg_step 1 (G' := fun f => if v1 = 0 then evT f 17 109 [oR 30 0, oI x1, nn, oI x3, oI x4, oI x5, oI x6] [] s else evT f 17 107 [oR 30 0, oI x1, nn, oI x3, oI x4, oI x5, oI x6] [] s) (fun _ => rfl) (rg_if h (fun h => ?_) fun h => ?_)
        · exact (t_fBook_addsRange_4_b109 hk71) h
        · exact rg_end 2 (fun _ => rfl) (by cases h; rfl)
      · exact (t_fBook_addsRange_4_b109 hk71) h
    · refine rg_step 8 (G' := fun f => if inb (s.1 30 7) 60 = true then evT f 17 127 [oR 30 0, oI x1, nn, oI x3, oI x4, oI x5, oI x6] [] (wI s (39 + (ix (cI 0))) (ix (s.1 30 7)) x1) else none) (fun _ => rfl) (rg_gd h fun h => rg_ltM h fun s2 h => ?_)
      refine rg_step 8 (G' := fun f => if inb (s2.1 30 7) 60 = true then evT f 17 139 [oR 30 0, oI x1, nn, oI x3, oI x4, oI x5, oI x6] [] (wI s2 (39 + (ix (cI 1))) (ix (s2.1 30 7)) x3) else none) (fun _ => rfl) (rg_gd h fun h => rg_ltM h fun s3 h => ?_)
      refine rg_step 8 (G' := fun f => if inb (s3.1 30 7) 60 = true then evT f 17 152 [oR 30 0, oI x1, nn, oI x3, oI x4, oI x5, oI x6] [] (wI s3 (39 + (ix (cI 2))) (ix (s3.1 30 7)) x4) else none) (fun _ => rfl) (rg_gd h fun h => rg_ltM h fun s4 h => ?_)
      refine rg_step 11 (G' := fun f => evT f 17 169 [oR 30 0, oI x1, nn, oI x3, oI x4, oI x5, oI x6] [vI (s4.1 30 7), vR 39 (ix (cI 3))] (wI s4 30 7 ((s4.1 30 7) + (cI 1)))) (fun _ => rfl) (rg_ltM h fun s5 h => ?_)
      refine rg_step 2 (G' := fun f => if inb (s4.1 30 7) 60 = true then evT f 17 172 [oR 30 0, oI x1, nn, oI x3, oI x4, oI x5, oI x6] [] (wI s5 (39 + (ix (cI 3))) (ix (s4.1 30 7)) x5) else none) (fun _ => rfl) (rg_gd h fun h => rg_ltM h fun s6 h => ?_)
      exact rg_end 2 (fun _ => rfl) (by cases h; rfl)
theorem t_fBook_addsRange_4_h71 {n : Nat} {s : ev_M} {x1 : Int32} {x3 : Int32} {x4 : Int32} {x5 : Int32} {x6 : Int32} {j2 : Option ev_V} {q : ev_M × Int32} (h : fBook_addsRange_4_h71 n s x1 x3 x4 x5 x6 = some q) : RR 17 71 [oR 30 0, oI x1, j2, oI x3, oI x4, oI x5, oI x6] [] s (cvI q) := ti_fBook_addsRange_4_h71 n s x1 x3 x4 x5 x6 j2 q h
theorem T_fBook_addsRange_4 {s : ev_M} {a1 : Int32} {q : ev_M × Int32} (h : fBook_addsRange_4 s a1 = some q) : RR 17 0 [oR 30 0, oI a1, oR 4 0, nn, nn, nn, nn] [] s (cvI q) := by
  refine rg_step 5 (G' := fun f => evT f 17 7 [oR 30 0, oI a1, oR 4 0, oI (s.1 6 (ix (cI 1))), nn, nn, nn] [] s) (fun _ => rfl) (rg_ltI (P := fun v7 => RG (fun f => evT f 17 7 [oR 30 0, oI a1, oR 4 0, oI v7, nn, nn, nn] [] s) (cvI q)) h fun v7 h => ?_)
  refine rg_step 5 (G' := fun f => evT f 17 15 [oR 30 0, oI a1, oR 4 0, oI v7, oI (s.1 6 (ix (cI 2))), nn, nn] [] s) (fun _ => rfl) (rg_ltI (P := fun v8 => RG (fun f => evT f 17 15 [oR 30 0, oI a1, oR 4 0, oI v7, oI v8, nn, nn] [] s) (cvI q)) h fun v8 h => ?_)
  refine rg_step 5 (G' := fun f => evT f 17 23 [oR 30 0, oI a1, oR 4 0, oI v7, oI v8, oI (s.1 6 (ix (cI 3))), nn] [] s) (fun _ => rfl) (rg_ltI (P := fun v9 => RG (fun f => evT f 17 23 [oR 30 0, oI a1, oR 4 0, oI v7, oI v8, oI v9, nn] [] s) (cvI q)) h fun v9 h => ?_)
  refine rg_step 4 (G' := fun f => ev_after (evT f 308 0 [oI v7, oI (cI 0), oI (cI 2)] [] s) (fun q => evT f 17 29 [oR 30 0, oI a1, oR 4 0, oI v7, oI v8, oI v9, nn] (q.2 ++ []) q.1)) (fun _ => rfl) (rg_bd1 h fun v10 hc h => rg_call (q := cvP s v10) (T_fPH_outside hc) ?_)
  refine rg_step 1 (G' := fun f => if v10 = 0 then evT f 17 32 [oR 30 0, oI a1, oR 4 0, oI v7, oI v8, oI v9, nn] [] s else evT f 17 66 [oR 30 0, oI a1, oR 4 0, oI v7, oI v8, oI v9, nn] [] s) (fun _ => rfl) (rg_if h (fun h => ?_) fun h => ?_)
  · refine rg_step 4 (G' := fun f => ev_after (evT f 308 0 [oI v8, oI (cI 1), oI (cI 999)] [] s) (fun q => evT f 17 41 [oR 30 0, oI a1, oR 4 0, oI v7, oI v8, oI v9, nn] (q.2 ++ []) q.1)) (fun _ => rfl) (rg_bd1 h fun v11 hc h => rg_call (q := cvP s v11) (T_fPH_outside hc) ?_)
    refine rg_step 1 (G' := fun f => if v11 = 0 then evT f 17 44 [oR 30 0, oI a1, oR 4 0, oI v7, oI v8, oI v9, nn] [] s else evT f 17 66 [oR 30 0, oI a1, oR 4 0, oI v7, oI v8, oI v9, nn] [] s) (fun _ => rfl) (rg_if h (fun h => ?_) fun h => ?_)
    · refine rg_step 4 (G' := fun f => ev_after (evT f 308 0 [oI v9, oI v8, oI (cI 999)] [] s) (fun q => evT f 17 54 [oR 30 0, oI a1, oR 4 0, oI v7, oI v8, oI v9, nn] (q.2 ++ []) q.1)) (fun _ => rfl) (rg_bd1 h fun v12 hc h => rg_call (q := cvP s v12) (T_fPH_outside hc) ?_)
      refine rg_step 1 (G' := fun f => if v12 = 0 then evT f 17 57 [oR 30 0, oI a1, oR 4 0, oI v7, oI v8, oI v9, nn] [] s else evT f 17 66 [oR 30 0, oI a1, oR 4 0, oI v7, oI v8, oI v9, nn] [] s) (fun _ => rfl) (rg_if h (fun h => ?_) fun h => ?_)
      · refine rg_step 4 (G' := fun f => if (s.1 30 7) < (cI 60) then evT f 17 68 [oR 30 0, oI a1, oR 4 0, oI v7, oI v8, oI v9, nn] [] s else evT f 17 66 [oR 30 0, oI a1, oR 4 0, oI v7, oI v8, oI v9, nn] [] s) (fun _ => rfl) (rg_if h (fun h => ?_) fun h => ?_)
        · exact rg_step 2 (G' := fun f => evT f 17 71 [oR 30 0, oI a1, oR 4 0, oI v7, oI v8, oI v9, oI (cI 0)] [] s) (fun _ => rfl) ((t_fBook_addsRange_4_h71) h)
        · exact rg_end 2 (fun _ => rfl) (by cases h; rfl)
      · exact rg_end 2 (fun _ => rfl) (by cases h; rfl)
    · exact rg_end 2 (fun _ => rfl) (by cases h; rfl)
  · exact rg_end 2 (fun _ => rfl) (by cases h; rfl)
theorem T_fBook_adds_4 {s : ev_M} {a1 : Int32} {q : ev_M × Int32} (h : fBook_adds_4 s a1 = some q) : RR 14 0 [oR 30 0, oI a1, oR 4 0, nn, nn] [] s (cvI q) := by
  refine rg_step 3 (G' := fun f => if a1 = (cI 80) then evT f 14 6 [oR 30 0, oI a1, oR 4 0, nn, nn] [] s else evT f 14 17 [oR 30 0, oI a1, oR 4 0, nn, nn] [] s) (fun _ => rfl) (rg_if h (fun h => ?_) fun h => ?_)
  · refine rg_step 6 (G' := fun f => ev_after (evT f 15 0 [oR 30 0, oI (s.1 6 (ix (cI 0)))] [] s) (fun q => evT f 14 16 [oR 30 0, oI a1, oR 4 0, nn, nn] (q.2 ++ []) q.1)) (fun _ => rfl) (rg_bd2 h fun s1 v2 hc h => rg_call (q := cvI (s1, v2)) (T_fBook_addsPlace hc) ?_)
    exact rg_step 1 (G' := fun f => if bz v2 = true then some (s1, [vI v2]) else none) (fun _ => rfl) (rg_gd h fun h => rg_end 0 (fun _ => rfl) (by cases h; rfl))
  · refine rg_step 6 (G' := fun f => ev_after (evT f 22 0 [oR 30 0, oI (s.1 6 (ix (cI 0))), nn] [] s) (fun q => evT f 14 27 [oR 30 0, oI a1, oR 4 0, nn, nn] (q.2 ++ []) q.1)) (fun _ => rfl) (rg_bd1 h fun v3 hc h => rg_call (q := cvP s v3) (T_fBook_placeOf hc) ?_)
    refine rg_step 4 (G' := fun f => if v3 = (cI (-1)) then evT f 14 33 [oR 30 0, oI a1, oR 4 0, oI v3, nn] [] s else evT f 14 35 [oR 30 0, oI a1, oR 4 0, oI v3, nn] [] s) (fun _ => rfl) (rg_if h (fun h => ?_) fun h => ?_)
    · exact rg_end 2 (fun _ => rfl) (by cases h; rfl)
    · refine rg_step 3 (G' := fun f => if a1 = (cI 83) then evT f 14 41 [oR 30 0, oI a1, oR 4 0, oI v3, nn] [] s else evT f 14 48 [oR 30 0, oI a1, oR 4 0, oI v3, nn] [] s) (fun _ => rfl) (rg_if h (fun h => ?_) fun h => ?_)
      · refine rg_step 4 (G' := fun f => ev_after (evT f 16 0 [oR 30 0, oI v3, oR 4 0, nn, nn, nn] [] s) (fun q => evT f 14 47 [oR 30 0, oI a1, oR 4 0, oI v3, nn] (q.2 ++ []) q.1)) (fun _ => rfl) (rg_bd2 h fun s4 v5 hc h => rg_call (q := cvI (s4, v5)) (T_fBook_addsStreet_4 hc) ?_)
        exact rg_step 1 (G' := fun f => if bz v5 = true then some (s4, [vI v5]) else none) (fun _ => rfl) (rg_gd h fun h => rg_end 0 (fun _ => rfl) (by cases h; rfl))
      · refine rg_step 5 (G' := fun f => ev_after (evT f 23 0 [oR 30 0, oI v3, oL (s.2.1 4 5), nn, nn] [] s) (fun q => evT f 14 57 [oR 30 0, oI a1, oR 4 0, oI v3, nn] (q.2 ++ []) q.1)) (fun _ => rfl) (rg_bd1 h fun v6 hc h => rg_call (q := cvP s v6) (T_fBook_streetOf hc) ?_)
        refine rg_step 4 (G' := fun f => if v6 = (cI (-1)) then evT f 14 65 [oR 30 0, oI a1, oR 4 0, oI v3, oI v6] [] s else evT f 14 67 [oR 30 0, oI a1, oR 4 0, oI v3, oI v6] [] s) (fun _ => rfl) (rg_if h (fun h => ?_) fun h => ?_)
        · exact rg_end 2 (fun _ => rfl) (by cases h; rfl)
        · refine rg_step 3 (G' := fun f => if a1 = (cI 82) then evT f 14 73 [oR 30 0, oI a1, oR 4 0, oI v3, oI v6] [] s else evT f 14 83 [oR 30 0, oI a1, oR 4 0, oI v3, oI v6] [] s) (fun _ => rfl) (rg_if h (fun h => ?_) fun h => ?_)
          · refine rg_step 4 (G' := fun f => ev_after (evT f 17 0 [oR 30 0, oI v6, oR 4 0, nn, nn, nn, nn] [] s) (fun q => evT f 14 80 [oR 30 0, oI a1, oR 4 0, oI v3, oI v6] (q.2 ++ []) q.1)) (fun _ => rfl) (rg_bd2 h fun s7 v8 hc h => rg_call (q := cvI (s7, v8)) (T_fBook_addsRange_4 hc) ?_)
            exact rg_step 2 (G' := fun f => if bz v8 = true then some (s7, [vI v8]) else none) (fun _ => rfl) (rg_gd h fun h => rg_end 0 (fun _ => rfl) (by cases h; rfl))
          · refine rg_step 7 (G' := fun f => ev_after (evT f 20 0 [oR 30 0, oI v6, oI (s.1 6 (ix (cI 1)))] [] s) (fun q => evT f 14 95 [oR 30 0, oI a1, oR 4 0, oI v3, oI v6] (q.2 ++ []) q.1)) (fun _ => rfl) (rg_bd2 h fun s9 v10 hc h => rg_call (q := cvI (s9, v10)) (T_fBook_addsPoint hc) ?_)
            exact rg_step 1 (G' := fun f => if bz v10 = true then some (s9, [vI v10]) else none) (fun _ => rfl) (rg_gd h fun h => rg_end 0 (fun _ => rfl) (by cases h; rfl))
theorem T_fTape_hasMore_4 {s : ev_M} {q : Int32} (h : fTape_hasMore_4 s = some q) : RR 225 0 [oR 4 0] [] s (cvP s q) := by
  refine rg_step 5 (G' := fun f => if (s.1 4 2) < (s.1 4 1) then evT f 225 11 [oR 4 0] [] s else evT f 225 15 [oR 4 0] [] s) (fun _ => rfl) (rg_if h (fun h => ?_) fun h => ?_)
  · exact rg_end 3 (fun _ => rfl) (by cases h; rfl)
  · exact rg_end 2 (fun _ => rfl) (by cases h; rfl)
theorem t_fBook_readText_4_b102 {k33 : ev_M → Int32 → Int32 → Int32 → Int32 → Int32 → Int32 → Option (ev_M × Int32)} (hk33 : ∀ {s : ev_M} {x2 : Int32} {x3 : Int32} {x4 : Int32} {x5 : Int32} {x6 : Int32} {x7 : Int32} {j8 : Option ev_V} {j9 : Option ev_V} {q : ev_M × Int32}, k33 s x2 x3 x4 x5 x6 x7 = some q → RR 13 33 [oR 30 0, oR 4 0, oI x2, oI x3, oI x4, oI x5, oI x6, oI x7, j8, j9] [] s (cvI q)) {s : ev_M} {x2 : Int32} {x3 : Int32} {x4 : Int32} {x5 : Int32} {x6 : Int32} {x7 : Int32} {j8 : Option ev_V} {j9 : Option ev_V} {q : ev_M × Int32} (h : fBook_readText_4_b102 k33 s x2 x3 x4 x5 x6 x7 = some q) : RR 13 102 [oR 30 0, oR 4 0, oI x2, oI x3, oI x4, oI x5, oI x6, oI x7, j8, j9] [] s (cvI q) := by
  exact rg_step 2 (G' := fun f => evT f 13 33 [oR 30 0, oR 4 0, oI x2, oI x3, oI x4, oI x5, oI x6, oI (x7 + cI 1), nn, nn] [] s) (fun _ => rfl) (hk33 h)
theorem t_fBook_readText_4_b59 {k33 : ev_M → Int32 → Int32 → Int32 → Int32 → Int32 → Int32 → Option (ev_M × Int32)} (hk33 : ∀ {s : ev_M} {x2 : Int32} {x3 : Int32} {x4 : Int32} {x5 : Int32} {x6 : Int32} {x7 : Int32} {j8 : Option ev_V} {j9 : Option ev_V} {q : ev_M × Int32}, k33 s x2 x3 x4 x5 x6 x7 = some q → RR 13 33 [oR 30 0, oR 4 0, oI x2, oI x3, oI x4, oI x5, oI x6, oI x7, j8, j9] [] s (cvI q)) {s : ev_M} {x2 : Int32} {x3 : Int32} {x4 : Int32} {x5 : Int32} {x6 : Int32} {x7 : Int32} {j8 : Option ev_V} {j9 : Option ev_V} {q : ev_M × Int32} (h : fBook_readText_4_b59 k33 s x2 x3 x4 x5 x6 x7 = some q) : RR 13 59 [oR 30 0, oR 4 0, oI x2, oI x3, oI x4, oI x5, oI x6, oI x7, j8, j9] [] s (cvI q) := by
  refine rg_step 3 (G' := fun f => evT f 13 65 [oR 30 0, oR 4 0, oI x2, oI x3, oI x4, oI x5, oI x6, oI x7, oI (s.1 4 2), nn] [] s) (fun _ => rfl) (rg_ltI (P := fun v1 => RG (fun f => evT f 13 65 [oR 30 0, oR 4 0, oI x2, oI x3, oI x4, oI x5, oI x6, oI x7, oI v1, nn] [] s) (cvI q)) h fun v1 h => ?_)
  refine rg_step 3 (G' := fun f => ev_after (evT f 226 0 [oR 4 0, oR 1010 0, nn, nn, nn] [] s) (fun q => evT f 13 71 [oR 30 0, oR 4 0, oI x2, oI x3, oI x4, oI x5, oI x6, oI x7, oI v1, nn] (q.2 ++ []) q.1)) (fun _ => rfl) (rg_bd2 h fun s2 v3 hc h => rg_call (q := cvI (s2, v3)) (T_fTape_readsEntry_4_1010 hc) ?_)
  refine rg_step 4 (G' := fun f => if v3 = (cI (-1)) then evT f 13 79 [oR 30 0, oR 4 0, oI x2, oI x3, oI x4, oI x5, oI x6, oI x7, oI v1, oI v3] [] s2 else evT f 13 88 [oR 30 0, oR 4 0, oI x2, oI x3, oI x4, oI x5, oI x6, oI x7, oI v1, oI v3] [] s2) (fun _ => rfl) (rg_if h (fun h => ?_) fun h => ?_)
  · refine rg_step 3 (G' := fun f => evT f 13 85 [oR 30 0, oR 4 0, oI x2, oI x3, oI x4, oI x5, oI (s2.1 4 2), oI x7, oI v1, oI v3] [] s2) (fun _ => rfl) (rg_ltI (P := fun v4 => RG (fun f => evT f 13 85 [oR 30 0, oR 4 0, oI x2, oI x3, oI x4, oI x5, oI v4, oI x7, oI v1, oI v3] [] s2) (cvI q)) h fun v4 h => ?_)
    exact rg_step 1 (G' := fun f => evT f 13 102 [oR 30 0, oR 4 0, oI x2, oI x3, oI x4, oI x5, oI v4, oI x7, oI v1, oI v3] [] s2) (fun _ => rfl) ((t_fBook_readText_4_b102 hk33) h)
  · refine rg_step 4 (G' := fun f => ev_after (evT f 14 0 [oR 30 0, oI v3, oR 4 0, nn, nn] [] s2) (fun q => evT f 13 95 [oR 30 0, oR 4 0, oI x2, oI x3, oI x4, oI x5, oI x6, oI x7, oI v1, oI v3] (q.2 ++ []) q.1)) (fun _ => rfl) (rg_bd2 h fun s5 v6 hc h => rg_call (q := cvI (s5, v6)) (T_fBook_adds_4 hc) ?_)
    refine rg_step 1 (G' := fun f => if v6 = 0 then evT f 13 98 [oR 30 0, oR 4 0, oI x2, oI x3, oI x4, oI x5, oI x6, oI x7, oI v1, oI v3] [] s5 else evT f 13 102 [oR 30 0, oR 4 0, oI x2, oI x3, oI x4, oI x5, oI x6, oI x7, oI v1, oI v3] [] s5) (fun _ => rfl) (rg_if h (fun h => ?_) fun h => ?_)
    · exact rg_step 2 (G' := fun f => evT f 13 102 [oR 30 0, oR 4 0, oI x2, oI x3, oI x4, oI x5, oI v1, oI x7, oI v1, oI v3] [] s5) (fun _ => rfl) ((t_fBook_readText_4_b102 hk33) h)
    · exact (t_fBook_readText_4_b102 hk33) h
theorem t_fBook_readText_4_b127 {s : ev_M} {x2 : Int32} {x3 : Int32} {x4 : Int32} {x5 : Int32} {x6 : Int32} {j1 : Option ev_V} {j7 : Option ev_V} {j8 : Option ev_V} {j9 : Option ev_V} {q : ev_M × Int32} (h : fBook_readText_4_b127 s x2 x3 x4 x5 x6 = some q) : RR 13 127 [oR 30 0, j1, oI x2, oI x3, oI x4, oI x5, oI x6, j7, j8, j9] [] s (cvI q) := by
  refine rg_step 6 (G' := fun f => ev_after (evT f 12 0 [oR 30 0, oI x2, oI x3, oI x4, oI x5] [] s) (fun q => evT f 13 137 [oR 30 0, nn, oI x2, oI x3, oI x4, oI x5, oI x6, nn, nn, nn] (q.2 ++ []) q.1)) (fun _ => rfl) (rg_bd1 h fun s7 hc h => rg_call (q := cvV s7) (T_fBook_keepFirst hc) ?_)
  refine rg_step 3 (G' := fun f => if x6 = (cI (-1)) then evT f 13 143 [oR 30 0, nn, oI x2, oI x3, oI x4, oI x5, oI x6, nn, nn, nn] [] s7 else evT f 13 148 [oR 30 0, nn, oI x2, oI x3, oI x4, oI x5, oI x6, nn, nn, nn] [] s7) (fun _ => rfl) (rg_if h (fun h => ?_) fun h => ?_)
  · exact rg_end 3 (fun _ => rfl) (by cases h; rfl)
  · exact rg_end 4 (fun _ => rfl) (by cases h; rfl)
theorem t_fBook_readText_4_b108 {s : ev_M} {x2 : Int32} {x3 : Int32} {x4 : Int32} {x5 : Int32} {x6 : Int32} {x7 : Int32} {j1 : Option ev_V} {j8 : Option ev_V} {j9 : Option ev_V} {q : ev_M × Int32} (h : fBook_readText_4_b108 s x2 x3 x4 x5 x6 x7 = some q) : RR 13 108 [oR 30 0, j1, oI x2, oI x3, oI x4, oI x5, oI x6, oI x7, j8, j9] [] s (cvI q) := by
  refine rg_step 3 (G' := fun f => if x6 = (cI (-1)) then evT f 13 114 [oR 30 0, nn, oI x2, oI x3, oI x4, oI x5, oI x6, oI x7, nn, nn] [] s else evT f 13 127 [oR 30 0, nn, oI x2, oI x3, oI x4, oI x5, oI x6, oI x7, nn, nn] [] s) (fun _ => rfl) (rg_if h (fun h => ?_) fun h => ?_)
  · refine rg_step 3 (G' := fun f => ev_after (evT f 123 0 [oR 9 0, nn] [] s) (fun q => evT f 13 121 [oR 30 0, nn, oI x2, oI x3, oI x4, oI x5, oI x6, oI x7, nn, nn] (q.2 ++ []) q.1)) (fun _ => rfl) (rg_bd2 h fun s8 v9 hc h => rg_call (q := cvI (s8, v9)) (T_fLog_admits hc) ?_)
    refine rg_step 1 (G' := fun f => if v9 = 0 then evT f 13 127 [oR 30 0, nn, oI x2, oI x3, oI x4, oI x5, oI x6, oI x7, nn, nn] [] s8 else evT f 13 124 [oR 30 0, nn, oI x2, oI x3, oI x4, oI x5, oI x6, oI x7, nn, nn] [] s8) (fun _ => rfl) (rg_if h (fun h => ?_) fun h => ?_)
    · exact (t_fBook_readText_4_b127) h
    · exact rg_end 2 (fun _ => rfl) (by cases h; rfl)
  · exact (t_fBook_readText_4_b127) h
theorem ti_fBook_readText_4_h33 : ∀ (n : Nat) (s : ev_M) (x2 : Int32) (x3 : Int32) (x4 : Int32) (x5 : Int32) (x6 : Int32) (x7 : Int32) (j8 : Option ev_V) (j9 : Option ev_V) (q : ev_M × Int32), fBook_readText_4_h33 n s x2 x3 x4 x5 x6 x7 = some q → RR 13 33 [oR 30 0, oR 4 0, oI x2, oI x3, oI x4, oI x5, oI x6, oI x7, j8, j9] [] s (cvI q) := by
  intro n
  induction n with
  | zero => intro s x2 x3 x4 x5 x6 x7 j8 j9 q h; cases h
  | succ n ih =>
    have hk33 : ∀ {s : ev_M} {x2 : Int32} {x3 : Int32} {x4 : Int32} {x5 : Int32} {x6 : Int32} {x7 : Int32} {j8 : Option ev_V} {j9 : Option ev_V} {q : ev_M × Int32}, fBook_readText_4_h33 n s x2 x3 x4 x5 x6 x7 = some q → RR 13 33 [oR 30 0, oR 4 0, oI x2, oI x3, oI x4, oI x5, oI x6, oI x7, j8, j9] [] s (cvI q) := fun h => ih _ _ _ _ _ _ _ _ _ _ h
    intro s x2 x3 x4 x5 x6 x7 j8 j9 q h
    refine rg_step 3 (G' := fun f => if x6 = (cI (-1)) then evT f 13 39 [oR 30 0, oR 4 0, oI x2, oI x3, oI x4, oI x5, oI x6, oI x7, nn, nn] [] s else evT f 13 108 [oR 30 0, oR 4 0, oI x2, oI x3, oI x4, oI x5, oI x6, oI x7, nn, nn] [] s) (fun _ => rfl) (rg_if h (fun h => ?_) fun h => ?_)
    · refine rg_step 3 (G' := fun f => if x7 < (cI 4096) then evT f 13 47 [oR 30 0, oR 4 0, oI x2, oI x3, oI x4, oI x5, oI x6, oI x7, nn, nn] [] s else evT f 13 108 [oR 30 0, oR 4 0, oI x2, oI x3, oI x4, oI x5, oI x6, oI x7, nn, nn] [] s) (fun _ => rfl) (rg_if h (fun h => ?_) fun h => ?_)
      · refine rg_step 2 (G' := fun f => if x7 = 0 then evT f 13 59 [oR 30 0, oR 4 0, oI x2, oI x3, oI x4, oI x5, oI x6, oI x7, nn, nn] [] s else evT f 13 52 [oR 30 0, oR 4 0, oI x2, oI x3, oI x4, oI x5, oI x6, oI x7, nn, nn] [] s) (fun _ => rfl) (rg_if h (fun h => ?_) fun h => ?_)
        · exact (t_fBook_readText_4_b59 hk33) h
        · refine rg_step 2 (G' := fun f => ev_after (evT f 225 0 [oR 4 0] [] s) (fun q => evT f 13 56 [oR 30 0, oR 4 0, oI x2, oI x3, oI x4, oI x5, oI x6, oI x7, nn, nn] (q.2 ++ []) q.1)) (fun _ => rfl) (rg_bd1 h fun v10 hc h => rg_call (q := cvP s v10) (T_fTape_hasMore_4 hc) ?_)
          refine rg_step 1 (G' := fun f => if v10 = 0 then evT f 13 108 [oR 30 0, oR 4 0, oI x2, oI x3, oI x4, oI x5, oI x6, oI x7, nn, nn] [] s else evT f 13 59 [oR 30 0, oR 4 0, oI x2, oI x3, oI x4, oI x5, oI x6, oI x7, nn, nn] [] s) (fun _ => rfl) (rg_if h (fun h => ?_) fun h => ?_)
          · exact (t_fBook_readText_4_b108) h
          · exact (t_fBook_readText_4_b59 hk33) h
      · exact (t_fBook_readText_4_b108) h
    · exact (t_fBook_readText_4_b108) h
theorem t_fBook_readText_4_h33 {n : Nat} {s : ev_M} {x2 : Int32} {x3 : Int32} {x4 : Int32} {x5 : Int32} {x6 : Int32} {x7 : Int32} {j8 : Option ev_V} {j9 : Option ev_V} {q : ev_M × Int32} (h : fBook_readText_4_h33 n s x2 x3 x4 x5 x6 x7 = some q) : RR 13 33 [oR 30 0, oR 4 0, oI x2, oI x3, oI x4, oI x5, oI x6, oI x7, j8, j9] [] s (cvI q) := ti_fBook_readText_4_h33 n s x2 x3 x4 x5 x6 x7 j8 j9 q h
theorem T_fBook_readText_4 {s : ev_M} {q : ev_M × Int32} (h : fBook_readText_4 s = some q) : RR 13 0 [oR 30 0, oR 4 0, nn, nn, nn, nn, nn, nn, nn, nn] [] s (cvI q) := by
  refine rg_step 3 (G' := fun f => evT f 13 5 [oR 30 0, oR 4 0, oI (s.1 30 2), nn, nn, nn, nn, nn, nn, nn] [] s) (fun _ => rfl) (rg_ltI (P := fun v11 => RG (fun f => evT f 13 5 [oR 30 0, oR 4 0, oI v11, nn, nn, nn, nn, nn, nn, nn] [] s) (cvI q)) h fun v11 h => ?_)
  refine rg_step 3 (G' := fun f => evT f 13 10 [oR 30 0, oR 4 0, oI v11, oI (s.1 30 4), nn, nn, nn, nn, nn, nn] [] s) (fun _ => rfl) (rg_ltI (P := fun v12 => RG (fun f => evT f 13 10 [oR 30 0, oR 4 0, oI v11, oI v12, nn, nn, nn, nn, nn, nn] [] s) (cvI q)) h fun v12 h => ?_)
  refine rg_step 3 (G' := fun f => evT f 13 16 [oR 30 0, oR 4 0, oI v11, oI v12, oI (s.1 30 7), nn, nn, nn, nn, nn] [] s) (fun _ => rfl) (rg_ltI (P := fun v13 => RG (fun f => evT f 13 16 [oR 30 0, oR 4 0, oI v11, oI v12, oI v13, nn, nn, nn, nn, nn] [] s) (cvI q)) h fun v13 h => ?_)
  refine rg_step 3 (G' := fun f => evT f 13 22 [oR 30 0, oR 4 0, oI v11, oI v12, oI v13, oI (s.1 30 9), nn, nn, nn, nn] [] s) (fun _ => rfl) (rg_ltI (P := fun v14 => RG (fun f => evT f 13 22 [oR 30 0, oR 4 0, oI v11, oI v12, oI v13, oI v14, nn, nn, nn, nn] [] s) (cvI q)) h fun v14 h => ?_)
  refine rg_step 7 (G' := fun f => evT f 13 33 [oR 30 0, oR 4 0, oI v11, oI v12, oI v13, oI v14, oI (cI (-1)), oI (cI 0), nn, nn] [] (wI s 4 2 (cI 0))) (fun _ => rfl) (rg_ltM h fun s15 h => ?_)
  exact (t_fBook_readText_4_h33) h
theorem t_fSheet_darken_4_b103 {k64 : ev_M → Int32 → Int32 → Int32 → Int32 → Option ev_M} (hk64 : ∀ {s : ev_M} {x2 : Int32} {x3 : Int32} {x4 : Int32} {x5 : Int32} {q : ev_M}, k64 s x2 x3 x4 x5 = some q → RR 198 64 [oR 52 0, oR 4 0, oI x2, oI x3, oI x4, oI x5] [] s (cvV q)) {s : ev_M} {x2 : Int32} {x3 : Int32} {x4 : Int32} {x5 : Int32} {y1 : Int32} {y2 : Int32} {q : ev_M} (h : fSheet_darken_4_b103 k64 s x2 x3 x4 x5 y1 y2 = some q) : RR 198 103 [oR 52 0, oR 4 0, oI x2, oI x3, oI x4, oI x5] [vI y2, vI y1, vR 53 0] s (cvV q) := by
  refine rg_step 2 (G' := fun f => if inb y1 4096 = true then evT f 198 105 [oR 52 0, oR 4 0, oI x2, oI x3, oI x4, oI x5] [] (wI s 53 (ix y1) (i2b (i2b y2))) else none) (fun _ => rfl) (rg_gd h fun h => rg_ltM h fun s1 h => ?_)
  exact rg_step 2 (G' := fun f => evT f 198 64 [oR 52 0, oR 4 0, oI x2, oI x3, oI x4, oI (x5 + cI 1)] [] s1) (fun _ => rfl) (hk64 h)
theorem t_fSheet_darken_4_b102 {k64 : ev_M → Int32 → Int32 → Int32 → Int32 → Option ev_M} (hk64 : ∀ {s : ev_M} {x2 : Int32} {x3 : Int32} {x4 : Int32} {x5 : Int32} {q : ev_M}, k64 s x2 x3 x4 x5 = some q → RR 198 64 [oR 52 0, oR 4 0, oI x2, oI x3, oI x4, oI x5] [] s (cvV q)) {s : ev_M} {x2 : Int32} {x3 : Int32} {x4 : Int32} {x5 : Int32} {y1 : Int32} {q : ev_M} (h : fSheet_darken_4_b102 k64 s x2 x3 x4 x5 y1 = some q) : RR 198 102 [oR 52 0, oR 4 0, oI x2, oI x3, oI x4, oI x5] [vI y1, vR 53 0] s (cvV q) := by
  exact rg_step 1 (G' := fun f => evT f 198 103 [oR 52 0, oR 4 0, oI x2, oI x3, oI x4, oI x5] [vI (cI 0), vI y1, vR 53 0] s) (fun _ => rfl) ((t_fSheet_darken_4_b103 hk64) h)
theorem ti_fSheet_darken_4_h64 : ∀ (n : Nat) (s : ev_M) (x2 : Int32) (x3 : Int32) (x4 : Int32) (x5 : Int32) (q : ev_M), fSheet_darken_4_h64 n s x2 x3 x4 x5 = some q → RR 198 64 [oR 52 0, oR 4 0, oI x2, oI x3, oI x4, oI x5] [] s (cvV q) := by
  intro n
  induction n with
  | zero => intro s x2 x3 x4 x5 q h; cases h
  | succ n ih =>
    have hk64 : ∀ {s : ev_M} {x2 : Int32} {x3 : Int32} {x4 : Int32} {x5 : Int32} {q : ev_M}, fSheet_darken_4_h64 n s x2 x3 x4 x5 = some q → RR 198 64 [oR 52 0, oR 4 0, oI x2, oI x3, oI x4, oI x5] [] s (cvV q) := fun h => ih _ _ _ _ _ _ h
    intro s x2 x3 x4 x5 q h
    refine rg_step 4 (G' := fun f => if x5 < (s.1 4 1) then evT f 198 73 [oR 52 0, oR 4 0, oI x2, oI x3, oI x4, oI x5] [] s else evT f 198 111 [oR 52 0, oR 4 0, oI x2, oI x3, oI x4, oI x5] [] s) (fun _ => rfl) (rg_if h (fun h => ?_) fun h => ?_)
    · refine rg_step 5 (G' := fun f => if x4 = 0 then evT f 198 102 [oR 52 0, oR 4 0, oI x2, oI x3, oI x4, oI x5] [vI x5, vR 53 0] s else evT f 198 84 [oR 52 0, oR 4 0, oI x2, oI x3, oI x4, oI x5] [vI x5, vR 53 0] s) (fun _ => rfl) (rg_if h (fun h => ?_) fun h => ?_)
      · exact (t_fSheet_darken_4_b102 hk64) h
      · refine rg_step 4 (G' := fun f => ev_after (evT f 224 0 [oR 4 0, oI x5] [] s) (fun q => evT f 198 91 [oR 52 0, oR 4 0, oI x2, oI x3, oI x4, oI x5] (q.2 ++ [vI (cI 2), vI x5, vR 53 0]) q.1)) (fun _ => rfl) (rg_bd1 h fun v2 hc h => rg_call (q := cvP s v2) (T_fTape_byteAt_4 hc) ?_)
        refine rg_step 5 (G' := fun f => if ((cI 2) * v2) < (x2 + x3) then evT f 198 98 [oR 52 0, oR 4 0, oI x2, oI x3, oI x4, oI x5] [vI x5, vR 53 0] s else evT f 198 102 [oR 52 0, oR 4 0, oI x2, oI x3, oI x4, oI x5] [vI x5, vR 53 0] s) (fun _ => rfl) (rg_if h (fun h => ?_) fun h => ?_)
        · exact rg_step 2 (G' := fun f => evT f 198 103 [oR 52 0, oR 4 0, oI x2, oI x3, oI x4, oI x5] [vI (cI 1), vI x5, vR 53 0] s) (fun _ => rfl) ((t_fSheet_darken_4_b103 hk64) h)
        · exact (t_fSheet_darken_4_b102 hk64) h
    · exact rg_end 1 (fun _ => rfl) (by cases h; rfl)
theorem t_fSheet_darken_4_h64 {n : Nat} {s : ev_M} {x2 : Int32} {x3 : Int32} {x4 : Int32} {x5 : Int32} {q : ev_M} (h : fSheet_darken_4_h64 n s x2 x3 x4 x5 = some q) : RR 198 64 [oR 52 0, oR 4 0, oI x2, oI x3, oI x4, oI x5] [] s (cvV q) := ti_fSheet_darken_4_h64 n s x2 x3 x4 x5 q h
theorem t_fSheet_darken_4_b59 {s : ev_M} {x2 : Int32} {x3 : Int32} {y0 : Int32} {j4 : Option ev_V} {j5 : Option ev_V} {q : ev_M} (h : fSheet_darken_4_b59 s x2 x3 y0 = some q) : RR 198 59 [oR 52 0, oR 4 0, oI x2, oI x3, j4, j5] [vI y0] s (cvV q) := by
  exact rg_step 3 (G' := fun f => evT f 198 64 [oR 52 0, oR 4 0, oI x2, oI x3, oI y0, oI (cI 0)] [] s) (fun _ => rfl) ((t_fSheet_darken_4_h64) h)
theorem ti_fSheet_darken_4_h9 : ∀ (n : Nat) (s : ev_M) (x2 : Int32) (x3 : Int32) (x4 : Int32) (j5 : Option ev_V) (q : ev_M), fSheet_darken_4_h9 n s x2 x3 x4 = some q → RR 198 9 [oR 52 0, oR 4 0, oI x2, oI x3, oI x4, j5] [] s (cvV q) := by
  intro n
  induction n with
  | zero => intro s x2 x3 x4 j5 q h; cases h
  | succ n ih =>
    have hk9 : ∀ {s : ev_M} {x2 : Int32} {x3 : Int32} {x4 : Int32} {j5 : Option ev_V} {q : ev_M}, fSheet_darken_4_h9 n s x2 x3 x4 = some q → RR 198 9 [oR 52 0, oR 4 0, oI x2, oI x3, oI x4, j5] [] s (cvV q) := fun h => ih _ _ _ _ _ _ h
    intro s x2 x3 x4 j5 q h
    refine rg_step 4 (G' := fun f => if x4 < (s.1 4 1) then evT f 198 18 [oR 52 0, oR 4 0, oI x2, oI x3, oI x4, nn] [] s else evT f 198 46 [oR 52 0, oR 4 0, oI x2, oI x3, oI x4, nn] [] s) (fun _ => rfl) (rg_if h (fun h => ?_) fun h => ?_)
    · refine rg_step 4 (G' := fun f => ev_after (evT f 224 0 [oR 4 0, oI x4] [] s) (fun q => evT f 198 25 [oR 52 0, oR 4 0, oI x2, oI x3, oI x4, nn] (q.2 ++ [vI x2]) q.1)) (fun _ => rfl) (rg_bd1 h fun v3 hc h => rg_call (q := cvP s v3) (T_fTape_byteAt_4 hc) ?_)
      refine rg_step 1 (G' := fun f => ev_after (evT f 535 0 [oI x2, oI v3] [] s) (fun q => evT f 198 28 [oR 52 0, oR 4 0, oI x2, oI x3, oI x4, nn] (q.2 ++ []) q.1)) (fun _ => rfl) (rg_bd1 h fun v4 hc h => rg_call (q := cvP s v4) (T_fMath_min hc) ?_)
      refine rg_step 5 (G' := fun f => ev_after (evT f 224 0 [oR 4 0, oI x4] [] s) (fun q => evT f 198 36 [oR 52 0, oR 4 0, oI v4, oI x3, oI x4, nn] (q.2 ++ [vI x3]) q.1)) (fun _ => rfl) (rg_bd1 h fun v5 hc h => rg_call (q := cvP s v5) (T_fTape_byteAt_4 hc) ?_)
      refine rg_step 1 (G' := fun f => ev_after (evT f 534 0 [oI x3, oI v5] [] s) (fun q => evT f 198 39 [oR 52 0, oR 4 0, oI v4, oI x3, oI x4, nn] (q.2 ++ []) q.1)) (fun _ => rfl) (rg_bd1 h fun v6 hc h => rg_call (q := cvP s v6) (T_fMath_max hc) ?_)
      exact rg_step 3 (G' := fun f => evT f 198 9 [oR 52 0, oR 4 0, oI v4, oI v6, oI (x4 + cI 1), nn] [] s) (fun _ => rfl) (hk9 h)
    · refine rg_step 5 (G' := fun f => if (x3 - x2) < (cI 32) then evT f 198 58 [oR 52 0, oR 4 0, oI x2, oI x3, oI x4, nn] [] s else evT f 198 54 [oR 52 0, oR 4 0, oI x2, oI x3, oI x4, nn] [] s) (fun _ => rfl) (rg_if h (fun h => ?_) fun h => ?_)
      · exact rg_step 1 (G' := fun f => evT f 198 59 [oR 52 0, oR 4 0, oI x2, oI x3, oI x4, nn] [vI (cI 0)] s) (fun _ => rfl) ((t_fSheet_darken_4_b59) h)
      · exact rg_step 2 (G' := fun f => evT f 198 59 [oR 52 0, oR 4 0, oI x2, oI x3, oI x4, nn] [vI (cI 1)] s) (fun _ => rfl) ((t_fSheet_darken_4_b59) h)
theorem t_fSheet_darken_4_h9 {n : Nat} {s : ev_M} {x2 : Int32} {x3 : Int32} {x4 : Int32} {j5 : Option ev_V} {q : ev_M} (h : fSheet_darken_4_h9 n s x2 x3 x4 = some q) : RR 198 9 [oR 52 0, oR 4 0, oI x2, oI x3, oI x4, j5] [] s (cvV q) := ti_fSheet_darken_4_h9 n s x2 x3 x4 j5 q h
theorem T_fSheet_darken_4 {s : ev_M} {q : ev_M} (h : fSheet_darken_4 s = some q) : RR 198 0 [oR 52 0, oR 4 0, nn, nn, nn, nn] [] s (cvV q) := by
  exact rg_step 6 (G' := fun f => evT f 198 9 [oR 52 0, oR 4 0, oI (cI 255), oI (cI 0), oI (cI 0), nn] [] s) (fun _ => rfl) ((t_fSheet_darken_4_h9) h)
theorem T_fSheet_show_4 {s : ev_M} {a2 : Int32} {q : ev_M × Int32} (h : fSheet_show_4 s a2 = some q) : RR 197 0 [oR 52 0, oR 4 0, oI a2] [] s (cvI q) := by
  refine rg_step 4 (G' := fun f => ev_after (evT f 308 0 [oI a2, oI (cI 8), oI (cI 128)] [] s) (fun q => evT f 197 9 [oR 52 0, oR 4 0, oI a2] (q.2 ++ []) q.1)) (fun _ => rfl) (rg_bd1 h fun v1 hc h => rg_call (q := cvP s v1) (T_fPH_outside hc) ?_)
  refine rg_step 1 (G' := fun f => if v1 = 0 then evT f 197 12 [oR 52 0, oR 4 0, oI a2] [] s else evT f 197 28 [oR 52 0, oR 4 0, oI a2] [] s) (fun _ => rfl) (rg_if h (fun h => ?_) fun h => ?_)
  · refine rg_step 3 (G' := fun f => if (s.1 4 1) = 0 then evT f 197 28 [oR 52 0, oR 4 0, oI a2] [] s else evT f 197 19 [oR 52 0, oR 4 0, oI a2] [] s) (fun _ => rfl) (rg_if h (fun h => ?_) fun h => ?_)
    · exact rg_end 2 (fun _ => rfl) (by cases h; rfl)
    · refine rg_step 4 (G' := fun f => if a2 = 0 then none else evT f 197 25 [oR 52 0, oR 4 0, oI a2] [vI (irem (s.1 4 1) a2)] s) (fun _ => rfl) (rg_dv h fun h => ?_)
      refine rg_step 1 (G' := fun f => if (irem (s.1 4 1) a2) = 0 then evT f 197 31 [oR 52 0, oR 4 0, oI a2] [] s else evT f 197 28 [oR 52 0, oR 4 0, oI a2] [] s) (fun _ => rfl) (rg_if h (fun h => ?_) fun h => ?_)
      · refine rg_step 3 (G' := fun f => ev_after (evT f 123 0 [oR 9 0, nn] [] s) (fun q => evT f 197 38 [oR 52 0, oR 4 0, oI a2] (q.2 ++ []) q.1)) (fun _ => rfl) (rg_bd2 h fun s2 v3 hc h => rg_call (q := cvI (s2, v3)) (T_fLog_admits hc) ?_)
        refine rg_step 1 (G' := fun f => if v3 = 0 then evT f 197 41 [oR 52 0, oR 4 0, oI a2] [] s2 else evT f 197 44 [oR 52 0, oR 4 0, oI a2] [] s2) (fun _ => rfl) (rg_if h (fun h => ?_) fun h => ?_)
        · exact rg_end 2 (fun _ => rfl) (by cases h; rfl)
        · refine rg_step 3 (G' := fun f => evT f 197 49 [oR 52 0, oR 4 0, oI a2] [] (wI s2 52 2 (cI 1))) (fun _ => rfl) (rg_ltM h fun s4 h => ?_)
          refine rg_step 3 (G' := fun f => evT f 197 54 [oR 52 0, oR 4 0, oI a2] [] (wI s4 52 4 a2)) (fun _ => rfl) (rg_ltM h fun s5 h => ?_)
          refine rg_step 5 (G' := fun f => if a2 = 0 then none else evT f 197 61 [oR 52 0, oR 4 0, oI a2] [vI ((s5.1 4 1) / a2), vR 52 0] s5) (fun _ => rfl) (rg_dv h fun h => ?_)
          refine rg_step 1 (G' := fun f => evT f 197 64 [oR 52 0, oR 4 0, oI a2] [] (wI s5 52 5 ((s5.1 4 1) / a2))) (fun _ => rfl) (rg_ltM h fun s6 h => ?_)
          refine rg_step 3 (G' := fun f => ev_after (evT f 198 0 [oR 52 0, oR 4 0, nn, nn, nn, nn] [] s6) (fun q => evT f 197 69 [oR 52 0, oR 4 0, oI a2] (q.2 ++ []) q.1)) (fun _ => rfl) (rg_bd1 h fun s7 hc h => rg_call (q := cvV s7) (T_fSheet_darken_4 hc) ?_)
          refine rg_step 2 (G' := fun f => ev_after (evT f 199 0 [oR 52 0, nn] [] s7) (fun q => evT f 197 73 [oR 52 0, oR 4 0, oI a2] (q.2 ++ []) q.1)) (fun _ => rfl) (rg_bd1 h fun s8 hc h => rg_call (q := cvV s8) (T_fSheet_findParts hc) ?_)
          refine rg_step 2 (G' := fun f => ev_after (evT f 202 0 [oR 52 0, nn, nn] [] s8) (fun q => evT f 197 77 [oR 52 0, oR 4 0, oI a2] (q.2 ++ []) q.1)) (fun _ => rfl) (rg_bd1 h fun s9 hc h => rg_call (q := cvV s9) (T_fSheet_joinLines hc) ?_)
          refine rg_step 2 (G' := fun f => ev_after (evT f 205 0 [oR 52 0, nn, nn] [] s9) (fun q => evT f 197 81 [oR 52 0, oR 4 0, oI a2] (q.2 ++ []) q.1)) (fun _ => rfl) (rg_bd1 h fun s10 hc h => rg_call (q := cvV s10) (T_fSheet_orderParts hc) ?_)
          refine rg_step 2 (G' := fun f => ev_after (evT f 207 0 [oR 52 0, nn, nn, nn, nn] [] s10) (fun q => evT f 197 85 [oR 52 0, oR 4 0, oI a2] (q.2 ++ []) q.1)) (fun _ => rfl) (rg_bd1 h fun s11 hc h => rg_call (q := cvV s11) (T_fSheet_keepLines hc) ?_)
          refine rg_step 2 (G' := fun f => ev_after (evT f 213 0 [oR 52 0, nn, nn, nn, nn, nn, nn, nn] [] s11) (fun q => evT f 197 89 [oR 52 0, oR 4 0, oI a2] (q.2 ++ []) q.1)) (fun _ => rfl) (rg_bd2 h fun s12 v13 hc h => rg_call (q := cvI (s12, v13)) (T_fSheet_reading hc) ?_)
          exact rg_end 1 (fun _ => rfl) (by cases h; rfl)
      · exact rg_end 2 (fun _ => rfl) (by cases h; rfl)
  · exact rg_end 2 (fun _ => rfl) (by cases h; rfl)
theorem ti_fTape_readsEntry_4_1011_h56 : ∀ (n : Nat) (s : ev_M) (x2 : Int32) (x3 : Int32) (j4 : Option ev_V) (q : ev_M × Int32), fTape_readsEntry_4_1011_h56 n s x2 x3 = some q → RR 226 56 [oR 4 0, oR 1011 0, oI x2, oI x3, j4] [] s (cvI q) := by
  intro n
  induction n with
  | zero => intro s x2 x3 j4 q h; cases h
  | succ n ih =>
    have hk56 : ∀ {s : ev_M} {x2 : Int32} {x3 : Int32} {j4 : Option ev_V} {q : ev_M × Int32}, fTape_readsEntry_4_1011_h56 n s x2 x3 = some q → RR 226 56 [oR 4 0, oR 1011 0, oI x2, oI x3, j4] [] s (cvI q) := fun h => ih _ _ _ _ _ h
    intro s x2 x3 j4 q h
    refine rg_step 3 (G' := fun f => ev_after ((fSlen 1011).map (cvP s)) (fun q => evT f 226 61 [oR 4 0, oR 1011 0, oI x2, oI x3, nn] (q.2 ++ [vI x3]) q.1)) (fun _ => rfl) (rg_bd1 h fun v1 hc h => rg_prm (q := cvP s v1) (by rw [hc]; rfl) ?_)
    refine rg_step 1 (G' := fun f => if x3 < v1 then evT f 226 64 [oR 4 0, oR 1011 0, oI x2, oI x3, nn] [] s else evT f 226 97 [oR 4 0, oR 1011 0, oI x2, oI x3, nn] [] s) (fun _ => rfl) (rg_if h (fun h => ?_) fun h => ?_)
    · refine rg_step 3 (G' := fun f => ev_after ((fSat 1011 x3).map (cvP s)) (fun q => evT f 226 69 [oR 4 0, oR 1011 0, oI x2, oI x3, nn] (q.2 ++ []) q.1)) (fun _ => rfl) (rg_bd1 h fun v2 hc h => rg_prm (q := cvP s v2) (by rw [hc]; rfl) ?_)
      refine rg_step 4 (G' := fun f => ev_after (evT f 227 0 [oR 4 0, oI v2] [] s) (fun q => evT f 226 77 [oR 4 0, oR 1011 0, oI x2, oI x3, oI v2] (q.2 ++ []) q.1)) (fun _ => rfl) (rg_bd2 h fun s3 v4 hc h => rg_call (q := cvI (s3, v4)) (T_fTape_reads_4 hc) ?_)
      refine rg_step 1 (G' := fun f => if v4 = 0 then evT f 226 80 [oR 4 0, oR 1011 0, oI x2, oI x3, oI v2] [] s3 else evT f 226 82 [oR 4 0, oR 1011 0, oI x2, oI x3, oI v2] [] s3) (fun _ => rfl) (rg_if h (fun h => ?_) fun h => ?_)
      · exact rg_end 2 (fun _ => rfl) (by cases h; rfl)
      · refine rg_step 3 (G' := fun f => if v2 = (cI 59) then evT f 226 89 [oR 4 0, oR 1011 0, oI x2, oI x3, oI v2] [] s3 else evT f 226 91 [oR 4 0, oR 1011 0, oI x2, oI x3, oI v2] [] s3) (fun _ => rfl) (rg_if h (fun h => ?_) fun h => ?_)
        · exact rg_end 2 (fun _ => rfl) (by cases h; rfl)
        · exact rg_step 2 (G' := fun f => evT f 226 56 [oR 4 0, oR 1011 0, oI x2, oI (x3 + cI 1), oI v2] [] s3) (fun _ => rfl) (hk56 h)
    · exact rg_end 2 (fun _ => rfl) (by cases h; rfl)
theorem t_fTape_readsEntry_4_1011_h56 {n : Nat} {s : ev_M} {x2 : Int32} {x3 : Int32} {j4 : Option ev_V} {q : ev_M × Int32} (h : fTape_readsEntry_4_1011_h56 n s x2 x3 = some q) : RR 226 56 [oR 4 0, oR 1011 0, oI x2, oI x3, j4] [] s (cvI q) := ti_fTape_readsEntry_4_1011_h56 n s x2 x3 j4 q h
theorem t_fTape_readsEntry_4_1011_b36 {s : ev_M} {x2 : Int32} {y0 : Int32} {j3 : Option ev_V} {j4 : Option ev_V} {q : ev_M × Int32} (h : fTape_readsEntry_4_1011_b36 s x2 y0 = some q) : RR 226 36 [oR 4 0, oR 1011 0, oI x2, j3, j4] [vI y0] s (cvI q) := by
  refine rg_step 3 (G' := fun f => if y0 < 0 then evT f 226 41 [oR 4 0, oR 1011 0, oI x2, oI y0, nn] [] s else evT f 226 43 [oR 4 0, oR 1011 0, oI x2, oI y0, nn] [] s) (fun _ => rfl) (rg_if h (fun h => ?_) fun h => ?_)
  · exact rg_end 2 (fun _ => rfl) (by cases h; rfl)
  · refine rg_step 6 (G' := fun f => evT f 226 53 [oR 4 0, oR 1011 0, oI x2, oI y0, nn] [] (wI s 4 2 ((s.1 4 2) + (cI 1)))) (fun _ => rfl) (rg_ltM h fun s5 h => ?_)
    exact rg_step 1 (G' := fun f => evT f 226 56 [oR 4 0, oR 1011 0, oI x2, oI (y0 + cI 1), nn] [] s5) (fun _ => rfl) ((t_fTape_readsEntry_4_1011_h56) h)
theorem t_fTape_readsEntry_4_1011_b35 {s : ev_M} {x2 : Int32} {j3 : Option ev_V} {j4 : Option ev_V} {q : ev_M × Int32} (h : fTape_readsEntry_4_1011_b35 s x2 = some q) : RR 226 35 [oR 4 0, oR 1011 0, oI x2, j3, j4] [] s (cvI q) := by
  exact rg_step 1 (G' := fun f => evT f 226 36 [oR 4 0, oR 1011 0, oI x2, nn, nn] [vI (cI (-1))] s) (fun _ => rfl) ((t_fTape_readsEntry_4_1011_b36) h)
theorem T_fTape_readsEntry_4_1011 {s : ev_M} {q : ev_M × Int32} (h : fTape_readsEntry_4_1011 s = some q) : RR 226 0 [oR 4 0, oR 1011 0, nn, nn, nn] [] s (cvI q) := by
  refine rg_step 3 (G' := fun f => evT f 226 5 [oR 4 0, oR 1011 0, nn, nn, nn] [] (wI s 4 4 (cI 0))) (fun _ => rfl) (rg_ltM h fun s6 h => ?_)
  refine rg_step 4 (G' := fun f => ev_after (evT f 224 0 [oR 4 0, oI (s6.1 4 2)] [] s6) (fun q => evT f 226 13 [oR 4 0, oR 1011 0, nn, nn, nn] (q.2 ++ []) q.1)) (fun _ => rfl) (rg_bd1 h fun v7 hc h => rg_call (q := cvP s6 v7) (T_fTape_byteAt_4 hc) ?_)
  refine rg_step 4 (G' := fun f => if v7 < (cI 65) then evT f 226 35 [oR 4 0, oR 1011 0, oI v7, nn, nn] [] s6 else evT f 226 20 [oR 4 0, oR 1011 0, oI v7, nn, nn] [] s6) (fun _ => rfl) (rg_if h (fun h => ?_) fun h => ?_)
  · exact (t_fTape_readsEntry_4_1011_b35) h
  · refine rg_step 3 (G' := fun f => if v7 ≤ (cI 90) then evT f 226 26 [oR 4 0, oR 1011 0, oI v7, nn, nn] [] s6 else evT f 226 35 [oR 4 0, oR 1011 0, oI v7, nn, nn] [] s6) (fun _ => rfl) (rg_if h (fun h => ?_) fun h => ?_)
    · refine rg_step 4 (G' := fun f => ev_after ((fSix 1011 (i2c v7)).map (cvP s6)) (fun q => evT f 226 32 [oR 4 0, oR 1011 0, oI v7, nn, nn] (q.2 ++ []) q.1)) (fun _ => rfl) (rg_bd1 h fun v8 hc h => rg_prm (q := cvP s6 v8) (by rw [hc]; rfl) ?_)
      exact rg_step 1 (G' := fun f => evT f 226 36 [oR 4 0, oR 1011 0, oI v7, nn, nn] [vI v8] s6) (fun _ => rfl) ((t_fTape_readsEntry_4_1011_b36) h)
    · exact (t_fTape_readsEntry_4_1011_b35) h
theorem t_fMoney_adds_4_b102 {k64 : ev_M → Int32 → Int32 → Int32 → Option (ev_M × Int32)} (hk64 : ∀ {s : ev_M} {x3 : Int32} {x4 : Int32} {x5 : Int32} {j1 : Option ev_V} {q : ev_M × Int32}, k64 s x3 x4 x5 = some q → RR 156 64 [oR 78 0, j1, oR 4 0, oI x3, oI x4, oI x5] [] s (cvI q)) {s : ev_M} {x3 : Int32} {x4 : Int32} {x5 : Int32} {j1 : Option ev_V} {q : ev_M × Int32} (h : fMoney_adds_4_b102 k64 s x3 x4 x5 = some q) : RR 156 102 [oR 78 0, j1, oR 4 0, oI x3, oI x4, oI x5] [] s (cvI q) := by
  exact rg_step 2 (G' := fun f => evT f 156 64 [oR 78 0, nn, oR 4 0, oI x3, oI x4, oI (x5 + cI 1)] [] s) (fun _ => rfl) (hk64 h)
theorem ti_fMoney_adds_4_h64 : ∀ (n : Nat) (s : ev_M) (x3 : Int32) (x4 : Int32) (x5 : Int32) (j1 : Option ev_V) (q : ev_M × Int32), fMoney_adds_4_h64 n s x3 x4 x5 = some q → RR 156 64 [oR 78 0, j1, oR 4 0, oI x3, oI x4, oI x5] [] s (cvI q) := by
  intro n
  induction n with
  | zero => intro s x3 x4 x5 j1 q h; cases h
  | succ n ih =>
    have hk64 : ∀ {s : ev_M} {x3 : Int32} {x4 : Int32} {x5 : Int32} {j1 : Option ev_V} {q : ev_M × Int32}, fMoney_adds_4_h64 n s x3 x4 x5 = some q → RR 156 64 [oR 78 0, j1, oR 4 0, oI x3, oI x4, oI x5] [] s (cvI q) := fun h => ih _ _ _ _ _ _ h
    intro s x3 x4 x5 j1 q h
    refine rg_step 4 (G' := fun f => if x5 < (s.1 78 13) then evT f 156 73 [oR 78 0, nn, oR 4 0, oI x3, oI x4, oI x5] [] s else evT f 156 108 [oR 78 0, nn, oR 4 0, oI x3, oI x4, oI x5] [] s) (fun _ => rfl) (rg_if h (fun h => ?_) fun h => ?_)
    · refine rg_step 6 (G' := fun f => if inb x5 40 = true then evT f 156 82 [oR 78 0, nn, oR 4 0, oI x3, oI x4, oI x5] [vI (s.1 (97 + (ix (cI 0))) (ix x5))] s else none) (fun _ => rfl) (rg_gd h fun h => ?_)
      refine rg_step 2 (G' := fun f => if (s.1 (97 + (ix (cI 0))) (ix x5)) = x3 then evT f 156 86 [oR 78 0, nn, oR 4 0, oI x3, oI x4, oI x5] [] s else evT f 156 102 [oR 78 0, nn, oR 4 0, oI x3, oI x4, oI x5] [] s) (fun _ => rfl) (rg_if h (fun h => ?_) fun h => ?_)
      · refine rg_step 6 (G' := fun f => if inb x5 40 = true then evT f 156 95 [oR 78 0, nn, oR 4 0, oI x3, oI x4, oI x5] [vI (s.1 (97 + (ix (cI 1))) (ix x5))] s else none) (fun _ => rfl) (rg_gd h fun h => ?_)
        refine rg_step 2 (G' := fun f => if (s.1 (97 + (ix (cI 1))) (ix x5)) < x4 then evT f 156 102 [oR 78 0, nn, oR 4 0, oI x3, oI x4, oI x5] [] s else evT f 156 100 [oR 78 0, nn, oR 4 0, oI x3, oI x4, oI x5] [] s) (fun _ => rfl) (rg_if h (fun h => ?_) fun h => ?_)
        · exact (t_fMoney_adds_4_b102 hk64) h
        · exact rg_end 2 (fun _ => rfl) (by cases h; rfl)
      · exact (t_fMoney_adds_4_b102 hk64) h
    · refine rg_step 8 (G' := fun f => ev_after (evT f 158 0 [oR 78 0, oI x3, oI x4, oI (s.1 6 (ix (cI 2)))] [] s) (fun q => evT f 156 121 [oR 78 0, nn, oR 4 0, oI x3, oI x4, oI x5] (q.2 ++ []) q.1)) (fun _ => rfl) (rg_bd2 h fun s1 v2 hc h => rg_call (q := cvI (s1, v2)) (T_fMoney_addsRow hc) ?_)
      exact rg_step 1 (G' := fun f => if bz v2 = true then some (s1, [vI v2]) else none) (fun _ => rfl) (rg_gd h fun h => rg_end 0 (fun _ => rfl) (by cases h; rfl))
theorem t_fMoney_adds_4_h64 {n : Nat} {s : ev_M} {x3 : Int32} {x4 : Int32} {x5 : Int32} {j1 : Option ev_V} {q : ev_M × Int32} (h : fMoney_adds_4_h64 n s x3 x4 x5 = some q) : RR 156 64 [oR 78 0, j1, oR 4 0, oI x3, oI x4, oI x5] [] s (cvI q) := ti_fMoney_adds_4_h64 n s x3 x4 x5 j1 q h
theorem T_fMoney_adds_4 {s : ev_M} {a1 : Int32} {q : ev_M × Int32} (h : fMoney_adds_4 s a1 = some q) : RR 156 0 [oR 78 0, oI a1, oR 4 0, nn, nn, nn] [] s (cvI q) := by
  refine rg_step 3 (G' := fun f => if a1 = (cI 86) then evT f 156 6 [oR 78 0, oI a1, oR 4 0, nn, nn, nn] [] s else evT f 156 23 [oR 78 0, oI a1, oR 4 0, nn, nn, nn] [] s) (fun _ => rfl) (rg_if h (fun h => ?_) fun h => ?_)
  · refine rg_step 10 (G' := fun f => ev_after (evT f 157 0 [oR 78 0, oI (s.1 6 (ix (cI 0))), oI (s.1 6 (ix (cI 1))), nn] [] s) (fun q => evT f 156 22 [oR 78 0, oI a1, oR 4 0, nn, nn, nn] (q.2 ++ []) q.1)) (fun _ => rfl) (rg_bd2 h fun s3 v4 hc h => rg_call (q := cvI (s3, v4)) (T_fMoney_addsService hc) ?_)
    exact rg_step 1 (G' := fun f => if bz v4 = true then some (s3, [vI v4]) else none) (fun _ => rfl) (rg_gd h fun h => rg_end 0 (fun _ => rfl) (by cases h; rfl))
  · refine rg_step 5 (G' := fun f => evT f 156 30 [oR 78 0, oI a1, oR 4 0, oI (s.1 6 (ix (cI 0))), nn, nn] [] s) (fun _ => rfl) (rg_ltI (P := fun v5 => RG (fun f => evT f 156 30 [oR 78 0, oI a1, oR 4 0, oI v5, nn, nn] [] s) (cvI q)) h fun v5 h => ?_)
    refine rg_step 5 (G' := fun f => evT f 156 38 [oR 78 0, oI a1, oR 4 0, oI v5, oI (s.1 6 (ix (cI 1))), nn] [] s) (fun _ => rfl) (rg_ltI (P := fun v6 => RG (fun f => evT f 156 38 [oR 78 0, oI a1, oR 4 0, oI v5, oI v6, nn] [] s) (cvI q)) h fun v6 h => ?_)
    refine rg_step 4 (G' := fun f => ev_after (evT f 308 0 [oI v5, oI (cI 0), oI (cI 3)] [] s) (fun q => evT f 156 44 [oR 78 0, oI a1, oR 4 0, oI v5, oI v6, nn] (q.2 ++ []) q.1)) (fun _ => rfl) (rg_bd1 h fun v7 hc h => rg_call (q := cvP s v7) (T_fPH_outside hc) ?_)
    refine rg_step 1 (G' := fun f => if v7 = 0 then evT f 156 47 [oR 78 0, oI a1, oR 4 0, oI v5, oI v6, nn] [] s else evT f 156 59 [oR 78 0, oI a1, oR 4 0, oI v5, oI v6, nn] [] s) (fun _ => rfl) (rg_if h (fun h => ?_) fun h => ?_)
    · refine rg_step 4 (G' := fun f => ev_after (evT f 308 0 [oI v6, oI (cI 1), oI (cI 30000)] [] s) (fun q => evT f 156 56 [oR 78 0, oI a1, oR 4 0, oI v5, oI v6, nn] (q.2 ++ []) q.1)) (fun _ => rfl) (rg_bd1 h fun v8 hc h => rg_call (q := cvP s v8) (T_fPH_outside hc) ?_)
      refine rg_step 1 (G' := fun f => if v8 = 0 then evT f 156 61 [oR 78 0, oI a1, oR 4 0, oI v5, oI v6, nn] [] s else evT f 156 59 [oR 78 0, oI a1, oR 4 0, oI v5, oI v6, nn] [] s) (fun _ => rfl) (rg_if h (fun h => ?_) fun h => ?_)
      · exact rg_step 2 (G' := fun f => evT f 156 64 [oR 78 0, oI a1, oR 4 0, oI v5, oI v6, oI (cI 0)] [] s) (fun _ => rfl) ((t_fMoney_adds_4_h64) h)
      · exact rg_end 2 (fun _ => rfl) (by cases h; rfl)
    · exact rg_end 2 (fun _ => rfl) (by cases h; rfl)
theorem t_fMoney_readTariff_4_b78 {k14 : ev_M → Int32 → Int32 → Option (ev_M × Int32)} (hk14 : ∀ {s : ev_M} {x2 : Int32} {x3 : Int32} {j4 : Option ev_V} {j5 : Option ev_V} {q : ev_M × Int32}, k14 s x2 x3 = some q → RR 155 14 [oR 78 0, oR 4 0, oI x2, oI x3, j4, j5] [] s (cvI q)) {s : ev_M} {x2 : Int32} {x3 : Int32} {j4 : Option ev_V} {j5 : Option ev_V} {q : ev_M × Int32} (h : fMoney_readTariff_4_b78 k14 s x2 x3 = some q) : RR 155 78 [oR 78 0, oR 4 0, oI x2, oI x3, j4, j5] [] s (cvI q) := by
  exact rg_step 2 (G' := fun f => evT f 155 14 [oR 78 0, oR 4 0, oI x2, oI (x3 + cI 1), nn, nn] [] s) (fun _ => rfl) (hk14 h)
theorem t_fMoney_readTariff_4_b37 {k14 : ev_M → Int32 → Int32 → Option (ev_M × Int32)} (hk14 : ∀ {s : ev_M} {x2 : Int32} {x3 : Int32} {j4 : Option ev_V} {j5 : Option ev_V} {q : ev_M × Int32}, k14 s x2 x3 = some q → RR 155 14 [oR 78 0, oR 4 0, oI x2, oI x3, j4, j5] [] s (cvI q)) {s : ev_M} {x2 : Int32} {x3 : Int32} {j4 : Option ev_V} {j5 : Option ev_V} {q : ev_M × Int32} (h : fMoney_readTariff_4_b37 k14 s x2 x3 = some q) : RR 155 37 [oR 78 0, oR 4 0, oI x2, oI x3, j4, j5] [] s (cvI q) := by
  refine rg_step 3 (G' := fun f => evT f 155 43 [oR 78 0, oR 4 0, oI x2, oI x3, oI (s.1 4 2), nn] [] s) (fun _ => rfl) (rg_ltI (P := fun v1 => RG (fun f => evT f 155 43 [oR 78 0, oR 4 0, oI x2, oI x3, oI v1, nn] [] s) (cvI q)) h fun v1 h => ?_)
  refine rg_step 3 (G' := fun f => ev_after (evT f 226 0 [oR 4 0, oR 1011 0, nn, nn, nn] [] s) (fun q => evT f 155 49 [oR 78 0, oR 4 0, oI x2, oI x3, oI v1, nn] (q.2 ++ []) q.1)) (fun _ => rfl) (rg_bd2 h fun s2 v3 hc h => rg_call (q := cvI (s2, v3)) (T_fTape_readsEntry_4_1011 hc) ?_)
  refine rg_step 4 (G' := fun f => if v3 = (cI (-1)) then evT f 155 57 [oR 78 0, oR 4 0, oI x2, oI x3, oI v1, oI v3] [] s2 else evT f 155 65 [oR 78 0, oR 4 0, oI x2, oI x3, oI v1, oI v3] [] s2) (fun _ => rfl) (rg_if h (fun h => ?_) fun h => ?_)
  · refine rg_step 3 (G' := fun f => evT f 155 62 [oR 78 0, oR 4 0, oI (s2.1 4 2), oI x3, oI v1, oI v3] [] s2) (fun _ => rfl) (rg_ltI (P := fun v4 => RG (fun f => evT f 155 62 [oR 78 0, oR 4 0, oI v4, oI x3, oI v1, oI v3] [] s2) (cvI q)) h fun v4 h => ?_)
    exact rg_step 1 (G' := fun f => evT f 155 78 [oR 78 0, oR 4 0, oI v4, oI x3, oI v1, oI v3] [] s2) (fun _ => rfl) ((t_fMoney_readTariff_4_b78 hk14) h)
  · refine rg_step 4 (G' := fun f => ev_after (evT f 156 0 [oR 78 0, oI v3, oR 4 0, nn, nn, nn] [] s2) (fun q => evT f 155 72 [oR 78 0, oR 4 0, oI x2, oI x3, oI v1, oI v3] (q.2 ++ []) q.1)) (fun _ => rfl) (rg_bd2 h fun s5 v6 hc h => rg_call (q := cvI (s5, v6)) (T_fMoney_adds_4 hc) ?_)
    refine rg_step 1 (G' := fun f => if v6 = 0 then evT f 155 75 [oR 78 0, oR 4 0, oI x2, oI x3, oI v1, oI v3] [] s5 else evT f 155 78 [oR 78 0, oR 4 0, oI x2, oI x3, oI v1, oI v3] [] s5) (fun _ => rfl) (rg_if h (fun h => ?_) fun h => ?_)
    · exact rg_step 2 (G' := fun f => evT f 155 78 [oR 78 0, oR 4 0, oI v1, oI x3, oI v1, oI v3] [] s5) (fun _ => rfl) ((t_fMoney_readTariff_4_b78 hk14) h)
    · exact (t_fMoney_readTariff_4_b78 hk14) h
theorem ti_fMoney_readTariff_4_h118 : ∀ (n : Nat) (s : ev_M) (x3 : Int32) (j1 : Option ev_V) (j2 : Option ev_V) (j4 : Option ev_V) (j5 : Option ev_V) (q : ev_M × Int32), fMoney_readTariff_4_h118 n s x3 = some q → RR 155 118 [oR 78 0, j1, j2, oI x3, j4, j5] [] s (cvI q) := by
  intro n
  induction n with
  | zero => intro s x3 j1 j2 j4 j5 q h; cases h
  | succ n ih =>
    have hk118 : ∀ {s : ev_M} {x3 : Int32} {j1 : Option ev_V} {j2 : Option ev_V} {j4 : Option ev_V} {j5 : Option ev_V} {q : ev_M × Int32}, fMoney_readTariff_4_h118 n s x3 = some q → RR 155 118 [oR 78 0, j1, j2, oI x3, j4, j5] [] s (cvI q) := fun h => ih _ _ _ _ _ _ _ h
    intro s x3 j1 j2 j4 j5 q h
    refine rg_step 3 (G' := fun f => if x3 ≤ (cI 2) then evT f 155 123 [oR 78 0, nn, nn, oI x3, nn, nn] [] s else evT f 155 150 [oR 78 0, nn, nn, oI x3, nn, nn] [] s) (fun _ => rfl) (rg_if h (fun h => ?_) fun h => ?_)
    · refine rg_step 4 (G' := fun f => if inb x3 3 = true then evT f 155 129 [oR 78 0, nn, nn, oI x3, nn, nn] [vR 97 (ix x3)] s else none) (fun _ => rfl) (rg_gd h fun h => ?_)
      refine rg_step 5 (G' := fun f => if inb x3 3 = true then evT f 155 136 [oR 78 0, nn, nn, oI x3, nn, nn] [vR 93 (ix x3), vI (cI 0), vR 97 (ix x3)] s else none) (fun _ => rfl) (rg_gd h fun h => ?_)
      refine rg_step 4 (G' := fun f => ev_after ((fACP s 40 40 (97 + (ix x3)) (93 + (ix x3)) (cI 0) (cI 0) (s.1 78 11)).map cvV) (fun q => evT f 155 144 [oR 78 0, nn, nn, oI x3, nn, nn] (q.2 ++ []) q.1)) (fun _ => rfl) (rg_bd1 h fun s7 hc h => rg_prm (q := cvV s7) (by rw [hc]; rfl) ?_)
      exact rg_step 2 (G' := fun f => evT f 155 118 [oR 78 0, nn, nn, oI (x3 + cI 1), nn, nn] [] s7) (fun _ => rfl) (hk118 h)
    · exact rg_end 3 (fun _ => rfl) (by cases h; rfl)
theorem t_fMoney_readTariff_4_h118 {n : Nat} {s : ev_M} {x3 : Int32} {j1 : Option ev_V} {j2 : Option ev_V} {j4 : Option ev_V} {j5 : Option ev_V} {q : ev_M × Int32} (h : fMoney_readTariff_4_h118 n s x3 = some q) : RR 155 118 [oR 78 0, j1, j2, oI x3, j4, j5] [] s (cvI q) := ti_fMoney_readTariff_4_h118 n s x3 j1 j2 j4 j5 q h
theorem t_fMoney_readTariff_4_b84 {s : ev_M} {x2 : Int32} {j1 : Option ev_V} {j3 : Option ev_V} {j4 : Option ev_V} {j5 : Option ev_V} {q : ev_M × Int32} (h : fMoney_readTariff_4_b84 s x2 = some q) : RR 155 84 [oR 78 0, j1, oI x2, j3, j4, j5] [] s (cvI q) := by
  refine rg_step 3 (G' := fun f => if x2 = (cI (-1)) then evT f 155 95 [oR 78 0, nn, oI x2, nn, nn, nn] [] s else evT f 155 89 [oR 78 0, nn, oI x2, nn, nn, nn] [] s) (fun _ => rfl) (rg_if h (fun h => ?_) fun h => ?_)
  · refine rg_step 3 (G' := fun f => ev_after (evT f 123 0 [oR 9 0, nn] [] s) (fun q => evT f 155 102 [oR 78 0, nn, oI x2, nn, nn, nn] (q.2 ++ []) q.1)) (fun _ => rfl) (rg_bd2 h fun s8 v9 hc h => rg_call (q := cvI (s8, v9)) (T_fLog_admits hc) ?_)
    refine rg_step 1 (G' := fun f => if v9 = 0 then evT f 155 105 [oR 78 0, nn, oI x2, nn, nn, nn] [] s8 else evT f 155 108 [oR 78 0, nn, oI x2, nn, nn, nn] [] s8) (fun _ => rfl) (rg_if h (fun h => ?_) fun h => ?_)
    · exact rg_end 2 (fun _ => rfl) (by cases h; rfl)
    · refine rg_step 4 (G' := fun f => evT f 155 116 [oR 78 0, nn, oI x2, nn, nn, nn] [] (wI s8 78 11 (s8.1 78 13))) (fun _ => rfl) (rg_ltM h fun s10 h => ?_)
      exact rg_step 2 (G' := fun f => evT f 155 118 [oR 78 0, nn, oI x2, oI (cI 0), nn, nn] [] s10) (fun _ => rfl) ((t_fMoney_readTariff_4_h118) h)
  · exact rg_end 4 (fun _ => rfl) (by cases h; rfl)
theorem ti_fMoney_readTariff_4_h14 : ∀ (n : Nat) (s : ev_M) (x2 : Int32) (x3 : Int32) (j4 : Option ev_V) (j5 : Option ev_V) (q : ev_M × Int32), fMoney_readTariff_4_h14 n s x2 x3 = some q → RR 155 14 [oR 78 0, oR 4 0, oI x2, oI x3, j4, j5] [] s (cvI q) := by
  intro n
  induction n with
  | zero => intro s x2 x3 j4 j5 q h; cases h
  | succ n ih =>
    have hk14 : ∀ {s : ev_M} {x2 : Int32} {x3 : Int32} {j4 : Option ev_V} {j5 : Option ev_V} {q : ev_M × Int32}, fMoney_readTariff_4_h14 n s x2 x3 = some q → RR 155 14 [oR 78 0, oR 4 0, oI x2, oI x3, j4, j5] [] s (cvI q) := fun h => ih _ _ _ _ _ _ h
    intro s x2 x3 j4 j5 q h
    refine rg_step 3 (G' := fun f => if x3 < (cI 4096) then evT f 155 21 [oR 78 0, oR 4 0, oI x2, oI x3, nn, nn] [] s else evT f 155 84 [oR 78 0, oR 4 0, oI x2, oI x3, nn, nn] [] s) (fun _ => rfl) (rg_if h (fun h => ?_) fun h => ?_)
    · refine rg_step 3 (G' := fun f => if x2 = (cI (-1)) then evT f 155 26 [oR 78 0, oR 4 0, oI x2, oI x3, nn, nn] [] s else evT f 155 84 [oR 78 0, oR 4 0, oI x2, oI x3, nn, nn] [] s) (fun _ => rfl) (rg_if h (fun h => ?_) fun h => ?_)
      · refine rg_step 2 (G' := fun f => if x3 = 0 then evT f 155 37 [oR 78 0, oR 4 0, oI x2, oI x3, nn, nn] [] s else evT f 155 30 [oR 78 0, oR 4 0, oI x2, oI x3, nn, nn] [] s) (fun _ => rfl) (rg_if h (fun h => ?_) fun h => ?_)
        · exact (t_fMoney_readTariff_4_b37 hk14) h
        · refine rg_step 2 (G' := fun f => ev_after (evT f 225 0 [oR 4 0] [] s) (fun q => evT f 155 34 [oR 78 0, oR 4 0, oI x2, oI x3, nn, nn] (q.2 ++ []) q.1)) (fun _ => rfl) (rg_bd1 h fun v11 hc h => rg_call (q := cvP s v11) (T_fTape_hasMore_4 hc) ?_)
          refine rg_step 1 (G' := fun f => if v11 = 0 then evT f 155 84 [oR 78 0, oR 4 0, oI x2, oI x3, nn, nn] [] s else evT f 155 37 [oR 78 0, oR 4 0, oI x2, oI x3, nn, nn] [] s) (fun _ => rfl) (rg_if h (fun h => ?_) fun h => ?_)
          · exact (t_fMoney_readTariff_4_b84) h
          · exact (t_fMoney_readTariff_4_b37 hk14) h
      · exact (t_fMoney_readTariff_4_b84) h
    · exact (t_fMoney_readTariff_4_b84) h
theorem t_fMoney_readTariff_4_h14 {n : Nat} {s : ev_M} {x2 : Int32} {x3 : Int32} {j4 : Option ev_V} {j5 : Option ev_V} {q : ev_M × Int32} (h : fMoney_readTariff_4_h14 n s x2 x3 = some q) : RR 155 14 [oR 78 0, oR 4 0, oI x2, oI x3, j4, j5] [] s (cvI q) := ti_fMoney_readTariff_4_h14 n s x2 x3 j4 j5 q h
theorem T_fMoney_readTariff_4 {s : ev_M} {q : ev_M × Int32} (h : fMoney_readTariff_4 s = some q) : RR 155 0 [oR 78 0, oR 4 0, nn, nn, nn, nn] [] s (cvI q) := by
  refine rg_step 5 (G' := fun f => evT f 155 7 [oR 78 0, oR 4 0, oI (cI (-1)), nn, nn, nn] [] (wI s 78 13 (cI 0))) (fun _ => rfl) (rg_ltM h fun s12 h => ?_)
  refine rg_step 3 (G' := fun f => evT f 155 12 [oR 78 0, oR 4 0, oI (cI (-1)), nn, nn, nn] [] (wI s12 4 2 (cI 0))) (fun _ => rfl) (rg_ltM h fun s13 h => ?_)
  exact rg_step 2 (G' := fun f => evT f 155 14 [oR 78 0, oR 4 0, oI (cI (-1)), oI (cI 0), nn, nn] [] s13) (fun _ => rfl) ((t_fMoney_readTariff_4_h14) h)
theorem t_fPH_act_4_b677 {s : ev_M} {y1 : Int32} {y2 : Int32} {y3 : Int32} {j0 : Option ev_V} {j1 : Option ev_V} {j2 : Option ev_V} {j3 : Option ev_V} {j4 : Option ev_V} {j5 : Option ev_V} {j6 : Option ev_V} {j7 : Option ev_V} {q : ev_M × Int32} (h : fPH_act_4_b677 s y1 y2 y3 = some q) : RR 302 677 [j0, j1, j2, j3, j4, j5, j6, j7] [vI y3, vI y2, vI y1, vR 15 0] s (cvI q) := by
  refine rg_step 1 (G' := fun f => ev_after (evT f 46 0 [oR 15 0, oI y1, oI y2, oI y3, nn] [] s) (fun q => evT f 302 680 [nn, nn, nn, nn, nn, nn, nn, nn] (q.2 ++ []) q.1)) (fun _ => rfl) (rg_bd2 h fun s1 v2 hc h => rg_call (q := cvI (s1, v2)) (T_fChron_setWish hc) ?_)
  exact rg_end 2 (fun _ => rfl) (by cases h; rfl)
theorem T_fPH_act_4 {s : ev_M} {q : ev_M × Int32} (h : fPH_act_4 s = some q) : RR 302 0 [oR 0 0, oR 4 0, nn, nn, nn, nn, nn, nn] [] s (cvI q) := by
  refine rg_step 6 (G' := fun f => evT f 302 10 [oR 0 0, oR 4 0, oI (s.1 14 (ix (cI 0))), nn, nn, nn, nn, nn] [] s) (fun _ => rfl) (rg_ltI (P := fun v3 => RG (fun f => evT f 302 10 [oR 0 0, oR 4 0, oI v3, nn, nn, nn, nn, nn] [] s) (cvI q)) h fun v3 h => ?_)
  refine rg_step 6 (G' := fun f => evT f 302 20 [oR 0 0, oR 4 0, oI v3, oI (s.1 14 (ix (cI 1))), nn, nn, nn, nn] [] s) (fun _ => rfl) (rg_ltI (P := fun v4 => RG (fun f => evT f 302 20 [oR 0 0, oR 4 0, oI v3, oI v4, nn, nn, nn, nn] [] s) (cvI q)) h fun v4 h => ?_)
  refine rg_step 6 (G' := fun f => evT f 302 31 [oR 0 0, oR 4 0, oI v3, oI v4, oI (s.1 14 (ix (cI 2))), nn, nn, nn] [] s) (fun _ => rfl) (rg_ltI (P := fun v5 => RG (fun f => evT f 302 31 [oR 0 0, oR 4 0, oI v3, oI v4, oI v5, nn, nn, nn] [] s) (cvI q)) h fun v5 h => ?_)
  refine rg_step 6 (G' := fun f => evT f 302 42 [oR 0 0, oR 4 0, oI v3, oI v4, oI v5, oI (s.1 14 (ix (cI 3))), nn, nn] [] s) (fun _ => rfl) (rg_ltI (P := fun v6 => RG (fun f => evT f 302 42 [oR 0 0, oR 4 0, oI v3, oI v4, oI v5, oI v6, nn, nn] [] s) (cvI q)) h fun v6 h => ?_)
  refine rg_step 6 (G' := fun f => evT f 302 53 [oR 0 0, oR 4 0, oI v3, oI v4, oI v5, oI v6, oI (s.1 14 (ix (cI 4))), nn] [] s) (fun _ => rfl) (rg_ltI (P := fun v7 => RG (fun f => evT f 302 53 [oR 0 0, oR 4 0, oI v3, oI v4, oI v5, oI v6, oI v7, nn] [] s) (cvI q)) h fun v7 h => ?_)
  refine rg_step 6 (G' := fun f => evT f 302 64 [oR 0 0, oR 4 0, oI v3, oI v4, oI v5, oI v6, oI v7, oI (s.1 14 (ix (cI 5)))] [] s) (fun _ => rfl) (rg_ltI (P := fun v8 => RG (fun f => evT f 302 64 [oR 0 0, oR 4 0, oI v3, oI v4, oI v5, oI v6, oI v7, oI v8] [] s) (cvI q)) h fun v8 h => ?_)
  refine rg_step 4 (G' := fun f => if (s.1 9 14) = cI 1 then evT f 302 244 [oR 0 0, oR 4 0, oI v3, oI v4, oI v5, oI v6, oI v7, oI v8] [] s else if (s.1 9 14) = cI 2 then evT f 302 253 [oR 0 0, oR 4 0, oI v3, oI v4, oI v5, oI v6, oI v7, oI v8] [] s else if (s.1 9 14) = cI 3 then evT f 302 267 [oR 0 0, oR 4 0, oI v3, oI v4, oI v5, oI v6, oI v7, oI v8] [] s else if (s.1 9 14) = cI 4 then evT f 302 279 [oR 0 0, oR 4 0, oI v3, oI v4, oI v5, oI v6, oI v7, oI v8] [] s else if (s.1 9 14) = cI 5 then evT f 302 289 [oR 0 0, oR 4 0, oI v3, oI v4, oI v5, oI v6, oI v7, oI v8] [] s else if (s.1 9 14) = cI 6 then evT f 302 307 [oR 0 0, oR 4 0, oI v3, oI v4, oI v5, oI v6, oI v7, oI v8] [] s else if (s.1 9 14) = cI 7 then evT f 302 317 [oR 0 0, oR 4 0, oI v3, oI v4, oI v5, oI v6, oI v7, oI v8] [] s else if (s.1 9 14) = cI 8 then evT f 302 326 [oR 0 0, oR 4 0, oI v3, oI v4, oI v5, oI v6, oI v7, oI v8] [] s else if (s.1 9 14) = cI 9 then evT f 302 338 [oR 0 0, oR 4 0, oI v3, oI v4, oI v5, oI v6, oI v7, oI v8] [] s else if (s.1 9 14) = cI 10 then evT f 302 348 [oR 0 0, oR 4 0, oI v3, oI v4, oI v5, oI v6, oI v7, oI v8] [] s else if (s.1 9 14) = cI 11 then evT f 302 362 [oR 0 0, oR 4 0, oI v3, oI v4, oI v5, oI v6, oI v7, oI v8] [] s else if (s.1 9 14) = cI 12 then evT f 302 374 [oR 0 0, oR 4 0, oI v3, oI v4, oI v5, oI v6, oI v7, oI v8] [] s else if (s.1 9 14) = cI 13 then evT f 302 384 [oR 0 0, oR 4 0, oI v3, oI v4, oI v5, oI v6, oI v7, oI v8] [] s else if (s.1 9 14) = cI 14 then evT f 302 393 [oR 0 0, oR 4 0, oI v3, oI v4, oI v5, oI v6, oI v7, oI v8] [] s else if (s.1 9 14) = cI 15 then evT f 302 402 [oR 0 0, oR 4 0, oI v3, oI v4, oI v5, oI v6, oI v7, oI v8] [] s else if (s.1 9 14) = cI 16 then evT f 302 411 [oR 0 0, oR 4 0, oI v3, oI v4, oI v5, oI v6, oI v7, oI v8] [] s else if (s.1 9 14) = cI 17 then evT f 302 427 [oR 0 0, oR 4 0, oI v3, oI v4, oI v5, oI v6, oI v7, oI v8] [] s else if (s.1 9 14) = cI 18 then evT f 302 437 [oR 0 0, oR 4 0, oI v3, oI v4, oI v5, oI v6, oI v7, oI v8] [] s else if (s.1 9 14) = cI 19 then evT f 302 447 [oR 0 0, oR 4 0, oI v3, oI v4, oI v5, oI v6, oI v7, oI v8] [] s else if (s.1 9 14) = cI 20 then evT f 302 457 [oR 0 0, oR 4 0, oI v3, oI v4, oI v5, oI v6, oI v7, oI v8] [] s else if (s.1 9 14) = cI 21 then evT f 302 466 [oR 0 0, oR 4 0, oI v3, oI v4, oI v5, oI v6, oI v7, oI v8] [] s else if (s.1 9 14) = cI 22 then evT f 302 475 [oR 0 0, oR 4 0, oI v3, oI v4, oI v5, oI v6, oI v7, oI v8] [] s else if (s.1 9 14) = cI 23 then evT f 302 489 [oR 0 0, oR 4 0, oI v3, oI v4, oI v5, oI v6, oI v7, oI v8] [] s else if (s.1 9 14) = cI 24 then evT f 302 498 [oR 0 0, oR 4 0, oI v3, oI v4, oI v5, oI v6, oI v7, oI v8] [] s else if (s.1 9 14) = cI 25 then evT f 302 507 [oR 0 0, oR 4 0, oI v3, oI v4, oI v5, oI v6, oI v7, oI v8] [] s else if (s.1 9 14) = cI 26 then evT f 302 517 [oR 0 0, oR 4 0, oI v3, oI v4, oI v5, oI v6, oI v7, oI v8] [] s else if (s.1 9 14) = cI 27 then evT f 302 531 [oR 0 0, oR 4 0, oI v3, oI v4, oI v5, oI v6, oI v7, oI v8] [] s else if (s.1 9 14) = cI 28 then evT f 302 541 [oR 0 0, oR 4 0, oI v3, oI v4, oI v5, oI v6, oI v7, oI v8] [] s else if (s.1 9 14) = cI 29 then evT f 302 547 [oR 0 0, oR 4 0, oI v3, oI v4, oI v5, oI v6, oI v7, oI v8] [] s else if (s.1 9 14) = cI 30 then evT f 302 556 [oR 0 0, oR 4 0, oI v3, oI v4, oI v5, oI v6, oI v7, oI v8] [] s else if (s.1 9 14) = cI 31 then evT f 302 566 [oR 0 0, oR 4 0, oI v3, oI v4, oI v5, oI v6, oI v7, oI v8] [] s else if (s.1 9 14) = cI 32 then evT f 302 575 [oR 0 0, oR 4 0, oI v3, oI v4, oI v5, oI v6, oI v7, oI v8] [] s else if (s.1 9 14) = cI 33 then evT f 302 584 [oR 0 0, oR 4 0, oI v3, oI v4, oI v5, oI v6, oI v7, oI v8] [] s else if (s.1 9 14) = cI 34 then evT f 302 596 [oR 0 0, oR 4 0, oI v3, oI v4, oI v5, oI v6, oI v7, oI v8] [] s else if (s.1 9 14) = cI 35 then evT f 302 608 [oR 0 0, oR 4 0, oI v3, oI v4, oI v5, oI v6, oI v7, oI v8] [] s else if (s.1 9 14) = cI 36 then evT f 302 618 [oR 0 0, oR 4 0, oI v3, oI v4, oI v5, oI v6, oI v7, oI v8] [] s else if (s.1 9 14) = cI 37 then evT f 302 628 [oR 0 0, oR 4 0, oI v3, oI v4, oI v5, oI v6, oI v7, oI v8] [] s else if (s.1 9 14) = cI 38 then evT f 302 638 [oR 0 0, oR 4 0, oI v3, oI v4, oI v5, oI v6, oI v7, oI v8] [] s else if (s.1 9 14) = cI 39 then evT f 302 649 [oR 0 0, oR 4 0, oI v3, oI v4, oI v5, oI v6, oI v7, oI v8] [] s else if (s.1 9 14) = cI 40 then evT f 302 686 [oR 0 0, oR 4 0, oI v3, oI v4, oI v5, oI v6, oI v7, oI v8] [] s else evT f 302 692 [oR 0 0, oR 4 0, oI v3, oI v4, oI v5, oI v6, oI v7, oI v8] [] s) (fun _ => rfl) ?_
  refine rg_if h (fun h => ?_) fun h => ?_
  · refine rg_step 4 (G' := fun f => ev_after (evT f 13 0 [oR 30 0, oR 4 0, nn, nn, nn, nn, nn, nn, nn, nn] [] s) (fun q => evT f 302 252 [oR 0 0, oR 4 0, oI v3, oI v4, oI v5, oI v6, oI v7, oI v8] (q.2 ++ []) q.1)) (fun _ => rfl) (rg_bd2 h fun s9 v10 hc h => rg_call (q := cvI (s9, v10)) (T_fBook_readText_4 hc) ?_)
    exact rg_end 1 (fun _ => rfl) (by cases h; rfl)
  refine rg_if h (fun h => ?_) fun h => ?_
  · refine rg_step 7 (G' := fun f => ev_after (evT f 33 0 [oR 30 0, oI v3, oI v4, oI v5, oI v6] [] s) (fun q => evT f 302 266 [oR 0 0, oR 4 0, oI v3, oI v4, oI v5, oI v6, oI v7, oI v8] (q.2 ++ []) q.1)) (fun _ => rfl) (rg_bd2 h fun s11 v12 hc h => rg_call (q := cvI (s11, v12)) (T_fBook_tellForwarding hc) ?_)
    exact rg_end 1 (fun _ => rfl) (by cases h; rfl)
  refine rg_if h (fun h => ?_) fun h => ?_
  · refine rg_step 6 (G' := fun f => ev_after (evT f 34 0 [oR 30 0, oI v3, oI v4, oI v5] [] s) (fun q => evT f 302 278 [oR 0 0, oR 4 0, oI v3, oI v4, oI v5, oI v6, oI v7, oI v8] (q.2 ++ []) q.1)) (fun _ => rfl) (rg_bd2 h fun s13 v14 hc h => rg_call (q := cvI (s13, v14)) (T_fBook_tellHold hc) ?_)
    exact rg_end 1 (fun _ => rfl) (by cases h; rfl)
  refine rg_if h (fun h => ?_) fun h => ?_
  · refine rg_step 5 (G' := fun f => ev_after (evT f 197 0 [oR 52 0, oR 4 0, oI v3] [] s) (fun q => evT f 302 288 [oR 0 0, oR 4 0, oI v3, oI v4, oI v5, oI v6, oI v7, oI v8] (q.2 ++ []) q.1)) (fun _ => rfl) (rg_bd2 h fun s15 v16 hc h => rg_call (q := cvI (s15, v16)) (T_fSheet_show_4 hc) ?_)
    exact rg_end 1 (fun _ => rfl) (by cases h; rfl)
  refine rg_if h (fun h => ?_) fun h => ?_
  · refine rg_step 9 (G' := fun f => ev_after (evT f 54 0 [oR 100 0, oI v3, oI v4, oI v5, oI v6, oI v7, oI v8, nn, nn, nn] [] s) (fun q => evT f 302 306 [oR 0 0, oR 4 0, oI v3, oI v4, oI v5, oI v6, oI v7, oI v8] (q.2 ++ []) q.1)) (fun _ => rfl) (rg_bd2 h fun s17 v18 hc h => rg_call (q := cvI (s17, v18)) (T_fItems_tell hc) ?_)
    exact rg_end 1 (fun _ => rfl) (by cases h; rfl)
  refine rg_if h (fun h => ?_) fun h => ?_
  · refine rg_step 5 (G' := fun f => ev_after (evT f 63 0 [oR 100 0, oI v3, oI v4] [] s) (fun q => evT f 302 316 [oR 0 0, oR 4 0, oI v3, oI v4, oI v5, oI v6, oI v7, oI v8] (q.2 ++ []) q.1)) (fun _ => rfl) (rg_bd2 h fun s19 v20 hc h => rg_call (q := cvI (s19, v20)) (T_fItems_setAddress hc) ?_)
    exact rg_end 1 (fun _ => rfl) (by cases h; rfl)
  refine rg_if h (fun h => ?_) fun h => ?_
  · refine rg_step 4 (G' := fun f => ev_after (evT f 65 0 [oR 100 0, oI v3] [] s) (fun q => evT f 302 325 [oR 0 0, oR 4 0, oI v3, oI v4, oI v5, oI v6, oI v7, oI v8] (q.2 ++ []) q.1)) (fun _ => rfl) (rg_bd2 h fun s21 v22 hc h => rg_call (q := cvI (s21, v22)) (T_fItems_takeReading hc) ?_)
    exact rg_end 1 (fun _ => rfl) (by cases h; rfl)
  refine rg_if h (fun h => ?_) fun h => ?_
  · refine rg_step 6 (G' := fun f => ev_after (evT f 66 0 [oR 100 0, oI v3, oI v4, oI v5, nn, nn, nn] [] s) (fun q => evT f 302 337 [oR 0 0, oR 4 0, oI v3, oI v4, oI v5, oI v6, oI v7, oI v8] (q.2 ++ []) q.1)) (fun _ => rfl) (rg_bd2 h fun s23 v24 hc h => rg_call (q := cvI (s23, v24)) (T_fItems_hearClerk hc) ?_)
    exact rg_end 1 (fun _ => rfl) (by cases h; rfl)
  refine rg_if h (fun h => ?_) fun h => ?_
  · refine rg_step 5 (G' := fun f => ev_after (evT f 67 0 [oR 100 0, oI v3, oI v4] [] s) (fun q => evT f 302 347 [oR 0 0, oR 4 0, oI v3, oI v4, oI v5, oI v6, oI v7, oI v8] (q.2 ++ []) q.1)) (fun _ => rfl) (rg_bd2 h fun s25 v26 hc h => rg_call (q := cvI (s25, v26)) (T_fItems_postAt hc) ?_)
    exact rg_end 1 (fun _ => rfl) (by cases h; rfl)
  refine rg_if h (fun h => ?_) fun h => ?_
  · refine rg_step 7 (G' := fun f => ev_after (evT f 172 0 [oR 138 0, oI v3, oI v4, oI v5, oI v6] [] s) (fun q => evT f 302 361 [oR 0 0, oR 4 0, oI v3, oI v4, oI v5, oI v6, oI v7, oI v8] (q.2 ++ []) q.1)) (fun _ => rfl) (rg_bd2 h fun s27 v28 hc h => rg_call (q := cvI (s27, v28)) (T_fRounds_setMachine hc) ?_)
    exact rg_end 1 (fun _ => rfl) (by cases h; rfl)
  refine rg_if h (fun h => ?_) fun h => ?_
  · refine rg_step 6 (G' := fun f => ev_after (evT f 173 0 [oR 138 0, oI v3, oI v4, oI v5] [] s) (fun q => evT f 302 373 [oR 0 0, oR 4 0, oI v3, oI v4, oI v5, oI v6, oI v7, oI v8] (q.2 ++ []) q.1)) (fun _ => rfl) (rg_bd2 h fun s29 v30 hc h => rg_call (q := cvI (s29, v30)) (T_fRounds_make hc) ?_)
    exact rg_end 1 (fun _ => rfl) (by cases h; rfl)
  refine rg_if h (fun h => ?_) fun h => ?_
  · refine rg_step 5 (G' := fun f => ev_after (evT f 174 0 [oR 138 0, oI v3, oI v4] [] s) (fun q => evT f 302 383 [oR 0 0, oR 4 0, oI v3, oI v4, oI v5, oI v6, oI v7, oI v8] (q.2 ++ []) q.1)) (fun _ => rfl) (rg_bd2 h fun s31 v32 hc h => rg_call (q := cvI (s31, v32)) (T_fRounds_addStop hc) ?_)
    exact rg_end 1 (fun _ => rfl) (by cases h; rfl)
  refine rg_if h (fun h => ?_) fun h => ?_
  · refine rg_step 4 (G' := fun f => ev_after (evT f 175 0 [oR 138 0, oI v3, nn, nn, nn, nn, nn] [] s) (fun q => evT f 302 392 [oR 0 0, oR 4 0, oI v3, oI v4, oI v5, oI v6, oI v7, oI v8] (q.2 ++ []) q.1)) (fun _ => rfl) (rg_bd2 h fun s33 v34 hc h => rg_call (q := cvI (s33, v34)) (T_fRounds_arrangeStops hc) ?_)
    exact rg_end 1 (fun _ => rfl) (by cases h; rfl)
  refine rg_if h (fun h => ?_) fun h => ?_
  · refine rg_step 4 (G' := fun f => ev_after (evT f 183 0 [oR 138 0, oI v3, nn, nn] [] s) (fun q => evT f 302 401 [oR 0 0, oR 4 0, oI v3, oI v4, oI v5, oI v6, oI v7, oI v8] (q.2 ++ []) q.1)) (fun _ => rfl) (rg_bd2 h fun s35 v36 hc h => rg_call (q := cvI (s35, v36)) (T_fRounds_sortItems hc) ?_)
    exact rg_end 1 (fun _ => rfl) (by cases h; rfl)
  refine rg_if h (fun h => ?_) fun h => ?_
  · refine rg_step 4 (G' := fun f => ev_after (evT f 192 0 [oR 138 0, oI v3, nn, nn] [] s) (fun q => evT f 302 410 [oR 0 0, oR 4 0, oI v3, oI v4, oI v5, oI v6, oI v7, oI v8] (q.2 ++ []) q.1)) (fun _ => rfl) (rg_bd2 h fun s37 v38 hc h => rg_call (q := cvI (s37, v38)) (T_fRounds_sendOut hc) ?_)
    exact rg_end 1 (fun _ => rfl) (by cases h; rfl)
  refine rg_if h (fun h => ?_) fun h => ?_
  · refine rg_step 8 (G' := fun f => ev_after (evT f 88 0 [oR 449 0, oI v3, oI v4, oI v5, oI v6, oI v7] [] s) (fun q => evT f 302 426 [oR 0 0, oR 4 0, oI v3, oI v4, oI v5, oI v6, oI v7, oI v8] (q.2 ++ []) q.1)) (fun _ => rfl) (rg_bd2 h fun s39 v40 hc h => rg_call (q := cvI (s39, v40)) (T_fLines_make hc) ?_)
    exact rg_end 1 (fun _ => rfl) (by cases h; rfl)
  refine rg_if h (fun h => ?_) fun h => ?_
  · refine rg_step 5 (G' := fun f => ev_after (evT f 91 0 [oR 449 0, oI v3, oI v4] [] s) (fun q => evT f 302 436 [oR 0 0, oR 4 0, oI v3, oI v4, oI v5, oI v6, oI v7, oI v8] (q.2 ++ []) q.1)) (fun _ => rfl) (rg_bd2 h fun s41 v42 hc h => rg_call (q := cvI (s41, v42)) (T_fLines_delay hc) ?_)
    exact rg_end 1 (fun _ => rfl) (by cases h; rfl)
  refine rg_if h (fun h => ?_) fun h => ?_
  · refine rg_step 5 (G' := fun f => ev_after (evT f 92 0 [oR 449 0, oI v3, oI v4] [] s) (fun q => evT f 302 446 [oR 0 0, oR 4 0, oI v3, oI v4, oI v5, oI v6, oI v7, oI v8] (q.2 ++ []) q.1)) (fun _ => rfl) (rg_bd2 h fun s43 v44 hc h => rg_call (q := cvI (s43, v44)) (T_fLines_makeBag hc) ?_)
    exact rg_end 1 (fun _ => rfl) (by cases h; rfl)
  refine rg_if h (fun h => ?_) fun h => ?_
  · refine rg_step 5 (G' := fun f => ev_after (evT f 93 0 [oR 449 0, oI v3, oI v4, nn] [] s) (fun q => evT f 302 456 [oR 0 0, oR 4 0, oI v3, oI v4, oI v5, oI v6, oI v7, oI v8] (q.2 ++ []) q.1)) (fun _ => rfl) (rg_bd2 h fun s45 v46 hc h => rg_call (q := cvI (s45, v46)) (T_fLines_fillBag hc) ?_)
    exact rg_end 1 (fun _ => rfl) (by cases h; rfl)
  refine rg_if h (fun h => ?_) fun h => ?_
  · refine rg_step 4 (G' := fun f => ev_after (evT f 94 0 [oR 449 0, oI v3] [] s) (fun q => evT f 302 465 [oR 0 0, oR 4 0, oI v3, oI v4, oI v5, oI v6, oI v7, oI v8] (q.2 ++ []) q.1)) (fun _ => rfl) (rg_bd2 h fun s47 v48 hc h => rg_call (q := cvI (s47, v48)) (T_fLines_shutBag hc) ?_)
    exact rg_end 1 (fun _ => rfl) (by cases h; rfl)
  refine rg_if h (fun h => ?_) fun h => ?_
  · refine rg_step 4 (G' := fun f => ev_after (evT f 95 0 [oR 449 0, oI v3, nn, nn] [] s) (fun q => evT f 302 474 [oR 0 0, oR 4 0, oI v3, oI v4, oI v5, oI v6, oI v7, oI v8] (q.2 ++ []) q.1)) (fun _ => rfl) (rg_bd2 h fun s49 v50 hc h => rg_call (q := cvI (s49, v50)) (T_fLines_emptyBag hc) ?_)
    exact rg_end 1 (fun _ => rfl) (by cases h; rfl)
  refine rg_if h (fun h => ?_) fun h => ?_
  · refine rg_step 7 (G' := fun f => ev_after (evT f 76 0 [oR 100 0, oI v3, oI v4, oI v5, oI v6] [] s) (fun q => evT f 302 488 [oR 0 0, oR 4 0, oI v3, oI v4, oI v5, oI v6, oI v7, oI v8] (q.2 ++ []) q.1)) (fun _ => rfl) (rg_bd2 h fun s51 v52 hc h => rg_call (q := cvI (s51, v52)) (T_fItems_handAtDoor hc) ?_)
    exact rg_end 1 (fun _ => rfl) (by cases h; rfl)
  refine rg_if h (fun h => ?_) fun h => ?_
  · refine rg_step 4 (G' := fun f => ev_after (evT f 79 0 [oR 100 0, oI v3] [] s) (fun q => evT f 302 497 [oR 0 0, oR 4 0, oI v3, oI v4, oI v5, oI v6, oI v7, oI v8] (q.2 ++ []) q.1)) (fun _ => rfl) (rg_bd2 h fun s53 v54 hc h => rg_call (q := cvI (s53, v54)) (T_fItems_missAtDoor hc) ?_)
    exact rg_end 1 (fun _ => rfl) (by cases h; rfl)
  refine rg_if h (fun h => ?_) fun h => ?_
  · refine rg_step 4 (G' := fun f => ev_after (evT f 80 0 [oR 100 0, oI v3] [] s) (fun q => evT f 302 506 [oR 0 0, oR 4 0, oI v3, oI v4, oI v5, oI v6, oI v7, oI v8] (q.2 ++ []) q.1)) (fun _ => rfl) (rg_bd2 h fun s55 v56 hc h => rg_call (q := cvI (s55, v56)) (T_fItems_refuseItem hc) ?_)
    exact rg_end 1 (fun _ => rfl) (by cases h; rfl)
  refine rg_if h (fun h => ?_) fun h => ?_
  · refine rg_step 5 (G' := fun f => ev_after (evT f 115 0 [oR 125 0, oI v3, oI v4, nn, nn] [] s) (fun q => evT f 302 516 [oR 0 0, oR 4 0, oI v3, oI v4, oI v5, oI v6, oI v7, oI v8] (q.2 ++ []) q.1)) (fun _ => rfl) (rg_bd2 h fun s57 v58 hc h => rg_call (q := cvI (s57, v58)) (T_fLock_fill hc) ?_)
    exact rg_end 1 (fun _ => rfl) (by cases h; rfl)
  refine rg_if h (fun h => ?_) fun h => ?_
  · refine rg_step 7 (G' := fun f => ev_after (evT f 77 0 [oR 100 0, oI v3, oI v4, oI v5, oI v6] [] s) (fun q => evT f 302 530 [oR 0 0, oR 4 0, oI v3, oI v4, oI v5, oI v6, oI v7, oI v8] (q.2 ++ []) q.1)) (fun _ => rfl) (rg_bd2 h fun s59 v60 hc h => rg_call (q := cvI (s59, v60)) (T_fItems_handAtPost hc) ?_)
    exact rg_end 1 (fun _ => rfl) (by cases h; rfl)
  refine rg_if h (fun h => ?_) fun h => ?_
  · refine rg_step 5 (G' := fun f => ev_after (evT f 116 0 [oR 125 0, oI v3, oI v4, nn, nn] [] s) (fun q => evT f 302 540 [oR 0 0, oR 4 0, oI v3, oI v4, oI v5, oI v6, oI v7, oI v8] (q.2 ++ []) q.1)) (fun _ => rfl) (rg_bd2 h fun s61 v62 hc h => rg_call (q := cvI (s61, v62)) (T_fLock_tryKey hc) ?_)
    exact rg_end 1 (fun _ => rfl) (by cases h; rfl)
  refine rg_if h (fun h => ?_) fun h => ?_
  · refine rg_step 3 (G' := fun f => ev_after (evT f 305 0 [oR 0 0, oI v3] [] s) (fun q => evT f 302 546 [oR 0 0, oR 4 0, oI v3, oI v4, oI v5, oI v6, oI v7, oI v8] (q.2 ++ []) q.1)) (fun _ => rfl) (rg_bd2 h fun s63 v64 hc h => rg_call (q := cvI (s63, v64)) (T_fPH_loseItem hc) ?_)
    exact rg_end 1 (fun _ => rfl) (by cases h; rfl)
  refine rg_if h (fun h => ?_) fun h => ?_
  · refine rg_step 4 (G' := fun f => ev_after (evT f 150 0 [oR 78 0, oI v3, nn] [] s) (fun q => evT f 302 555 [oR 0 0, oR 4 0, oI v3, oI v4, oI v5, oI v6, oI v7, oI v8] (q.2 ++ []) q.1)) (fun _ => rfl) (rg_bd2 h fun s65 v66 hc h => rg_call (q := cvI (s65, v66)) (T_fMoney_openAccount hc) ?_)
    exact rg_end 1 (fun _ => rfl) (by cases h; rfl)
  refine rg_if h (fun h => ?_) fun h => ?_
  · refine rg_step 5 (G' := fun f => ev_after (evT f 151 0 [oR 78 0, oI v3, oI v4] [] s) (fun q => evT f 302 565 [oR 0 0, oR 4 0, oI v3, oI v4, oI v5, oI v6, oI v7, oI v8] (q.2 ++ []) q.1)) (fun _ => rfl) (rg_bd2 h fun s67 v68 hc h => rg_call (q := cvI (s67, v68)) (T_fMoney_payIn hc) ?_)
    exact rg_end 1 (fun _ => rfl) (by cases h; rfl)
  refine rg_if h (fun h => ?_) fun h => ?_
  · refine rg_step 4 (G' := fun f => ev_after (evT f 155 0 [oR 78 0, oR 4 0, nn, nn, nn, nn] [] s) (fun q => evT f 302 574 [oR 0 0, oR 4 0, oI v3, oI v4, oI v5, oI v6, oI v7, oI v8] (q.2 ++ []) q.1)) (fun _ => rfl) (rg_bd2 h fun s69 v70 hc h => rg_call (q := cvI (s69, v70)) (T_fMoney_readTariff_4 hc) ?_)
    exact rg_end 1 (fun _ => rfl) (by cases h; rfl)
  refine rg_if h (fun h => ?_) fun h => ?_
  · refine rg_step 4 (G' := fun f => ev_after (evT f 81 0 [oR 100 0, oI v3, nn, nn] [] s) (fun q => evT f 302 583 [oR 0 0, oR 4 0, oI v3, oI v4, oI v5, oI v6, oI v7, oI v8] (q.2 ++ []) q.1)) (fun _ => rfl) (rg_bd2 h fun s71 v72 hc h => rg_call (q := cvI (s71, v72)) (T_fItems_frankItem hc) ?_)
    exact rg_end 1 (fun _ => rfl) (by cases h; rfl)
  refine rg_if h (fun h => ?_) fun h => ?_
  · refine rg_step 6 (G' := fun f => ev_after (evT f 161 0 [oR 78 0, oI v3, oI v4, oI v5] [] s) (fun q => evT f 302 595 [oR 0 0, oR 4 0, oI v3, oI v4, oI v5, oI v6, oI v7, oI v8] (q.2 ++ []) q.1)) (fun _ => rfl) (rg_bd2 h fun s73 v74 hc h => rg_call (q := cvI (s73, v74)) (T_fMoney_makeOrder hc) ?_)
    exact rg_end 1 (fun _ => rfl) (by cases h; rfl)
  refine rg_if h (fun h => ?_) fun h => ?_
  · refine rg_step 6 (G' := fun f => ev_after (evT f 162 0 [oR 78 0, oI v3, oI v4, oI v5] [] s) (fun q => evT f 302 607 [oR 0 0, oR 4 0, oI v3, oI v4, oI v5, oI v6, oI v7, oI v8] (q.2 ++ []) q.1)) (fun _ => rfl) (rg_bd2 h fun s75 v76 hc h => rg_call (q := cvI (s75, v76)) (T_fMoney_payOrder hc) ?_)
    exact rg_end 1 (fun _ => rfl) (by cases h; rfl)
  refine rg_if h (fun h => ?_) fun h => ?_
  · refine rg_step 5 (G' := fun f => ev_after (evT f 82 0 [oR 100 0, oI v3, oI v4, nn] [] s) (fun q => evT f 302 617 [oR 0 0, oR 4 0, oI v3, oI v4, oI v5, oI v6, oI v7, oI v8] (q.2 ++ []) q.1)) (fun _ => rfl) (rg_bd2 h fun s77 v78 hc h => rg_call (q := cvI (s77, v78)) (T_fItems_claimFor hc) ?_)
    exact rg_end 1 (fun _ => rfl) (by cases h; rfl)
  refine rg_if h (fun h => ?_) fun h => ?_
  · refine rg_step 5 (G' := fun f => ev_after (evT f 111 0 [oR 125 0, oI v3, oI v4] [] s) (fun q => evT f 302 627 [oR 0 0, oR 4 0, oI v3, oI v4, oI v5, oI v6, oI v7, oI v8] (q.2 ++ []) q.1)) (fun _ => rfl) (rg_bd2 h fun s79 v80 hc h => rg_call (q := cvI (s79, v80)) (T_fLock_make hc) ?_)
    exact rg_end 1 (fun _ => rfl) (by cases h; rfl)
  refine rg_if h (fun h => ?_) fun h => ?_
  · refine rg_step 5 (G' := fun f => ev_after (evT f 47 0 [oR 15 0, oI v3, oI v4] [] s) (fun q => evT f 302 637 [oR 0 0, oR 4 0, oI v3, oI v4, oI v5, oI v6, oI v7, oI v8] (q.2 ++ []) q.1)) (fun _ => rfl) (rg_bd2 h fun s81 v82 hc h => rg_call (q := cvI (s81, v82)) (T_fChron_setDevice hc) ?_)
    exact rg_end 1 (fun _ => rfl) (by cases h; rfl)
  refine rg_if h (fun h => ?_) fun h => ?_
  · refine rg_step 6 (G' := fun f => ev_after (evT f 304 0 [oR 0 0, oI v3, oI v4, oI v5, oI v6] [] s) (fun q => evT f 302 648 [oR 0 0, oR 4 0, oI v3, oI v4, oI v5, oI v6, oI v7, oI v8] (q.2 ++ []) q.1)) (fun _ => rfl) (rg_bd2 h fun s83 v84 hc h => rg_call (q := cvI (s83, v84)) (T_fPH_scanItem hc) ?_)
    exact rg_end 1 (fun _ => rfl) (by cases h; rfl)
  refine rg_if h (fun h => ?_) fun h => ?_
  · refine rg_step 4 (G' := fun f => ev_after (evT f 148 0 [oR 78 0, oI v3] [] s) (fun q => evT f 302 657 [oR 0 0, oR 4 0, oI v3, oI v4, oI v5, oI v6, oI v7, oI v8] (q.2 ++ []) q.1)) (fun _ => rfl) (rg_bd1 h fun v85 hc h => rg_call (q := cvP s v85) (T_fMoney_isCustomer hc) ?_)
    refine rg_step 1 (G' := fun f => if v85 = 0 then evT f 302 683 [oR 0 0, oR 4 0, oI v3, oI v4, oI v5, oI v6, oI v7, oI v8] [] s else evT f 302 660 [oR 0 0, oR 4 0, oI v3, oI v4, oI v5, oI v6, oI v7, oI v8] [] s) (fun _ => rfl) (rg_if h (fun h => ?_) fun h => ?_)
    · exact rg_end 2 (fun _ => rfl) (by cases h; rfl)
    · refine rg_step 7 (G' := fun f => if v5 = (cI 1) then evT f 302 672 [oR 0 0, oR 4 0, oI v3, oI v4, oI v5, oI v6, oI v7, oI v8] [vI v4, vI v3, vR 15 0] s else evT f 302 676 [oR 0 0, oR 4 0, oI v3, oI v4, oI v5, oI v6, oI v7, oI v8] [vI v4, vI v3, vR 15 0] s) (fun _ => rfl) (rg_if h (fun h => ?_) fun h => ?_)
      · exact rg_step 2 (G' := fun f => evT f 302 677 [oR 0 0, oR 4 0, oI v3, oI v4, oI v5, oI v6, oI v7, oI v8] [vI (cI 1), vI v4, vI v3, vR 15 0] s) (fun _ => rfl) ((t_fPH_act_4_b677) h)
      · exact rg_step 1 (G' := fun f => evT f 302 677 [oR 0 0, oR 4 0, oI v3, oI v4, oI v5, oI v6, oI v7, oI v8] [vI (cI 0), vI v4, vI v3, vR 15 0] s) (fun _ => rfl) ((t_fPH_act_4_b677) h)
  refine rg_if h (fun h => ?_) fun h => ?_
  · refine rg_step 3 (G' := fun f => ev_after (evT f 306 0 [oR 0 0, oI v3, nn, nn, nn] [] s) (fun q => evT f 302 691 [oR 0 0, oR 4 0, oI v3, oI v4, oI v5, oI v6, oI v7, oI v8] (q.2 ++ []) q.1)) (fun _ => rfl) (rg_bd2 h fun s86 v87 hc h => rg_call (q := cvI (s86, v87)) (T_fPH_goOn hc) ?_)
    exact rg_end 1 (fun _ => rfl) (by cases h; rfl)
  exact rg_end 2 (fun _ => rfl) (by cases h; rfl)
theorem ti_fLog_gather_h9 : ∀ (n : Nat) (s : ev_M) (x1 : Int32) (x2 : Int32) (x3 : Int32) (q : ev_M), fLog_gather_h9 n s x1 x2 x3 = some q → RR 140 9 [oR 9 0, oI x1, oI x2, oI x3] [] s (cvV q) := by
  intro n
  induction n with
  | zero => intro s x1 x2 x3 q h; cases h
  | succ n ih =>
    have hk9 : ∀ {s : ev_M} {x1 : Int32} {x2 : Int32} {x3 : Int32} {q : ev_M}, fLog_gather_h9 n s x1 x2 x3 = some q → RR 140 9 [oR 9 0, oI x1, oI x2, oI x3] [] s (cvV q) := fun h => ih _ _ _ _ _ h
    intro s x1 x2 x3 q h
    refine rg_step 3 (G' := fun f => if x3 < x2 then evT f 140 14 [oR 9 0, oI x1, oI x2, oI x3] [] s else evT f 140 32 [oR 9 0, oI x1, oI x2, oI x3] [] s) (fun _ => rfl) (rg_if h (fun h => ?_) fun h => ?_)
    · refine rg_step 7 (G' := fun f => ev_after (evT f 134 0 [oR 9 0, oI x1, oI ((cI 4) + x3)] [] s) (fun q => evT f 140 23 [oR 9 0, oI x1, oI x2, oI x3] (q.2 ++ [vR 9 0]) q.1)) (fun _ => rfl) (rg_bd1 h fun v1 hc h => rg_call (q := cvP s v1) (T_fLog_byteAt hc) ?_)
      refine rg_step 1 (G' := fun f => ev_after (evT f 125 0 [oR 9 0, oI v1] [] s) (fun q => evT f 140 26 [oR 9 0, oI x1, oI x2, oI x3] (q.2 ++ []) q.1)) (fun _ => rfl) (rg_bd1 h fun s2 hc h => rg_call (q := cvV s2) (T_fLog_append hc) ?_)
      exact rg_step 2 (G' := fun f => evT f 140 9 [oR 9 0, oI x1, oI x2, oI (x3 + cI 1)] [] s2) (fun _ => rfl) (hk9 h)
    · exact rg_end 1 (fun _ => rfl) (by cases h; rfl)
theorem t_fLog_gather_h9 {n : Nat} {s : ev_M} {x1 : Int32} {x2 : Int32} {x3 : Int32} {q : ev_M} (h : fLog_gather_h9 n s x1 x2 x3 = some q) : RR 140 9 [oR 9 0, oI x1, oI x2, oI x3] [] s (cvV q) := ti_fLog_gather_h9 n s x1 x2 x3 q h
theorem T_fLog_gather {s : ev_M} {a1 : Int32} {q : ev_M} (h : fLog_gather s a1 = some q) : RR 140 0 [oR 9 0, oI a1, nn, nn] [] s (cvV q) := by
  refine rg_step 4 (G' := fun f => ev_after (evT f 134 0 [oR 9 0, oI a1, oI (cI 3)] [] s) (fun q => evT f 140 6 [oR 9 0, oI a1, nn, nn] (q.2 ++ []) q.1)) (fun _ => rfl) (rg_bd1 h fun v3 hc h => rg_call (q := cvP s v3) (T_fLog_byteAt hc) ?_)
  exact rg_step 3 (G' := fun f => evT f 140 9 [oR 9 0, oI a1, oI v3, oI (cI 0)] [] s) (fun _ => rfl) ((t_fLog_gather_h9) h)
theorem T_fLog_isLast {s : ev_M} {a1 : Int32} {q : Int32} (h : fLog_isLast s a1 = some q) : RR 137 0 [oR 9 0, oI a1] [] s (cvP s q) := by
  refine rg_step 4 (G' := fun f => ev_after (evT f 134 0 [oR 9 0, oI a1, oI (cI 2)] [] s) (fun q => evT f 137 6 [oR 9 0, oI a1] (q.2 ++ []) q.1)) (fun _ => rfl) (rg_bd1 h fun v1 hc h => rg_call (q := cvP s v1) (T_fLog_byteAt hc) ?_)
  refine rg_step 2 (G' := fun f => if v1 = (cI 1) then evT f 137 10 [oR 9 0, oI a1] [] s else evT f 137 14 [oR 9 0, oI a1] [] s) (fun _ => rfl) (rg_if h (fun h => ?_) fun h => ?_)
  · exact rg_end 3 (fun _ => rfl) (by cases h; rfl)
  · exact rg_end 2 (fun _ => rfl) (by cases h; rfl)
theorem T_fLog_endAgain {s : ev_M} {q : ev_M × Int32} (h : fLog_endAgain s = some q) : RR 142 0 [oR 9 0] [] s (cvI q) := by
  refine rg_step 3 (G' := fun f => evT f 142 5 [oR 9 0] [] (wI s 9 12 (cI 0))) (fun _ => rfl) (rg_ltM h fun s1 h => ?_)
  refine rg_step 3 (G' := fun f => evT f 142 10 [oR 9 0] [] (wI s1 9 9 (cI 0))) (fun _ => rfl) (rg_ltM h fun s2 h => ?_)
  exact rg_end 3 (fun _ => rfl) (by cases h; rfl)
theorem ti_fArr_fillI_20_h5 : ∀ (n : Nat) (s : ev_M) (x1 : Int32) (x2 : Int32) (x3 : Int32) (q : ev_M), fArr_fillI_20_h5 n s x1 x2 x3 = some q → RR 537 5 [oR 20 0, oI x1, oI x2, oI x3] [] s (cvV q) := by
  intro n
  induction n with
  | zero => intro s x1 x2 x3 q h; cases h
  | succ n ih =>
    have hk5 : ∀ {s : ev_M} {x1 : Int32} {x2 : Int32} {x3 : Int32} {q : ev_M}, fArr_fillI_20_h5 n s x1 x2 x3 = some q → RR 537 5 [oR 20 0, oI x1, oI x2, oI x3] [] s (cvV q) := fun h => ih _ _ _ _ _ h
    intro s x1 x2 x3 q h
    refine rg_step 3 (G' := fun f => if x2 < x3 then evT f 537 10 [oR 20 0, oI x1, oI x2, oI x3] [] s else evT f 537 20 [oR 20 0, oI x1, oI x2, oI x3] [] s) (fun _ => rfl) (rg_if h (fun h => ?_) fun h => ?_)
    · refine rg_step 4 (G' := fun f => if inb x2 300 = true then evT f 537 14 [oR 20 0, oI x1, oI x2, oI x3] [] (wI s 20 (ix x2) x1) else none) (fun _ => rfl) (rg_gd h fun h => rg_ltM h fun s1 h => ?_)
      exact rg_step 2 (G' := fun f => evT f 537 5 [oR 20 0, oI x1, oI (x2 + cI 1), oI x3] [] s1) (fun _ => rfl) (hk5 h)
    · exact rg_end 1 (fun _ => rfl) (by cases h; rfl)
theorem t_fArr_fillI_20_h5 {n : Nat} {s : ev_M} {x1 : Int32} {x2 : Int32} {x3 : Int32} {q : ev_M} (h : fArr_fillI_20_h5 n s x1 x2 x3 = some q) : RR 537 5 [oR 20 0, oI x1, oI x2, oI x3] [] s (cvV q) := ti_fArr_fillI_20_h5 n s x1 x2 x3 q h
theorem T_fArr_fillI_20 {s : ev_M} {a1 : Int32} {q : ev_M} (h : fArr_fillI_20 s a1 = some q) : RR 537 0 [oR 20 0, oI a1, nn, nn] [] s (cvV q) := by
  exact rg_step 5 (G' := fun f => evT f 537 5 [oR 20 0, oI a1, oI (cI 0), oI (cI 300)] [] s) (fun _ => rfl) ((t_fArr_fillI_20_h5) h)
theorem ti_fArr_fillI_21_h5 : ∀ (n : Nat) (s : ev_M) (x1 : Int32) (x2 : Int32) (x3 : Int32) (q : ev_M), fArr_fillI_21_h5 n s x1 x2 x3 = some q → RR 537 5 [oR 21 0, oI x1, oI x2, oI x3] [] s (cvV q) := by
  intro n
  induction n with
  | zero => intro s x1 x2 x3 q h; cases h
  | succ n ih =>
    have hk5 : ∀ {s : ev_M} {x1 : Int32} {x2 : Int32} {x3 : Int32} {q : ev_M}, fArr_fillI_21_h5 n s x1 x2 x3 = some q → RR 537 5 [oR 21 0, oI x1, oI x2, oI x3] [] s (cvV q) := fun h => ih _ _ _ _ _ h
    intro s x1 x2 x3 q h
    refine rg_step 3 (G' := fun f => if x2 < x3 then evT f 537 10 [oR 21 0, oI x1, oI x2, oI x3] [] s else evT f 537 20 [oR 21 0, oI x1, oI x2, oI x3] [] s) (fun _ => rfl) (rg_if h (fun h => ?_) fun h => ?_)
    · refine rg_step 4 (G' := fun f => if inb x2 300 = true then evT f 537 14 [oR 21 0, oI x1, oI x2, oI x3] [] (wI s 21 (ix x2) x1) else none) (fun _ => rfl) (rg_gd h fun h => rg_ltM h fun s1 h => ?_)
      exact rg_step 2 (G' := fun f => evT f 537 5 [oR 21 0, oI x1, oI (x2 + cI 1), oI x3] [] s1) (fun _ => rfl) (hk5 h)
    · exact rg_end 1 (fun _ => rfl) (by cases h; rfl)
theorem t_fArr_fillI_21_h5 {n : Nat} {s : ev_M} {x1 : Int32} {x2 : Int32} {x3 : Int32} {q : ev_M} (h : fArr_fillI_21_h5 n s x1 x2 x3 = some q) : RR 537 5 [oR 21 0, oI x1, oI x2, oI x3] [] s (cvV q) := ti_fArr_fillI_21_h5 n s x1 x2 x3 q h
theorem T_fArr_fillI_21 {s : ev_M} {a1 : Int32} {q : ev_M} (h : fArr_fillI_21 s a1 = some q) : RR 537 0 [oR 21 0, oI a1, nn, nn] [] s (cvV q) := by
  exact rg_step 5 (G' := fun f => evT f 537 5 [oR 21 0, oI a1, oI (cI 0), oI (cI 300)] [] s) (fun _ => rfl) ((t_fArr_fillI_21_h5) h)
theorem ti_fArr_fillI_28_h5 : ∀ (n : Nat) (s : ev_M) (x1 : Int32) (x2 : Int32) (x3 : Int32) (q : ev_M), fArr_fillI_28_h5 n s x1 x2 x3 = some q → RR 537 5 [oR 28 0, oI x1, oI x2, oI x3] [] s (cvV q) := by
  intro n
  induction n with
  | zero => intro s x1 x2 x3 q h; cases h
  | succ n ih =>
    have hk5 : ∀ {s : ev_M} {x1 : Int32} {x2 : Int32} {x3 : Int32} {q : ev_M}, fArr_fillI_28_h5 n s x1 x2 x3 = some q → RR 537 5 [oR 28 0, oI x1, oI x2, oI x3] [] s (cvV q) := fun h => ih _ _ _ _ _ h
    intro s x1 x2 x3 q h
    refine rg_step 3 (G' := fun f => if x2 < x3 then evT f 537 10 [oR 28 0, oI x1, oI x2, oI x3] [] s else evT f 537 20 [oR 28 0, oI x1, oI x2, oI x3] [] s) (fun _ => rfl) (rg_if h (fun h => ?_) fun h => ?_)
    · refine rg_step 4 (G' := fun f => if inb x2 34 = true then evT f 537 14 [oR 28 0, oI x1, oI x2, oI x3] [] (wI s 28 (ix x2) x1) else none) (fun _ => rfl) (rg_gd h fun h => rg_ltM h fun s1 h => ?_)
      exact rg_step 2 (G' := fun f => evT f 537 5 [oR 28 0, oI x1, oI (x2 + cI 1), oI x3] [] s1) (fun _ => rfl) (hk5 h)
    · exact rg_end 1 (fun _ => rfl) (by cases h; rfl)
theorem t_fArr_fillI_28_h5 {n : Nat} {s : ev_M} {x1 : Int32} {x2 : Int32} {x3 : Int32} {q : ev_M} (h : fArr_fillI_28_h5 n s x1 x2 x3 = some q) : RR 537 5 [oR 28 0, oI x1, oI x2, oI x3] [] s (cvV q) := ti_fArr_fillI_28_h5 n s x1 x2 x3 q h
theorem T_fArr_fillI_28 {s : ev_M} {a1 : Int32} {q : ev_M} (h : fArr_fillI_28 s a1 = some q) : RR 537 0 [oR 28 0, oI a1, nn, nn] [] s (cvV q) := by
  exact rg_step 5 (G' := fun f => evT f 537 5 [oR 28 0, oI a1, oI (cI 0), oI (cI 34)] [] s) (fun _ => rfl) ((t_fArr_fillI_28_h5) h)
theorem ti_fArr_fillI_29_h5 : ∀ (n : Nat) (s : ev_M) (x1 : Int32) (x2 : Int32) (x3 : Int32) (q : ev_M), fArr_fillI_29_h5 n s x1 x2 x3 = some q → RR 537 5 [oR 29 0, oI x1, oI x2, oI x3] [] s (cvV q) := by
  intro n
  induction n with
  | zero => intro s x1 x2 x3 q h; cases h
  | succ n ih =>
    have hk5 : ∀ {s : ev_M} {x1 : Int32} {x2 : Int32} {x3 : Int32} {q : ev_M}, fArr_fillI_29_h5 n s x1 x2 x3 = some q → RR 537 5 [oR 29 0, oI x1, oI x2, oI x3] [] s (cvV q) := fun h => ih _ _ _ _ _ h
    intro s x1 x2 x3 q h
    refine rg_step 3 (G' := fun f => if x2 < x3 then evT f 537 10 [oR 29 0, oI x1, oI x2, oI x3] [] s else evT f 537 20 [oR 29 0, oI x1, oI x2, oI x3] [] s) (fun _ => rfl) (rg_if h (fun h => ?_) fun h => ?_)
    · refine rg_step 4 (G' := fun f => if inb x2 8 = true then evT f 537 14 [oR 29 0, oI x1, oI x2, oI x3] [] (wI s 29 (ix x2) x1) else none) (fun _ => rfl) (rg_gd h fun h => rg_ltM h fun s1 h => ?_)
      exact rg_step 2 (G' := fun f => evT f 537 5 [oR 29 0, oI x1, oI (x2 + cI 1), oI x3] [] s1) (fun _ => rfl) (hk5 h)
    · exact rg_end 1 (fun _ => rfl) (by cases h; rfl)
theorem t_fArr_fillI_29_h5 {n : Nat} {s : ev_M} {x1 : Int32} {x2 : Int32} {x3 : Int32} {q : ev_M} (h : fArr_fillI_29_h5 n s x1 x2 x3 = some q) : RR 537 5 [oR 29 0, oI x1, oI x2, oI x3] [] s (cvV q) := ti_fArr_fillI_29_h5 n s x1 x2 x3 q h
theorem T_fArr_fillI_29 {s : ev_M} {a1 : Int32} {q : ev_M} (h : fArr_fillI_29 s a1 = some q) : RR 537 0 [oR 29 0, oI a1, nn, nn] [] s (cvV q) := by
  exact rg_step 5 (G' := fun f => evT f 537 5 [oR 29 0, oI a1, oI (cI 0), oI (cI 8)] [] s) (fun _ => rfl) ((t_fArr_fillI_29_h5) h)
theorem T_fChron_clear {s : ev_M} {q : ev_M} (h : fChron_clear s = some q) : RR 40 0 [oR 15 0] [] s (cvV q) := by
  refine rg_step 3 (G' := fun f => evT f 40 5 [oR 15 0] [] (wI s 15 1 (cI 0))) (fun _ => rfl) (rg_ltM h fun s1 h => ?_)
  refine rg_step 3 (G' := fun f => evT f 40 10 [oR 15 0] [] (wI s1 15 2 (cI 0))) (fun _ => rfl) (rg_ltM h fun s2 h => ?_)
  refine rg_step 3 (G' := fun f => evT f 40 15 [oR 15 0] [] (wI s2 15 7 (cI 0))) (fun _ => rfl) (rg_ltM h fun s3 h => ?_)
  refine rg_step 4 (G' := fun f => ev_after (evT f 537 0 [oR 20 0, oI (cI (-1)), nn, nn] [] s3) (fun q => evT f 40 23 [oR 15 0] (q.2 ++ []) q.1)) (fun _ => rfl) (rg_bd1 h fun s4 hc h => rg_call (q := cvV s4) (T_fArr_fillI_20 hc) ?_)
  refine rg_step 4 (G' := fun f => ev_after (evT f 537 0 [oR 21 0, oI (cI (-1)), nn, nn] [] s4) (fun q => evT f 40 31 [oR 15 0] (q.2 ++ []) q.1)) (fun _ => rfl) (rg_bd1 h fun s5 hc h => rg_call (q := cvV s5) (T_fArr_fillI_21 hc) ?_)
  refine rg_step 4 (G' := fun f => ev_after (evT f 537 0 [oR 28 0, oI (cI 0), nn, nn] [] s5) (fun q => evT f 40 39 [oR 15 0] (q.2 ++ []) q.1)) (fun _ => rfl) (rg_bd1 h fun s6 hc h => rg_call (q := cvV s6) (T_fArr_fillI_28 hc) ?_)
  refine rg_step 4 (G' := fun f => ev_after (evT f 537 0 [oR 29 0, oI (cI 0), nn, nn] [] s6) (fun q => evT f 40 47 [oR 15 0] (q.2 ++ []) q.1)) (fun _ => rfl) (rg_bd1 h fun s7 hc h => rg_call (q := cvV s7) (T_fArr_fillI_29 hc) ?_)
  exact rg_end 1 (fun _ => rfl) (by cases h; rfl)
theorem T_fBook_clear {s : ev_M} {q : ev_M} (h : fBook_clear s = some q) : RR 11 0 [oR 30 0] [] s (cvV q) := by
  refine rg_step 6 (G' := fun f => ev_after (evT f 12 0 [oR 30 0, oI (cI 0), oI (cI 0), oI (cI 0), oI (cI 0)] [] s) (fun q => evT f 11 8 [oR 30 0] (q.2 ++ []) q.1)) (fun _ => rfl) (rg_bd1 h fun s1 hc h => rg_call (q := cvV s1) (T_fBook_keepFirst hc) ?_)
  refine rg_step 3 (G' := fun f => evT f 11 13 [oR 30 0] [] (wI s1 30 11 (cI 0))) (fun _ => rfl) (rg_ltM h fun s2 h => ?_)
  exact rg_end 1 (fun _ => rfl) (by cases h; rfl)
theorem T_fSheet_clear {s : ev_M} {q : ev_M} (h : fSheet_clear s = some q) : RR 196 0 [oR 52 0] [] s (cvV q) := by
  refine rg_step 3 (G' := fun f => evT f 196 5 [oR 52 0] [] (wI s 52 2 (cI 0))) (fun _ => rfl) (rg_ltM h fun s1 h => ?_)
  refine rg_step 3 (G' := fun f => evT f 196 10 [oR 52 0] [] (wI s1 52 3 (cI (-1)))) (fun _ => rfl) (rg_ltM h fun s2 h => ?_)
  refine rg_step 3 (G' := fun f => evT f 196 15 [oR 52 0] [] (wI s2 52 13 (cI 0))) (fun _ => rfl) (rg_ltM h fun s3 h => ?_)
  exact rg_end 1 (fun _ => rfl) (by cases h; rfl)
theorem ti_fArr_fillB_80_h6 : ∀ (n : Nat) (s : ev_M) (x1 : Int64) (x3 : Int32) (x4 : Int32) (j2 : Option ev_V) (q : ev_M), fArr_fillB_80_h6 n s x1 x3 x4 = some q → RR 536 6 [oR 80 0, oL x1, j2, oI x3, oI x4] [] s (cvV q) := by
  intro n
  induction n with
  | zero => intro s x1 x3 x4 j2 q h; cases h
  | succ n ih =>
    have hk6 : ∀ {s : ev_M} {x1 : Int64} {x3 : Int32} {x4 : Int32} {j2 : Option ev_V} {q : ev_M}, fArr_fillB_80_h6 n s x1 x3 x4 = some q → RR 536 6 [oR 80 0, oL x1, j2, oI x3, oI x4] [] s (cvV q) := fun h => ih _ _ _ _ _ _ h
    intro s x1 x3 x4 j2 q h
    refine rg_step 3 (G' := fun f => if x3 < x4 then evT f 536 12 [oR 80 0, oL x1, nn, oI x3, oI x4] [] s else evT f 536 22 [oR 80 0, oL x1, nn, oI x3, oI x4] [] s) (fun _ => rfl) (rg_if h (fun h => ?_) fun h => ?_)
    · refine rg_step 4 (G' := fun f => if inb x3 34 = true then evT f 536 16 [oR 80 0, oL x1, nn, oI x3, oI x4] [] (wL s 80 (ix x3) x1) else none) (fun _ => rfl) (rg_gd h fun h => rg_ltM h fun s1 h => ?_)
      exact rg_step 2 (G' := fun f => evT f 536 6 [oR 80 0, oL x1, nn, oI (x3 + cI 1), oI x4] [] s1) (fun _ => rfl) (hk6 h)
    · exact rg_end 1 (fun _ => rfl) (by cases h; rfl)
theorem t_fArr_fillB_80_h6 {n : Nat} {s : ev_M} {x1 : Int64} {x3 : Int32} {x4 : Int32} {j2 : Option ev_V} {q : ev_M} (h : fArr_fillB_80_h6 n s x1 x3 x4 = some q) : RR 536 6 [oR 80 0, oL x1, j2, oI x3, oI x4] [] s (cvV q) := ti_fArr_fillB_80_h6 n s x1 x3 x4 j2 q h
theorem T_fArr_fillB_80 {s : ev_M} {a1 : Int64} {q : ev_M} (h : fArr_fillB_80 s a1 = some q) : RR 536 0 [oR 80 0, oL a1, nn, nn, nn] [] s (cvV q) := by
  exact rg_step 5 (G' := fun f => evT f 536 6 [oR 80 0, oL a1, nn, oI (cI 0), oI (cI 34)] [] s) (fun _ => rfl) ((t_fArr_fillB_80_h6) h)
theorem T_fMoney_clear {s : ev_M} {q : ev_M} (h : fMoney_clear s = some q) : RR 146 0 [oR 78 0] [] s (cvV q) := by
  refine rg_step 3 (G' := fun f => evT f 146 5 [oR 78 0] [] (wI s 78 3 (cI 0))) (fun _ => rfl) (rg_ltM h fun s1 h => ?_)
  refine rg_step 3 (G' := fun f => evT f 146 10 [oR 78 0] [] (wI s1 78 6 (cI 0))) (fun _ => rfl) (rg_ltM h fun s2 h => ?_)
  refine rg_step 3 (G' := fun f => evT f 146 15 [oR 78 0] [] (wI s2 78 8 (cI 0))) (fun _ => rfl) (rg_ltM h fun s3 h => ?_)
  refine rg_step 3 (G' := fun f => evT f 146 20 [oR 78 0] [] (wI s3 78 9 (cI 0))) (fun _ => rfl) (rg_ltM h fun s4 h => ?_)
  refine rg_step 3 (G' := fun f => evT f 146 25 [oR 78 0] [] (wI s4 78 11 (cI 0))) (fun _ => rfl) (rg_ltM h fun s5 h => ?_)
  refine rg_step 4 (G' := fun f => ev_after (evT f 536 0 [oR 80 0, oL (cL 0), nn, nn, nn] [] s5) (fun q => evT f 146 33 [oR 78 0] (q.2 ++ []) q.1)) (fun _ => rfl) (rg_bd1 h fun s6 hc h => rg_call (q := cvV s6) (T_fArr_fillB_80 hc) ?_)
  exact rg_end 1 (fun _ => rfl) (by cases h; rfl)
theorem T_fItems_clear {s : ev_M} {q : ev_M} (h : fItems_clear s = some q) : RR 50 0 [oR 100 0] [] s (cvV q) := by
  refine rg_step 3 (G' := fun f => evT f 50 5 [oR 100 0] [] (wI s 100 5 (cI 0))) (fun _ => rfl) (rg_ltM h fun s1 h => ?_)
  refine rg_step 3 (G' := fun f => evT f 50 10 [oR 100 0] [] (wI s1 100 6 (cI 0))) (fun _ => rfl) (rg_ltM h fun s2 h => ?_)
  exact rg_end 1 (fun _ => rfl) (by cases h; rfl)
theorem T_fLock_clear {s : ev_M} {q : ev_M} (h : fLock_clear s = some q) : RR 109 0 [oR 125 0] [] s (cvV q) := by
  refine rg_step 3 (G' := fun f => evT f 109 5 [oR 125 0] [] (wI s 125 3 (cI 0))) (fun _ => rfl) (rg_ltM h fun s1 h => ?_)
  exact rg_end 1 (fun _ => rfl) (by cases h; rfl)
theorem ti_fArr_fillI_158_h5 : ∀ (n : Nat) (s : ev_M) (x1 : Int32) (x2 : Int32) (x3 : Int32) (q : ev_M), fArr_fillI_158_h5 n s x1 x2 x3 = some q → RR 537 5 [oR 158 0, oI x1, oI x2, oI x3] [] s (cvV q) := by
  intro n
  induction n with
  | zero => intro s x1 x2 x3 q h; cases h
  | succ n ih =>
    have hk5 : ∀ {s : ev_M} {x1 : Int32} {x2 : Int32} {x3 : Int32} {q : ev_M}, fArr_fillI_158_h5 n s x1 x2 x3 = some q → RR 537 5 [oR 158 0, oI x1, oI x2, oI x3] [] s (cvV q) := fun h => ih _ _ _ _ _ h
    intro s x1 x2 x3 q h
    refine rg_step 3 (G' := fun f => if x2 < x3 then evT f 537 10 [oR 158 0, oI x1, oI x2, oI x3] [] s else evT f 537 20 [oR 158 0, oI x1, oI x2, oI x3] [] s) (fun _ => rfl) (rg_if h (fun h => ?_) fun h => ?_)
    · refine rg_step 4 (G' := fun f => if inb x2 120 = true then evT f 537 14 [oR 158 0, oI x1, oI x2, oI x3] [] (wI s 158 (ix x2) x1) else none) (fun _ => rfl) (rg_gd h fun h => rg_ltM h fun s1 h => ?_)
      exact rg_step 2 (G' := fun f => evT f 537 5 [oR 158 0, oI x1, oI (x2 + cI 1), oI x3] [] s1) (fun _ => rfl) (hk5 h)
    · exact rg_end 1 (fun _ => rfl) (by cases h; rfl)
theorem t_fArr_fillI_158_h5 {n : Nat} {s : ev_M} {x1 : Int32} {x2 : Int32} {x3 : Int32} {q : ev_M} (h : fArr_fillI_158_h5 n s x1 x2 x3 = some q) : RR 537 5 [oR 158 0, oI x1, oI x2, oI x3] [] s (cvV q) := ti_fArr_fillI_158_h5 n s x1 x2 x3 q h
theorem T_fArr_fillI_158 {s : ev_M} {a1 : Int32} {q : ev_M} (h : fArr_fillI_158 s a1 = some q) : RR 537 0 [oR 158 0, oI a1, nn, nn] [] s (cvV q) := by
  exact rg_step 5 (G' := fun f => evT f 537 5 [oR 158 0, oI a1, oI (cI 0), oI (cI 120)] [] s) (fun _ => rfl) ((t_fArr_fillI_158_h5) h)
theorem T_fRounds_clear {s : ev_M} {q : ev_M} (h : fRounds_clear s = some q) : RR 167 0 [oR 138 0] [] s (cvV q) := by
  refine rg_step 3 (G' := fun f => evT f 167 5 [oR 138 0] [] (wI s 138 3 (cI 0))) (fun _ => rfl) (rg_ltM h fun s1 h => ?_)
  refine rg_step 3 (G' := fun f => evT f 167 10 [oR 138 0] [] (wI s1 138 9 (cI 0))) (fun _ => rfl) (rg_ltM h fun s2 h => ?_)
  refine rg_step 3 (G' := fun f => evT f 167 15 [oR 138 0] [] (wI s2 138 10 (cI 0))) (fun _ => rfl) (rg_ltM h fun s3 h => ?_)
  refine rg_step 4 (G' := fun f => ev_after (evT f 537 0 [oR 158 0, oI (cI (-1)), nn, nn] [] s3) (fun q => evT f 167 23 [oR 138 0] (q.2 ++ []) q.1)) (fun _ => rfl) (rg_bd1 h fun s4 hc h => rg_call (q := cvV s4) (T_fArr_fillI_158 hc) ?_)
  refine rg_step 5 (G' := fun f => evT f 167 30 [oR 138 0] [] (wI s4 172 (ix (cI 0)) (cI 4))) (fun _ => rfl) (rg_ltM h fun s5 h => ?_)
  refine rg_step 5 (G' := fun f => evT f 167 38 [oR 138 0] [] (wI s5 172 (ix (cI 1)) (cI 100))) (fun _ => rfl) (rg_ltM h fun s6 h => ?_)
  refine rg_step 5 (G' := fun f => evT f 167 46 [oR 138 0] [] (wI s6 172 (ix (cI 2)) (cI 50))) (fun _ => rfl) (rg_ltM h fun s7 h => ?_)
  refine rg_step 5 (G' := fun f => evT f 167 54 [oR 138 0] [] (wI s7 172 (ix (cI 3)) (cI 80))) (fun _ => rfl) (rg_ltM h fun s8 h => ?_)
  exact rg_end 1 (fun _ => rfl) (by cases h; rfl)
theorem T_fLines_clear {s : ev_M} {q : ev_M} (h : fLines_clear s = some q) : RR 85 0 [oR 449 0] [] s (cvV q) := by
  refine rg_step 3 (G' := fun f => evT f 85 5 [oR 449 0] [] (wI s 449 4 (cI 0))) (fun _ => rfl) (rg_ltM h fun s1 h => ?_)
  refine rg_step 3 (G' := fun f => evT f 85 10 [oR 449 0] [] (wI s1 449 6 (cI 0))) (fun _ => rfl) (rg_ltM h fun s2 h => ?_)
  exact rg_end 1 (fun _ => rfl) (by cases h; rfl)
theorem T_fPH_clearHouse {s : ev_M} {q : ev_M} (h : fPH_clearHouse s = some q) : RR 303 0 [oR 0 0] [] s (cvV q) := by
  refine rg_step 3 (G' := fun f => ev_after (evT f 40 0 [oR 15 0] [] s) (fun q => evT f 303 7 [oR 0 0] (q.2 ++ []) q.1)) (fun _ => rfl) (rg_bd1 h fun s1 hc h => rg_call (q := cvV s1) (T_fChron_clear hc) ?_)
  refine rg_step 3 (G' := fun f => ev_after (evT f 11 0 [oR 30 0] [] s1) (fun q => evT f 303 14 [oR 0 0] (q.2 ++ []) q.1)) (fun _ => rfl) (rg_bd1 h fun s2 hc h => rg_call (q := cvV s2) (T_fBook_clear hc) ?_)
  refine rg_step 3 (G' := fun f => ev_after (evT f 196 0 [oR 52 0] [] s2) (fun q => evT f 303 21 [oR 0 0] (q.2 ++ []) q.1)) (fun _ => rfl) (rg_bd1 h fun s3 hc h => rg_call (q := cvV s3) (T_fSheet_clear hc) ?_)
  refine rg_step 3 (G' := fun f => ev_after (evT f 146 0 [oR 78 0] [] s3) (fun q => evT f 303 28 [oR 0 0] (q.2 ++ []) q.1)) (fun _ => rfl) (rg_bd1 h fun s4 hc h => rg_call (q := cvV s4) (T_fMoney_clear hc) ?_)
  refine rg_step 3 (G' := fun f => ev_after (evT f 50 0 [oR 100 0] [] s4) (fun q => evT f 303 35 [oR 0 0] (q.2 ++ []) q.1)) (fun _ => rfl) (rg_bd1 h fun s5 hc h => rg_call (q := cvV s5) (T_fItems_clear hc) ?_)
  refine rg_step 3 (G' := fun f => ev_after (evT f 109 0 [oR 125 0] [] s5) (fun q => evT f 303 42 [oR 0 0] (q.2 ++ []) q.1)) (fun _ => rfl) (rg_bd1 h fun s6 hc h => rg_call (q := cvV s6) (T_fLock_clear hc) ?_)
  refine rg_step 3 (G' := fun f => ev_after (evT f 167 0 [oR 138 0] [] s6) (fun q => evT f 303 49 [oR 0 0] (q.2 ++ []) q.1)) (fun _ => rfl) (rg_bd1 h fun s7 hc h => rg_call (q := cvV s7) (T_fRounds_clear hc) ?_)
  refine rg_step 3 (G' := fun f => ev_after (evT f 85 0 [oR 449 0] [] s7) (fun q => evT f 303 56 [oR 0 0] (q.2 ++ []) q.1)) (fun _ => rfl) (rg_bd1 h fun s8 hc h => rg_call (q := cvV s8) (T_fLines_clear hc) ?_)
  exact rg_end 1 (fun _ => rfl) (by cases h; rfl)
theorem ti_fLog_sumOf_10_h4 {s : ev_M} : ∀ (n : Nat) (x1 : Int32) (x2 : Int32) (x3 : Int32) (j4 : Option ev_V) (q : Int32), fLog_sumOf_10_h4 s n x1 x2 x3 = some q → RR 132 4 [oR 10 0, oI x1, oI x2, oI x3, j4] [] s (cvP s q) := by
  intro n
  induction n with
  | zero => intro x1 x2 x3 j4 q h; cases h
  | succ n ih =>
    have hk4 : ∀ {x1 : Int32} {x2 : Int32} {x3 : Int32} {j4 : Option ev_V} {q : Int32}, fLog_sumOf_10_h4 s n x1 x2 x3 = some q → RR 132 4 [oR 10 0, oI x1, oI x2, oI x3, j4] [] s (cvP s q) := fun h => ih _ _ _ _ _ h
    intro x1 x2 x3 j4 q h
    refine rg_step 5 (G' := fun f => if x3 < (x1 + (cI 252)) then evT f 132 13 [oR 10 0, oI x1, oI x2, oI x3, nn] [] s else evT f 132 50 [oR 10 0, oI x1, oI x2, oI x3, nn] [] s) (fun _ => rfl) (rg_if h (fun h => ?_) fun h => ?_)
    · refine rg_step 4 (G' := fun f => if x3 < (cI 38400) then evT f 132 19 [oR 10 0, oI x1, oI x2, oI x3, nn] [] s else evT f 132 50 [oR 10 0, oI x1, oI x2, oI x3, nn] [] s) (fun _ => rfl) (rg_if h (fun h => ?_) fun h => ?_)
      · refine rg_step 4 (G' := fun f => if inb x3 38400 = true then evT f 132 23 [oR 10 0, oI x1, oI x2, oI x3, nn] [vI (s.1 10 (ix x3)), vI x2] s else none) (fun _ => rfl) (rg_gd h fun h => ?_)
        refine rg_step 4 (G' := fun f => evT f 132 30 [oR 10 0, oI x1, oI x2, oI x3, oI (x2 ^^^ ((s.1 10 (ix x3)) &&& (cI 255)))] [] s) (fun _ => rfl) (rg_ltI (P := fun v1 => RG (fun f => evT f 132 30 [oR 10 0, oI x1, oI x2, oI x3, oI v1] [] s) (cvP s q)) h fun v1 h => ?_)
        refine rg_step 7 (G' := fun f => evT f 132 40 [oR 10 0, oI x1, oI x2, oI x3, oI v1] [vI ((v1 <<< ((cI 3) &&& 31)) ||| (iushr v1 (cI 29)))] s) (fun _ => rfl) ?_
        refine rg_step 1 (G' := fun f => evT f 132 42 [oR 10 0, oI x1, oI x2, oI x3, oI v1] [vI (cI (-2048144777)), vI ((v1 <<< ((cI 3) &&& 31)) ||| (iushr v1 (cI 29)))] s) (fun f => ev_ldcs (f := f) (M := 132) (pc := 40) (idx := 123) (r := (-2048144777)) rfl (by decide)) ?_
        refine rg_step 1 (G' := fun f => evT f 132 43 [oR 10 0, oI x1, oI x2, oI x3, oI v1] [vI (((v1 <<< ((cI 3) &&& 31)) ||| (iushr v1 (cI 29))) * (cI (-2048144777)))] s) (fun f => ev_mul1 (f := f) (M := 132) (pc := 42) rfl) ?_
        refine rg_step 1 (G' := fun f => evT f 132 44 [oR 10 0, oI x1, oI (((v1 <<< ((cI 3) &&& 31)) ||| (iushr v1 (cI 29))) * (cI (-2048144777))), oI x3, oI v1] [] s) (fun _ => rfl) (rg_ltI (P := fun v2 => RG (fun f => evT f 132 44 [oR 10 0, oI x1, oI v2, oI x3, oI v1] [] s) (cvP s q)) h fun v2 h => ?_)
        exact rg_step 2 (G' := fun f => evT f 132 4 [oR 10 0, oI x1, oI v2, oI (x3 + cI 1), oI v1] [] s) (fun _ => rfl) (hk4 h)
      · exact rg_end 2 (fun _ => rfl) (by cases h; rfl)
    · exact rg_end 2 (fun _ => rfl) (by cases h; rfl)
theorem t_fLog_sumOf_10_h4 {s : ev_M} {n : Nat} {x1 : Int32} {x2 : Int32} {x3 : Int32} {j4 : Option ev_V} {q : Int32} (h : fLog_sumOf_10_h4 s n x1 x2 x3 = some q) : RR 132 4 [oR 10 0, oI x1, oI x2, oI x3, j4] [] s (cvP s q) := ti_fLog_sumOf_10_h4 n x1 x2 x3 j4 q h
theorem T_fLog_sumOf_10 {s : ev_M} {a1 : Int32} {q : Int32} (h : fLog_sumOf_10 s a1 = some q) : RR 132 0 [oR 10 0, oI a1, nn, nn, nn] [] s (cvP s q) := by
  exact rg_step 4 (G' := fun f => evT f 132 4 [oR 10 0, oI a1, oI (cI 0), oI a1, nn] [] s) (fun _ => rfl) ((t_fLog_sumOf_10_h4) h)
theorem ti_fLog_isRight_h101 {s : ev_M} : ∀ (n : Nat) (x1 : Int32) (x3 : Int32) (x4 : Int32) (j2 : Option ev_V) (q : Int32), fLog_isRight_h101 s n x1 x3 x4 = some q → RR 138 101 [oR 9 0, oI x1, j2, oI x3, oI x4] [] s (cvP s q) := by
  intro n
  induction n with
  | zero => intro x1 x3 x4 j2 q h; cases h
  | succ n ih =>
    have hk101 : ∀ {x1 : Int32} {x3 : Int32} {x4 : Int32} {j2 : Option ev_V} {q : Int32}, fLog_isRight_h101 s n x1 x3 x4 = some q → RR 138 101 [oR 9 0, oI x1, j2, oI x3, oI x4] [] s (cvP s q) := fun h => ih _ _ _ _ _ h
    intro x1 x3 x4 j2 q h
    refine rg_step 3 (G' := fun f => if x4 < (cI 256) then evT f 138 109 [oR 9 0, oI x1, nn, oI x3, oI x4] [] s else evT f 138 128 [oR 9 0, oI x1, nn, oI x3, oI x4] [] s) (fun _ => rfl) (rg_if h (fun h => ?_) fun h => ?_)
    · refine rg_step 7 (G' := fun f => ev_after (evT f 134 0 [oR 9 0, oI x1, oI x4] [] s) (fun q => evT f 138 120 [oR 9 0, oI x1, nn, oI x3, oI x4] (q.2 ++ [vI (x3 <<< ((cI 8) &&& 31))]) q.1)) (fun _ => rfl) (rg_bd1 h fun v1 hc h => rg_call (q := cvP s v1) (T_fLog_byteAt hc) ?_)
      refine rg_step 2 (G' := fun f => evT f 138 122 [oR 9 0, oI x1, nn, oI ((x3 <<< ((cI 8) &&& 31)) ||| v1), oI x4] [] s) (fun _ => rfl) (rg_ltI (P := fun v2 => RG (fun f => evT f 138 122 [oR 9 0, oI x1, nn, oI v2, oI x4] [] s) (cvP s q)) h fun v2 h => ?_)
      exact rg_step 2 (G' := fun f => evT f 138 101 [oR 9 0, oI x1, nn, oI v2, oI (x4 + cI 1)] [] s) (fun _ => rfl) (hk101 h)
    · refine rg_step 9 (G' := fun f => ev_after (evT f 132 0 [oR 10 0, oI ((x1 - (cI 1)) * (cI 256)), nn, nn, nn] [] s) (fun q => evT f 138 143 [oR 9 0, oI x1, nn, oI x3, oI x4] (q.2 ++ [vI x3]) q.1)) (fun _ => rfl) (rg_bd1 h fun v3 hc h => rg_call (q := cvP s v3) (T_fLog_sumOf_10 hc) ?_)
      refine rg_step 1 (G' := fun f => if x3 = v3 then evT f 138 146 [oR 9 0, oI x1, nn, oI x3, oI x4] [] s else evT f 138 150 [oR 9 0, oI x1, nn, oI x3, oI x4] [] s) (fun _ => rfl) (rg_if h (fun h => ?_) fun h => ?_)
      · exact rg_end 3 (fun _ => rfl) (by cases h; rfl)
      · exact rg_end 2 (fun _ => rfl) (by cases h; rfl)
theorem t_fLog_isRight_h101 {s : ev_M} {n : Nat} {x1 : Int32} {x3 : Int32} {x4 : Int32} {j2 : Option ev_V} {q : Int32} (h : fLog_isRight_h101 s n x1 x3 x4 = some q) : RR 138 101 [oR 9 0, oI x1, j2, oI x3, oI x4] [] s (cvP s q) := ti_fLog_isRight_h101 n x1 x3 x4 j2 q h
theorem t_fLog_isRight_b94 {s : ev_M} {x1 : Int32} {j2 : Option ev_V} {j3 : Option ev_V} {j4 : Option ev_V} {q : Int32} (h : fLog_isRight_b94 s x1 = some q) : RR 138 94 [oR 9 0, oI x1, j2, j3, j4] [] s (cvP s q) := by
  exact rg_step 4 (G' := fun f => evT f 138 101 [oR 9 0, oI x1, nn, oI (cI 0), oI (cI 252)] [] s) (fun _ => rfl) ((t_fLog_isRight_h101) h)
theorem T_fLog_isRight {s : ev_M} {a1 : Int32} {q : Int32} (h : fLog_isRight s a1 = some q) : RR 138 0 [oR 9 0, oI a1, nn, nn, nn] [] s (cvP s q) := by
  refine rg_step 4 (G' := fun f => ev_after (evT f 308 0 [oI a1, oI (cI 1), oI (cI 150)] [] s) (fun q => evT f 138 8 [oR 9 0, oI a1, nn, nn, nn] (q.2 ++ []) q.1)) (fun _ => rfl) (rg_bd1 h fun v4 hc h => rg_call (q := cvP s v4) (T_fPH_outside hc) ?_)
  refine rg_step 1 (G' := fun f => if v4 = 0 then evT f 138 11 [oR 9 0, oI a1, nn, nn, nn] [] s else evT f 138 22 [oR 9 0, oI a1, nn, nn, nn] [] s) (fun _ => rfl) (rg_if h (fun h => ?_) fun h => ?_)
  · refine rg_step 6 (G' := fun f => if inb (a1 - (cI 1)) 150 = true then evT f 138 19 [oR 9 0, oI a1, nn, nn, nn] [vI (s.1 11 (ix (a1 - (cI 1))))] s else none) (fun _ => rfl) (rg_gd h fun h => ?_)
    refine rg_step 1 (G' := fun f => if (s.1 11 (ix (a1 - (cI 1)))) = 0 then evT f 138 24 [oR 9 0, oI a1, nn, nn, nn] [] s else evT f 138 22 [oR 9 0, oI a1, nn, nn, nn] [] s) (fun _ => rfl) (rg_if h (fun h => ?_) fun h => ?_)
    · refine rg_step 4 (G' := fun f => ev_after (evT f 134 0 [oR 9 0, oI a1, oI (cI 3)] [] s) (fun q => evT f 138 30 [oR 9 0, oI a1, nn, nn, nn] (q.2 ++ []) q.1)) (fun _ => rfl) (rg_bd1 h fun v5 hc h => rg_call (q := cvP s v5) (T_fLog_byteAt hc) ?_)
      refine rg_step 5 (G' := fun f => ev_after (evT f 134 0 [oR 9 0, oI a1, oI (cI 0)] [] s) (fun q => evT f 138 37 [oR 9 0, oI a1, oI v5, nn, nn] (q.2 ++ []) q.1)) (fun _ => rfl) (rg_bd1 h fun v6 hc h => rg_call (q := cvP s v6) (T_fLog_byteAt hc) ?_)
      refine rg_step 7 (G' := fun f => ev_after (evT f 134 0 [oR 9 0, oI a1, oI (cI 1)] [] s) (fun q => evT f 138 47 [oR 9 0, oI a1, oI v5, nn, nn] (q.2 ++ [vI a1, vI (v6 <<< ((cI 8) &&& 31))]) q.1)) (fun _ => rfl) (rg_bd1 h fun v7 hc h => rg_call (q := cvP s v7) (T_fLog_byteAt hc) ?_)
      refine rg_step 2 (G' := fun f => if (v6 <<< ((cI 8) &&& 31)) = (a1 - v7) then evT f 138 51 [oR 9 0, oI a1, oI v5, nn, nn] [] s else evT f 138 61 [oR 9 0, oI a1, oI v5, nn, nn] [] s) (fun _ => rfl) (rg_if h (fun h => ?_) fun h => ?_)
      · refine rg_step 4 (G' := fun f => ev_after (evT f 134 0 [oR 9 0, oI a1, oI (cI 2)] [] s) (fun q => evT f 138 57 [oR 9 0, oI a1, oI v5, nn, nn] (q.2 ++ []) q.1)) (fun _ => rfl) (rg_bd1 h fun v8 hc h => rg_call (q := cvP s v8) (T_fLog_byteAt hc) ?_)
        refine rg_step 2 (G' := fun f => if v8 ≤ (cI 1) then evT f 138 63 [oR 9 0, oI a1, oI v5, nn, nn] [] s else evT f 138 61 [oR 9 0, oI a1, oI v5, nn, nn] [] s) (fun _ => rfl) (rg_if h (fun h => ?_) fun h => ?_)
        · refine rg_step 3 (G' := fun f => ev_after (evT f 137 0 [oR 9 0, oI a1] [] s) (fun q => evT f 138 68 [oR 9 0, oI a1, oI v5, nn, nn] (q.2 ++ []) q.1)) (fun _ => rfl) (rg_bd1 h fun v9 hc h => rg_call (q := cvP s v9) (T_fLog_isLast hc) ?_)
          refine rg_step 1 (G' := fun f => if v9 = 0 then evT f 138 85 [oR 9 0, oI a1, oI v5, nn, nn] [] s else evT f 138 71 [oR 9 0, oI a1, oI v5, nn, nn] [] s) (fun _ => rfl) (rg_if h (fun h => ?_) fun h => ?_)
          · refine rg_step 3 (G' := fun f => if v5 = (cI 248) then evT f 138 94 [oR 9 0, oI a1, oI v5, nn, nn] [] s else evT f 138 92 [oR 9 0, oI a1, oI v5, nn, nn] [] s) (fun _ => rfl) (rg_if h (fun h => ?_) fun h => ?_)
            · exact (t_fLog_isRight_b94) h
            · exact rg_end 2 (fun _ => rfl) (by cases h; rfl)
          · refine rg_step 4 (G' := fun f => ev_after (evT f 308 0 [oI v5, oI (cI 1), oI (cI 248)] [] s) (fun q => evT f 138 79 [oR 9 0, oI a1, oI v5, nn, nn] (q.2 ++ []) q.1)) (fun _ => rfl) (rg_bd1 h fun v10 hc h => rg_call (q := cvP s v10) (T_fPH_outside hc) ?_)
            refine rg_step 1 (G' := fun f => if v10 = 0 then evT f 138 94 [oR 9 0, oI a1, oI v5, nn, nn] [] s else evT f 138 82 [oR 9 0, oI a1, oI v5, nn, nn] [] s) (fun _ => rfl) (rg_if h (fun h => ?_) fun h => ?_)
            · exact (t_fLog_isRight_b94) h
            · exact rg_end 3 (fun _ => rfl) (by cases h; rfl)
        · exact rg_end 2 (fun _ => rfl) (by cases h; rfl)
      · exact rg_end 2 (fun _ => rfl) (by cases h; rfl)
    · exact rg_end 2 (fun _ => rfl) (by cases h; rfl)
  · exact rg_end 2 (fun _ => rfl) (by cases h; rfl)
theorem t_fLog_beginAgain_b35 {k7 : ev_M → Int32 → Option ev_M} (hk7 : ∀ {s : ev_M} {x1 : Int32} {q : ev_M}, k7 s x1 = some q → RR 139 7 [oR 9 0, oI x1] [] s (cvV q)) {s : ev_M} {x1 : Int32} {q : ev_M} (h : fLog_beginAgain_b35 k7 s x1 = some q) : RR 139 35 [oR 9 0, oI x1] [] s (cvV q) := by
  exact rg_step 2 (G' := fun f => evT f 139 7 [oR 9 0, oI (x1 + cI 1)] [] s) (fun _ => rfl) (hk7 h)
theorem t_fLog_beginAgain_b41 {s : ev_M} {j1 : Option ev_V} {q : ev_M} (h : fLog_beginAgain_b41 s = some q) : RR 139 41 [oR 9 0, j1] [] s (cvV q) := by
  refine rg_step 3 (G' := fun f => evT f 139 46 [oR 9 0, nn] [] (wI s 9 10 (cI (-1)))) (fun _ => rfl) (rg_ltM h fun s1 h => ?_)
  refine rg_step 3 (G' := fun f => evT f 139 51 [oR 9 0, nn] [] (wI s1 9 12 (cI 1))) (fun _ => rfl) (rg_ltM h fun s2 h => ?_)
  refine rg_step 3 (G' := fun f => evT f 139 56 [oR 9 0, nn] [] (wI s2 9 13 (cI 0))) (fun _ => rfl) (rg_ltM h fun s3 h => ?_)
  refine rg_step 2 (G' := fun f => ev_after (evT f 141 0 [oR 9 0] [] s3) (fun q => evT f 139 60 [oR 9 0, nn] (q.2 ++ []) q.1)) (fun _ => rfl) (rg_bd1 h fun s4 hc h => rg_call (q := cvV s4) (T_fLog_forgetGathered hc) ?_)
  exact rg_end 1 (fun _ => rfl) (by cases h; rfl)
theorem ti_fLog_beginAgain_h7 : ∀ (n : Nat) (s : ev_M) (x1 : Int32) (q : ev_M), fLog_beginAgain_h7 n s x1 = some q → RR 139 7 [oR 9 0, oI x1] [] s (cvV q) := by
  intro n
  induction n with
  | zero => intro s x1 q h; cases h
  | succ n ih =>
    have hk7 : ∀ {s : ev_M} {x1 : Int32} {q : ev_M}, fLog_beginAgain_h7 n s x1 = some q → RR 139 7 [oR 9 0, oI x1] [] s (cvV q) := fun h => ih _ _ _ h
    intro s x1 q h
    refine rg_step 3 (G' := fun f => if x1 ≤ (cI 150) then evT f 139 14 [oR 9 0, oI x1] [] s else evT f 139 41 [oR 9 0, oI x1] [] s) (fun _ => rfl) (rg_if h (fun h => ?_) fun h => ?_)
    · refine rg_step 3 (G' := fun f => ev_after (evT f 138 0 [oR 9 0, oI x1, nn, nn, nn] [] s) (fun q => evT f 139 19 [oR 9 0, oI x1] (q.2 ++ []) q.1)) (fun _ => rfl) (rg_bd1 h fun v5 hc h => rg_call (q := cvP s v5) (T_fLog_isRight hc) ?_)
      refine rg_step 1 (G' := fun f => if v5 = 0 then evT f 139 41 [oR 9 0, oI x1] [] s else evT f 139 22 [oR 9 0, oI x1] [] s) (fun _ => rfl) (rg_if h (fun h => ?_) fun h => ?_)
      · exact (t_fLog_beginAgain_b41) h
      · refine rg_step 3 (G' := fun f => ev_after (evT f 137 0 [oR 9 0, oI x1] [] s) (fun q => evT f 139 27 [oR 9 0, oI x1] (q.2 ++ []) q.1)) (fun _ => rfl) (rg_bd1 h fun v6 hc h => rg_call (q := cvP s v6) (T_fLog_isLast hc) ?_)
        refine rg_step 1 (G' := fun f => if v6 = 0 then evT f 139 35 [oR 9 0, oI x1] [] s else evT f 139 30 [oR 9 0, oI x1] [] s) (fun _ => rfl) (rg_if h (fun h => ?_) fun h => ?_)
        · exact (t_fLog_beginAgain_b35 hk7) h
        · refine rg_step 3 (G' := fun f => evT f 139 35 [oR 9 0, oI x1] [] (wI s 9 4 x1)) (fun _ => rfl) (rg_ltM h fun s7 h => ?_)
          exact (t_fLog_beginAgain_b35 hk7) h
    · exact (t_fLog_beginAgain_b41) h
theorem t_fLog_beginAgain_h7 {n : Nat} {s : ev_M} {x1 : Int32} {q : ev_M} (h : fLog_beginAgain_h7 n s x1 = some q) : RR 139 7 [oR 9 0, oI x1] [] s (cvV q) := ti_fLog_beginAgain_h7 n s x1 q h
theorem T_fLog_beginAgain {s : ev_M} {q : ev_M} (h : fLog_beginAgain s = some q) : RR 139 0 [oR 9 0, nn] [] s (cvV q) := by
  refine rg_step 3 (G' := fun f => evT f 139 5 [oR 9 0, nn] [] (wI s 9 4 (cI 0))) (fun _ => rfl) (rg_ltM h fun s8 h => ?_)
  exact rg_step 2 (G' := fun f => evT f 139 7 [oR 9 0, oI (cI 1)] [] s8) (fun _ => rfl) ((t_fLog_beginAgain_h7) h)
theorem t_fPH_start_b100 {k26 : ev_M → Int32 → Option (ev_M × Int32)} (hk26 : ∀ {s : ev_M} {x1 : Int32} {j2 : Option ev_V} {q : ev_M × Int32}, k26 s x1 = some q → RR 233 26 [oR 0 0, oI x1, j2] [] s (cvI q)) {s : ev_M} {x1 : Int32} {j2 : Option ev_V} {q : ev_M × Int32} (h : fPH_start_b100 k26 s x1 = some q) : RR 233 100 [oR 0 0, oI x1, j2] [] s (cvI q) := by
  exact rg_step 2 (G' := fun f => evT f 233 26 [oR 0 0, oI (x1 + cI 1), nn] [] s) (fun _ => rfl) (hk26 h)
theorem t_fPH_start_b93 {k26 : ev_M → Int32 → Option (ev_M × Int32)} (hk26 : ∀ {s : ev_M} {x1 : Int32} {j2 : Option ev_V} {q : ev_M × Int32}, k26 s x1 = some q → RR 233 26 [oR 0 0, oI x1, j2] [] s (cvI q)) {s : ev_M} {x1 : Int32} {j2 : Option ev_V} {q : ev_M × Int32} (h : fPH_start_b93 k26 s x1 = some q) : RR 233 93 [oR 0 0, oI x1, j2] [] s (cvI q) := by
  refine rg_step 3 (G' := fun f => ev_after (evT f 141 0 [oR 9 0] [] s) (fun q => evT f 233 100 [oR 0 0, oI x1, nn] (q.2 ++ []) q.1)) (fun _ => rfl) (rg_bd1 h fun s1 hc h => rg_call (q := cvV s1) (T_fLog_forgetGathered hc) ?_)
  exact (t_fPH_start_b100 hk26) h
theorem ti_fPH_start_h58 {k26 : ev_M → Int32 → Option (ev_M × Int32)} (hk26 : ∀ {s : ev_M} {x1 : Int32} {j2 : Option ev_V} {q : ev_M × Int32}, k26 s x1 = some q → RR 233 26 [oR 0 0, oI x1, j2] [] s (cvI q)) : ∀ (n : Nat) (s : ev_M) (x1 : Int32) (x2 : Int32) (q : ev_M × Int32), fPH_start_h58 k26 n s x1 x2 = some q → RR 233 58 [oR 0 0, oI x1, oI x2] [] s (cvI q) := by
  intro n
  induction n with
  | zero => intro s x1 x2 q h; cases h
  | succ n ih =>
    have hk58 : ∀ {s : ev_M} {x1 : Int32} {x2 : Int32} {q : ev_M × Int32}, fPH_start_h58 k26 n s x1 x2 = some q → RR 233 58 [oR 0 0, oI x1, oI x2] [] s (cvI q) := fun h => ih _ _ _ _ h
    intro s x1 x2 q h
    refine rg_step 3 (G' := fun f => if x2 < (cI 37200) then evT f 233 64 [oR 0 0, oI x1, oI x2] [] s else evT f 233 93 [oR 0 0, oI x1, oI x2] [] s) (fun _ => rfl) (rg_if h (fun h => ?_) fun h => ?_)
    · refine rg_step 5 (G' := fun f => ev_after (evT f 143 0 [oR 9 0, oR 4 0, nn, nn] [] s) (fun q => evT f 233 75 [oR 0 0, oI x1, oI x2] (q.2 ++ []) q.1)) (fun _ => rfl) (rg_bd2 h fun s2 v3 hc h => rg_call (q := cvI (s2, v3)) (T_fLog_readsRecord_4 hc) ?_)
      refine rg_step 1 (G' := fun f => if v3 = 0 then evT f 233 93 [oR 0 0, oI x1, oI x2] [] s2 else evT f 233 78 [oR 0 0, oI x1, oI x2] [] s2) (fun _ => rfl) (rg_if h (fun h => ?_) fun h => ?_)
      · exact (t_fPH_start_b93 hk26) h
      · refine rg_step 4 (G' := fun f => ev_after (evT f 302 0 [oR 0 0, oR 4 0, nn, nn, nn, nn, nn, nn] [] s2) (fun q => evT f 233 86 [oR 0 0, oI x1, oI x2] (q.2 ++ []) q.1)) (fun _ => rfl) (rg_bd2 h fun s4 v5 hc h => rg_call (q := cvI (s4, v5)) (T_fPH_act_4 hc) ?_)
        exact rg_step 3 (G' := fun f => evT f 233 58 [oR 0 0, oI x1, oI (x2 + cI 1)] [] s4) (fun _ => rfl) (hk58 h)
    · exact (t_fPH_start_b93 hk26) h
theorem t_fPH_start_h58 {k26 : ev_M → Int32 → Option (ev_M × Int32)} (hk26 : ∀ {s : ev_M} {x1 : Int32} {j2 : Option ev_V} {q : ev_M × Int32}, k26 s x1 = some q → RR 233 26 [oR 0 0, oI x1, j2] [] s (cvI q)) {n : Nat} {s : ev_M} {x1 : Int32} {x2 : Int32} {q : ev_M × Int32} (h : fPH_start_h58 k26 n s x1 x2 = some q) : RR 233 58 [oR 0 0, oI x1, oI x2] [] s (cvI q) := ti_fPH_start_h58 hk26 n s x1 x2 q h
theorem ti_fPH_start_h26 : ∀ (n : Nat) (s : ev_M) (x1 : Int32) (j2 : Option ev_V) (q : ev_M × Int32), fPH_start_h26 n s x1 = some q → RR 233 26 [oR 0 0, oI x1, j2] [] s (cvI q) := by
  intro n
  induction n with
  | zero => intro s x1 j2 q h; cases h
  | succ n ih =>
    have hk26 : ∀ {s : ev_M} {x1 : Int32} {j2 : Option ev_V} {q : ev_M × Int32}, fPH_start_h26 n s x1 = some q → RR 233 26 [oR 0 0, oI x1, j2] [] s (cvI q) := fun h => ih _ _ _ _ h
    intro s x1 j2 q h
    refine rg_step 5 (G' := fun f => if x1 ≤ (s.1 9 4) then evT f 233 37 [oR 0 0, oI x1, nn] [] s else evT f 233 106 [oR 0 0, oI x1, nn] [] s) (fun _ => rfl) (rg_if h (fun h => ?_) fun h => ?_)
    · refine rg_step 4 (G' := fun f => ev_after (evT f 140 0 [oR 9 0, oI x1, nn, nn] [] s) (fun q => evT f 233 45 [oR 0 0, oI x1, nn] (q.2 ++ []) q.1)) (fun _ => rfl) (rg_bd1 h fun s6 hc h => rg_call (q := cvV s6) (T_fLog_gather hc) ?_)
      refine rg_step 4 (G' := fun f => ev_after (evT f 137 0 [oR 9 0, oI x1] [] s6) (fun q => evT f 233 53 [oR 0 0, oI x1, nn] (q.2 ++ []) q.1)) (fun _ => rfl) (rg_bd1 h fun v7 hc h => rg_call (q := cvP s6 v7) (T_fLog_isLast hc) ?_)
      refine rg_step 1 (G' := fun f => if v7 = 0 then evT f 233 100 [oR 0 0, oI x1, nn] [] s6 else evT f 233 56 [oR 0 0, oI x1, nn] [] s6) (fun _ => rfl) (rg_if h (fun h => ?_) fun h => ?_)
      · exact (t_fPH_start_b100 hk26) h
      · exact rg_step 2 (G' := fun f => evT f 233 58 [oR 0 0, oI x1, oI (cI 0)] [] s6) (fun _ => rfl) ((t_fPH_start_h58 hk26) h)
    · refine rg_step 3 (G' := fun f => ev_after (evT f 142 0 [oR 9 0] [] s) (fun q => evT f 233 113 [oR 0 0, oI x1, nn] (q.2 ++ []) q.1)) (fun _ => rfl) (rg_bd2 h fun s8 v9 hc h => rg_call (q := cvI (s8, v9)) (T_fLog_endAgain hc) ?_)
      exact rg_end 1 (fun _ => rfl) (by cases h; rfl)
theorem t_fPH_start_h26 {n : Nat} {s : ev_M} {x1 : Int32} {j2 : Option ev_V} {q : ev_M × Int32} (h : fPH_start_h26 n s x1 = some q) : RR 233 26 [oR 0 0, oI x1, j2] [] s (cvI q) := ti_fPH_start_h26 n s x1 j2 q h
theorem T_fPH_start {s : ev_M} {q : ev_M × Int32} (h : fPH_start s = some q) : RR 233 0 [oR 0 0, nn, nn] [] s (cvI q) := by
  refine rg_step 4 (G' := fun f => if (s.1 9 9) = 0 then evT f 233 10 [oR 0 0, nn, nn] [] s else evT f 233 13 [oR 0 0, nn, nn] [] s) (fun _ => rfl) (rg_if h (fun h => ?_) fun h => ?_)
  · exact rg_end 2 (fun _ => rfl) (by cases h; rfl)
  · refine rg_step 2 (G' := fun f => ev_after (evT f 303 0 [oR 0 0] [] s) (fun q => evT f 233 17 [oR 0 0, nn, nn] (q.2 ++ []) q.1)) (fun _ => rfl) (rg_bd1 h fun s10 hc h => rg_call (q := cvV s10) (T_fPH_clearHouse hc) ?_)
    refine rg_step 3 (G' := fun f => ev_after (evT f 139 0 [oR 9 0, nn] [] s10) (fun q => evT f 233 24 [oR 0 0, nn, nn] (q.2 ++ []) q.1)) (fun _ => rfl) (rg_bd1 h fun s11 hc h => rg_call (q := cvV s11) (T_fLog_beginAgain hc) ?_)
    exact rg_step 2 (G' := fun f => evT f 233 26 [oR 0 0, oI (cI 1), nn] [] s11) (fun _ => rfl) ((t_fPH_start_h26) h)
theorem T_fM_at {s : ev_M} {a1 : Int32} {a2 : Int32} {q : Int32} (h : fM_at s a1 a2 = some q) : RR 325 0 [oR 549 0, oI a1, oI a2] [] s (cvP s q) := by
  refine rg_step 8 (G' := fun f => if inb (((cI 256) * a1) + a2) 38656 = true then evT f 325 12 [oR 549 0, oI a1, oI a2] [vI (s.1 551 (ix (((cI 256) * a1) + a2)))] s else none) (fun _ => rfl) (rg_gd h fun h => ?_)
  exact rg_end 3 (fun _ => rfl) (by cases h; rfl)
theorem T_fM_next {s : ev_M} {q : ev_M × Int32} (h : fM_next s = some q) : RR 332 0 [oR 549 0] [] s (cvI q) := by
  refine rg_step 6 (G' := fun f => evT f 332 10 [oR 549 0] [] (wI s 549 21 ((s.1 549 21) + (cI 1)))) (fun _ => rfl) (rg_ltM h fun s1 h => ?_)
  refine rg_step 7 (G' := fun f => if inb ((s1.1 549 21) - (cI 1)) 37200 = true then evT f 332 21 [oR 549 0] [vI (s1.1 557 (ix ((s1.1 549 21) - (cI 1))))] s1 else none) (fun _ => rfl) (rg_gd h fun h => ?_)
  exact rg_end 3 (fun _ => rfl) (by cases h; rfl)
theorem T_fM_lacks {s : ev_M} {a1 : Int32} {q : Int32} (h : fM_lacks s a1 = some q) : RR 331 0 [oR 549 0, oI a1] [] s (cvP s q) := by
  refine rg_step 7 (G' := fun f => if ((s.1 549 21) + a1) ≤ (s.1 549 20) then evT f 331 17 [oR 549 0, oI a1] [] s else evT f 331 13 [oR 549 0, oI a1] [] s) (fun _ => rfl) (rg_if h (fun h => ?_) fun h => ?_)
  · exact rg_end 2 (fun _ => rfl) (by cases h; rfl)
  · exact rg_end 3 (fun _ => rfl) (by cases h; rfl)
theorem ti_fM_isRecord_h194 : ∀ (n : Nat) (s : ev_M) (x1 : Int32) (j2 : Option ev_V) (q : ev_M × Int32), fM_isRecord_h194 n s x1 = some q → RR 333 194 [oR 549 0, oI x1, j2] [] s (cvI q) := by
  intro n
  induction n with
  | zero => intro s x1 j2 q h; cases h
  | succ n ih =>
    have hk194 : ∀ {s : ev_M} {x1 : Int32} {j2 : Option ev_V} {q : ev_M × Int32}, fM_isRecord_h194 n s x1 = some q → RR 333 194 [oR 549 0, oI x1, j2] [] s (cvI q) := fun h => ih _ _ _ _ h
    intro s x1 j2 q h
    refine rg_step 4 (G' := fun f => if x1 < (s.1 549 13) then evT f 333 202 [oR 549 0, oI x1, nn] [] s else evT f 333 219 [oR 549 0, oI x1, nn] [] s) (fun _ => rfl) (rg_if h (fun h => ?_) fun h => ?_)
    · refine rg_step 5 (G' := fun f => ev_after (evT f 332 0 [oR 549 0] [] s) (fun q => evT f 333 211 [oR 549 0, oI x1, nn] (q.2 ++ [vI x1, vR 554 0]) q.1)) (fun _ => rfl) (rg_bd2 h fun s1 v2 hc h => rg_call (q := cvI (s1, v2)) (T_fM_next hc) ?_)
      refine rg_step 2 (G' := fun f => if inb x1 4096 = true then evT f 333 213 [oR 549 0, oI x1, nn] [] (wI s1 554 (ix x1) (i2b (i2b v2))) else none) (fun _ => rfl) (rg_gd h fun h => rg_ltM h fun s3 h => ?_)
      exact rg_step 2 (G' := fun f => evT f 333 194 [oR 549 0, oI (x1 + cI 1), nn] [] s3) (fun _ => rfl) (hk194 h)
    · exact rg_end 2 (fun _ => rfl) (by cases h; rfl)
theorem t_fM_isRecord_h194 {n : Nat} {s : ev_M} {x1 : Int32} {j2 : Option ev_V} {q : ev_M × Int32} (h : fM_isRecord_h194 n s x1 = some q) : RR 333 194 [oR 549 0, oI x1, j2] [] s (cvI q) := ti_fM_isRecord_h194 n s x1 j2 q h
theorem t_fM_isRecord_b123 {s : ev_M} {j1 : Option ev_V} {j2 : Option ev_V} {q : ev_M × Int32} (h : fM_isRecord_b123 s = some q) : RR 333 123 [oR 549 0, j1, j2] [] s (cvI q) := by
  refine rg_step 3 (G' := fun f => ev_after (evT f 314 0 [oI (s.1 549 16)] [] s) (fun q => evT f 333 130 [oR 549 0, nn, nn] (q.2 ++ []) q.1)) (fun _ => rfl) (rg_bd1 h fun v4 hc h => rg_call (q := cvP s v4) (T_fM_reads hc) ?_)
  refine rg_step 1 (G' := fun f => if v4 = 0 then evT f 333 133 [oR 549 0, nn, nn] [] s else evT f 333 135 [oR 549 0, nn, nn] [] s) (fun _ => rfl) (rg_if h (fun h => ?_) fun h => ?_)
  · exact rg_end 2 (fun _ => rfl) (by cases h; rfl)
  · refine rg_step 3 (G' := fun f => ev_after (evT f 331 0 [oR 549 0, oI (cI 2)] [] s) (fun q => evT f 333 140 [oR 549 0, nn, nn] (q.2 ++ []) q.1)) (fun _ => rfl) (rg_bd1 h fun v5 hc h => rg_call (q := cvP s v5) (T_fM_lacks hc) ?_)
    refine rg_step 1 (G' := fun f => if v5 = 0 then evT f 333 145 [oR 549 0, nn, nn] [] s else evT f 333 143 [oR 549 0, nn, nn] [] s) (fun _ => rfl) (rg_if h (fun h => ?_) fun h => ?_)
    · refine rg_step 3 (G' := fun f => ev_after (evT f 332 0 [oR 549 0] [] s) (fun q => evT f 333 150 [oR 549 0, nn, nn] (q.2 ++ [vR 549 0]) q.1)) (fun _ => rfl) (rg_bd2 h fun s6 v7 hc h => rg_call (q := cvI (s6, v7)) (T_fM_next hc) ?_)
      refine rg_step 3 (G' := fun f => evT f 333 156 [oR 549 0, nn, nn] [] (wI s6 549 13 (v7 <<< ((cI 8) &&& 31)))) (fun _ => rfl) (rg_ltM h fun s8 h => ?_)
      refine rg_step 5 (G' := fun f => ev_after (evT f 332 0 [oR 549 0] [] s8) (fun q => evT f 333 165 [oR 549 0, nn, nn] (q.2 ++ [vI (s8.1 549 13), vR 549 0]) q.1)) (fun _ => rfl) (rg_bd2 h fun s9 v10 hc h => rg_call (q := cvI (s9, v10)) (T_fM_next hc) ?_)
      refine rg_step 2 (G' := fun f => evT f 333 169 [oR 549 0, nn, nn] [] (wI s9 549 13 ((s8.1 549 13) ||| v10))) (fun _ => rfl) (rg_ltM h fun s11 h => ?_)
      refine rg_step 4 (G' := fun f => if (s11.1 549 13) ≤ (cI 4096) then evT f 333 179 [oR 549 0, nn, nn] [] s11 else evT f 333 190 [oR 549 0, nn, nn] [] s11) (fun _ => rfl) (rg_if h (fun h => ?_) fun h => ?_)
      · refine rg_step 4 (G' := fun f => ev_after (evT f 331 0 [oR 549 0, oI (s11.1 549 13)] [] s11) (fun q => evT f 333 187 [oR 549 0, nn, nn] (q.2 ++ []) q.1)) (fun _ => rfl) (rg_bd1 h fun v12 hc h => rg_call (q := cvP s11 v12) (T_fM_lacks hc) ?_)
        refine rg_step 1 (G' := fun f => if v12 = 0 then evT f 333 192 [oR 549 0, nn, nn] [] s11 else evT f 333 190 [oR 549 0, nn, nn] [] s11) (fun _ => rfl) (rg_if h (fun h => ?_) fun h => ?_)
        · exact rg_step 2 (G' := fun f => evT f 333 194 [oR 549 0, oI (cI 0), nn] [] s11) (fun _ => rfl) ((t_fM_isRecord_h194) h)
        · exact rg_end 2 (fun _ => rfl) (by cases h; rfl)
      · exact rg_end 2 (fun _ => rfl) (by cases h; rfl)
    · exact rg_end 2 (fun _ => rfl) (by cases h; rfl)
theorem ti_fM_isRecord_h41 : ∀ (n : Nat) (s : ev_M) (x1 : Int32) (j2 : Option ev_V) (q : ev_M × Int32), fM_isRecord_h41 n s x1 = some q → RR 333 41 [oR 549 0, oI x1, j2] [] s (cvI q) := by
  intro n
  induction n with
  | zero => intro s x1 j2 q h; cases h
  | succ n ih =>
    have hk41 : ∀ {s : ev_M} {x1 : Int32} {j2 : Option ev_V} {q : ev_M × Int32}, fM_isRecord_h41 n s x1 = some q → RR 333 41 [oR 549 0, oI x1, j2] [] s (cvI q) := fun h => ih _ _ _ _ h
    intro s x1 j2 q h
    refine rg_step 4 (G' := fun f => ev_after (evT f 313 0 [oI (s.1 549 16)] [] s) (fun q => evT f 333 49 [oR 549 0, oI x1, nn] (q.2 ++ [vI x1]) q.1)) (fun _ => rfl) (rg_bd1 h fun v13 hc h => rg_call (q := cvP s v13) (T_fM_argumentsOf hc) ?_)
    refine rg_step 1 (G' := fun f => if x1 < v13 then evT f 333 52 [oR 549 0, oI x1, nn] [] s else evT f 333 98 [oR 549 0, oI x1, nn] [] s) (fun _ => rfl) (rg_if h (fun h => ?_) fun h => ?_)
    · refine rg_step 2 (G' := fun f => ev_after (evT f 332 0 [oR 549 0] [] s) (fun q => evT f 333 56 [oR 549 0, oI x1, nn] (q.2 ++ []) q.1)) (fun _ => rfl) (rg_bd2 h fun s14 v15 hc h => rg_call (q := cvI (s14, v15)) (T_fM_next hc) ?_)
      refine rg_step 3 (G' := fun f => evT f 333 60 [oR 549 0, oI x1, oI (v15 <<< ((cI 24) &&& 31))] [] s14) (fun _ => rfl) (rg_ltI (P := fun v16 => RG (fun f => evT f 333 60 [oR 549 0, oI x1, oI v16] [] s14) (cvI q)) h fun v16 h => ?_)
      refine rg_step 3 (G' := fun f => ev_after (evT f 332 0 [oR 549 0] [] s14) (fun q => evT f 333 65 [oR 549 0, oI x1, oI v16] (q.2 ++ [vI v16]) q.1)) (fun _ => rfl) (rg_bd2 h fun s17 v18 hc h => rg_call (q := cvI (s17, v18)) (T_fM_next hc) ?_)
      refine rg_step 4 (G' := fun f => evT f 333 70 [oR 549 0, oI x1, oI (v16 ||| (v18 <<< ((cI 16) &&& 31)))] [] s17) (fun _ => rfl) (rg_ltI (P := fun v19 => RG (fun f => evT f 333 70 [oR 549 0, oI x1, oI v19] [] s17) (cvI q)) h fun v19 h => ?_)
      refine rg_step 3 (G' := fun f => ev_after (evT f 332 0 [oR 549 0] [] s17) (fun q => evT f 333 75 [oR 549 0, oI x1, oI v19] (q.2 ++ [vI v19]) q.1)) (fun _ => rfl) (rg_bd2 h fun s20 v21 hc h => rg_call (q := cvI (s20, v21)) (T_fM_next hc) ?_)
      refine rg_step 4 (G' := fun f => evT f 333 80 [oR 549 0, oI x1, oI (v19 ||| (v21 <<< ((cI 8) &&& 31)))] [] s20) (fun _ => rfl) (rg_ltI (P := fun v22 => RG (fun f => evT f 333 80 [oR 549 0, oI x1, oI v22] [] s20) (cvI q)) h fun v22 h => ?_)
      refine rg_step 6 (G' := fun f => ev_after (evT f 332 0 [oR 549 0] [] s20) (fun q => evT f 333 90 [oR 549 0, oI x1, oI v22] (q.2 ++ [vI v22, vI x1, vR 553 0]) q.1)) (fun _ => rfl) (rg_bd2 h fun s23 v24 hc h => rg_call (q := cvI (s23, v24)) (T_fM_next hc) ?_)
      refine rg_step 2 (G' := fun f => if inb x1 6 = true then evT f 333 92 [oR 549 0, oI x1, oI v22] [] (wI s23 553 (ix x1) (v22 ||| v24)) else none) (fun _ => rfl) (rg_gd h fun h => rg_ltM h fun s25 h => ?_)
      exact rg_step 2 (G' := fun f => evT f 333 41 [oR 549 0, oI (x1 + cI 1), oI v22] [] s25) (fun _ => rfl) (hk41 h)
    · refine rg_step 4 (G' := fun f => if (s.1 549 16) = (cI 39) then evT f 333 107 [oR 549 0, oI x1, nn] [] s else evT f 333 123 [oR 549 0, oI x1, nn] [] s) (fun _ => rfl) (rg_if h (fun h => ?_) fun h => ?_)
      · refine rg_step 7 (G' := fun f => ev_after (evT f 311 0 [oI (s.1 553 (ix (cI 2))), oI (cI 0), oI (cI 1)] [] s) (fun q => evT f 333 118 [oR 549 0, oI x1, nn] (q.2 ++ []) q.1)) (fun _ => rfl) (rg_bd1 h fun v26 hc h => rg_call (q := cvP s v26) (T_fM_in hc) ?_)
        refine rg_step 1 (G' := fun f => if v26 = 0 then evT f 333 121 [oR 549 0, oI x1, nn] [] s else evT f 333 123 [oR 549 0, oI x1, nn] [] s) (fun _ => rfl) (rg_if h (fun h => ?_) fun h => ?_)
        · exact rg_end 2 (fun _ => rfl) (by cases h; rfl)
        · exact (t_fM_isRecord_b123) h
      · exact (t_fM_isRecord_b123) h
theorem t_fM_isRecord_h41 {n : Nat} {s : ev_M} {x1 : Int32} {j2 : Option ev_V} {q : ev_M × Int32} (h : fM_isRecord_h41 n s x1 = some q) : RR 333 41 [oR 549 0, oI x1, j2] [] s (cvI q) := ti_fM_isRecord_h41 n s x1 j2 q h
theorem T_fM_isRecord {s : ev_M} {q : ev_M × Int32} (h : fM_isRecord s = some q) : RR 333 0 [oR 549 0, nn, nn] [] s (cvI q) := by
  refine rg_step 3 (G' := fun f => ev_after (evT f 332 0 [oR 549 0] [] s) (fun q => evT f 333 5 [oR 549 0, nn, nn] (q.2 ++ [vR 549 0]) q.1)) (fun _ => rfl) (rg_bd2 h fun s27 v28 hc h => rg_call (q := cvI (s27, v28)) (T_fM_next hc) ?_)
  refine rg_step 1 (G' := fun f => evT f 333 8 [oR 549 0, nn, nn] [] (wI s27 549 16 v28)) (fun _ => rfl) (rg_ltM h fun s29 h => ?_)
  refine rg_step 5 (G' := fun f => ev_after (evT f 311 0 [oI (s29.1 549 16), oI (cI 1), oI (cI 40)] [] s29) (fun q => evT f 333 18 [oR 549 0, nn, nn] (q.2 ++ []) q.1)) (fun _ => rfl) (rg_bd1 h fun v30 hc h => rg_call (q := cvP s29 v30) (T_fM_in hc) ?_)
  refine rg_step 1 (G' := fun f => if v30 = 0 then evT f 333 37 [oR 549 0, nn, nn] [] s29 else evT f 333 21 [oR 549 0, nn, nn] [] s29) (fun _ => rfl) (rg_if h (fun h => ?_) fun h => ?_)
  · exact rg_end 2 (fun _ => rfl) (by cases h; rfl)
  · refine rg_step 5 (G' := fun f => ev_after (evT f 313 0 [oI (s29.1 549 16)] [] s29) (fun q => evT f 333 30 [oR 549 0, nn, nn] (q.2 ++ [vI (cI 4), vR 549 0]) q.1)) (fun _ => rfl) (rg_bd1 h fun v31 hc h => rg_call (q := cvP s29 v31) (T_fM_argumentsOf hc) ?_)
    refine rg_step 2 (G' := fun f => ev_after (evT f 331 0 [oR 549 0, oI ((cI 4) * v31)] [] s29) (fun q => evT f 333 34 [oR 549 0, nn, nn] (q.2 ++ []) q.1)) (fun _ => rfl) (rg_bd1 h fun v32 hc h => rg_call (q := cvP s29 v32) (T_fM_lacks hc) ?_)
    refine rg_step 1 (G' := fun f => if v32 = 0 then evT f 333 39 [oR 549 0, nn, nn] [] s29 else evT f 333 37 [oR 549 0, nn, nn] [] s29) (fun _ => rfl) (rg_if h (fun h => ?_) fun h => ?_)
    · exact rg_step 2 (G' := fun f => evT f 333 41 [oR 549 0, oI (cI 0), nn] [] s29) (fun _ => rfl) ((t_fM_isRecord_h41) h)
    · exact rg_end 2 (fun _ => rfl) (by cases h; rfl)
theorem t_fM_again_b49 {k7 : ev_M → Int32 → Option (ev_M × Int32)} (hk7 : ∀ {s : ev_M} {x1 : Int32} {j2 : Option ev_V} {q : ev_M × Int32}, k7 s x1 = some q → RR 334 7 [oR 549 0, oI x1, j2] [] s (cvI q)) {s : ev_M} {y0 : Int32} {j1 : Option ev_V} {j2 : Option ev_V} {q : ev_M × Int32} (h : fM_again_b49 k7 s y0 = some q) : RR 334 49 [oR 549 0, j1, j2] [vI y0] s (cvI q) := by
  exact rg_step 2 (G' := fun f => evT f 334 7 [oR 549 0, oI y0, nn] [] s) (fun _ => rfl) (hk7 h)
theorem ti_fM_again_h7 : ∀ (n : Nat) (s : ev_M) (x1 : Int32) (j2 : Option ev_V) (q : ev_M × Int32), fM_again_h7 n s x1 = some q → RR 334 7 [oR 549 0, oI x1, j2] [] s (cvI q) := by
  intro n
  induction n with
  | zero => intro s x1 j2 q h; cases h
  | succ n ih =>
    have hk7 : ∀ {s : ev_M} {x1 : Int32} {j2 : Option ev_V} {q : ev_M × Int32}, fM_again_h7 n s x1 = some q → RR 334 7 [oR 549 0, oI x1, j2] [] s (cvI q) := fun h => ih _ _ _ _ h
    intro s x1 j2 q h
    refine rg_step 5 (G' := fun f => if (s.1 549 21) < (s.1 549 20) then evT f 334 18 [oR 549 0, oI x1, nn] [] s else evT f 334 53 [oR 549 0, oI x1, nn] [] s) (fun _ => rfl) (rg_if h (fun h => ?_) fun h => ?_)
    · refine rg_step 2 (G' := fun f => ev_after (evT f 333 0 [oR 549 0, nn, nn] [] s) (fun q => evT f 334 22 [oR 549 0, oI x1, nn] (q.2 ++ []) q.1)) (fun _ => rfl) (rg_bd2 h fun s1 v2 hc h => rg_call (q := cvI (s1, v2)) (T_fM_isRecord hc) ?_)
      refine rg_step 1 (G' := fun f => if v2 = 0 then evT f 334 53 [oR 549 0, oI x1, nn] [] s1 else evT f 334 25 [oR 549 0, oI x1, nn] [] s1) (fun _ => rfl) (rg_if h (fun h => ?_) fun h => ?_)
      · exact rg_end 2 (fun _ => rfl) (by cases h; rfl)
      · refine rg_step 3 (G' := fun f => evT f 334 30 [oR 549 0, oI x1, nn] [] (wI s1 549 15 (cI 0))) (fun _ => rfl) (rg_ltM h fun s3 h => ?_)
        refine rg_step 2 (G' := fun f => ev_after (evT f 530 0 [oR 549 0, nn, nn, nn, nn] [] s3) (fun q => evT f 334 34 [oR 549 0, oI x1, nn] (q.2 ++ []) q.1)) (fun _ => rfl) (rg_bd2 h fun s4 v5 hc h => rg_call (q := cvI (s4, v5)) (T_fM_act hc) ?_)
        refine rg_step 4 (G' := fun f => if (s4.1 549 15) = 0 then evT f 334 46 [oR 549 0, oI x1, oI v5] [] s4 else evT f 334 42 [oR 549 0, oI x1, oI v5] [] s4) (fun _ => rfl) (rg_if h (fun h => ?_) fun h => ?_)
        · exact rg_step 3 (G' := fun f => evT f 334 49 [oR 549 0, oI x1, oI v5] [vI (x1 + (cI 1))] s4) (fun _ => rfl) ((t_fM_again_b49 hk7) h)
        · exact rg_step 2 (G' := fun f => evT f 334 49 [oR 549 0, oI x1, oI v5] [vI x1] s4) (fun _ => rfl) ((t_fM_again_b49 hk7) h)
    · exact rg_end 2 (fun _ => rfl) (by cases h; rfl)
theorem t_fM_again_h7 {n : Nat} {s : ev_M} {x1 : Int32} {j2 : Option ev_V} {q : ev_M × Int32} (h : fM_again_h7 n s x1 = some q) : RR 334 7 [oR 549 0, oI x1, j2] [] s (cvI q) := ti_fM_again_h7 n s x1 j2 q h
theorem T_fM_again {s : ev_M} {q : ev_M × Int32} (h : fM_again s = some q) : RR 334 0 [oR 549 0, nn, nn] [] s (cvI q) := by
  refine rg_step 5 (G' := fun f => evT f 334 7 [oR 549 0, oI (cI 0), nn] [] (wI s 549 21 (cI 0))) (fun _ => rfl) (rg_ltM h fun s6 h => ?_)
  exact (t_fM_again_h7) h
theorem ti_fM_empty_h162 : ∀ (n : Nat) (s : ev_M) (x1 : Int32) (q : ev_M), fM_empty_h162 n s x1 = some q → RR 339 162 [oR 549 0, oI x1] [] s (cvV q) := by
  intro n
  induction n with
  | zero => intro s x1 q h; cases h
  | succ n ih =>
    have hk162 : ∀ {s : ev_M} {x1 : Int32} {q : ev_M}, fM_empty_h162 n s x1 = some q → RR 339 162 [oR 549 0, oI x1] [] s (cvV q) := fun h => ih _ _ _ h
    intro s x1 q h
    refine rg_step 3 (G' := fun f => if x1 < (cI 8) then evT f 339 168 [oR 549 0, oI x1] [] s else evT f 339 181 [oR 549 0, oI x1] [] s) (fun _ => rfl) (rg_if h (fun h => ?_) fun h => ?_)
    · refine rg_step 5 (G' := fun f => if inb x1 8 = true then evT f 339 175 [oR 549 0, oI x1] [] (wI s 647 (ix x1) (cI 0)) else none) (fun _ => rfl) (rg_gd h fun h => rg_ltM h fun s1 h => ?_)
      exact rg_step 2 (G' := fun f => evT f 339 162 [oR 549 0, oI (x1 + cI 1)] [] s1) (fun _ => rfl) (hk162 h)
    · exact rg_end 1 (fun _ => rfl) (by cases h; rfl)
theorem t_fM_empty_h162 {n : Nat} {s : ev_M} {x1 : Int32} {q : ev_M} (h : fM_empty_h162 n s x1 = some q) : RR 339 162 [oR 549 0, oI x1] [] s (cvV q) := ti_fM_empty_h162 n s x1 q h
theorem ti_fM_empty_h140 : ∀ (n : Nat) (s : ev_M) (x1 : Int32) (q : ev_M), fM_empty_h140 n s x1 = some q → RR 339 140 [oR 549 0, oI x1] [] s (cvV q) := by
  intro n
  induction n with
  | zero => intro s x1 q h; cases h
  | succ n ih =>
    have hk140 : ∀ {s : ev_M} {x1 : Int32} {q : ev_M}, fM_empty_h140 n s x1 = some q → RR 339 140 [oR 549 0, oI x1] [] s (cvV q) := fun h => ih _ _ _ h
    intro s x1 q h
    refine rg_step 3 (G' := fun f => if x1 < (cI 300) then evT f 339 147 [oR 549 0, oI x1] [] s else evT f 339 160 [oR 549 0, oI x1] [] s) (fun _ => rfl) (rg_if h (fun h => ?_) fun h => ?_)
    · refine rg_step 5 (G' := fun f => if inb x1 300 = true then evT f 339 154 [oR 549 0, oI x1] [] (wI s 610 (ix x1) ((cI 0) &&& 1)) else none) (fun _ => rfl) (rg_gd h fun h => rg_ltM h fun s2 h => ?_)
      exact rg_step 2 (G' := fun f => evT f 339 140 [oR 549 0, oI (x1 + cI 1)] [] s2) (fun _ => rfl) (hk140 h)
    · exact rg_step 2 (G' := fun f => evT f 339 162 [oR 549 0, oI (cI 0)] [] s) (fun _ => rfl) ((t_fM_empty_h162) h)
theorem t_fM_empty_h140 {n : Nat} {s : ev_M} {x1 : Int32} {q : ev_M} (h : fM_empty_h140 n s x1 = some q) : RR 339 140 [oR 549 0, oI x1] [] s (cvV q) := ti_fM_empty_h140 n s x1 q h
theorem T_fM_empty {s : ev_M} {q : ev_M} (h : fM_empty s = some q) : RR 339 0 [oR 549 0, nn] [] s (cvV q) := by
  refine rg_step 3 (G' := fun f => evT f 339 5 [oR 549 0, nn] [] (wI s 549 22 (cI 0))) (fun _ => rfl) (rg_ltM h fun s3 h => ?_)
  refine rg_step 3 (G' := fun f => evT f 339 10 [oR 549 0, nn] [] (wI s3 549 23 (cI 0))) (fun _ => rfl) (rg_ltM h fun s4 h => ?_)
  refine rg_step 3 (G' := fun f => evT f 339 15 [oR 549 0, nn] [] (wI s4 549 24 (cI 0))) (fun _ => rfl) (rg_ltM h fun s5 h => ?_)
  refine rg_step 3 (G' := fun f => evT f 339 20 [oR 549 0, nn] [] (wI s5 549 27 (cI 0))) (fun _ => rfl) (rg_ltM h fun s6 h => ?_)
  refine rg_step 3 (G' := fun f => evT f 339 25 [oR 549 0, nn] [] (wI s6 549 33 (cI 0))) (fun _ => rfl) (rg_ltM h fun s7 h => ?_)
  refine rg_step 3 (G' := fun f => evT f 339 30 [oR 549 0, nn] [] (wI s7 549 38 (cI 0))) (fun _ => rfl) (rg_ltM h fun s8 h => ?_)
  refine rg_step 3 (G' := fun f => evT f 339 35 [oR 549 0, nn] [] (wI s8 549 43 (cI 0))) (fun _ => rfl) (rg_ltM h fun s9 h => ?_)
  refine rg_step 3 (G' := fun f => evT f 339 40 [oR 549 0, nn] [] (wI s9 549 48 (cI 0))) (fun _ => rfl) (rg_ltM h fun s10 h => ?_)
  refine rg_step 3 (G' := fun f => evT f 339 45 [oR 549 0, nn] [] (wI s10 549 49 (cI 0))) (fun _ => rfl) (rg_ltM h fun s11 h => ?_)
  refine rg_step 3 (G' := fun f => evT f 339 50 [oR 549 0, nn] [] (wI s11 549 50 (cI (-1)))) (fun _ => rfl) (rg_ltM h fun s12 h => ?_)
  refine rg_step 3 (G' := fun f => evT f 339 55 [oR 549 0, nn] [] (wI s12 549 51 (cI 0))) (fun _ => rfl) (rg_ltM h fun s13 h => ?_)
  refine rg_step 3 (G' := fun f => evT f 339 60 [oR 549 0, nn] [] (wI s13 549 58 (cI 0))) (fun _ => rfl) (rg_ltM h fun s14 h => ?_)
  refine rg_step 3 (G' := fun f => evT f 339 65 [oR 549 0, nn] [] (wI s14 549 83 (cI 4))) (fun _ => rfl) (rg_ltM h fun s15 h => ?_)
  refine rg_step 3 (G' := fun f => evT f 339 71 [oR 549 0, nn] [] (wI s15 549 84 (cI 100))) (fun _ => rfl) (rg_ltM h fun s16 h => ?_)
  refine rg_step 3 (G' := fun f => evT f 339 77 [oR 549 0, nn] [] (wI s16 549 85 (cI 50))) (fun _ => rfl) (rg_ltM h fun s17 h => ?_)
  refine rg_step 3 (G' := fun f => evT f 339 83 [oR 549 0, nn] [] (wI s17 549 86 (cI 80))) (fun _ => rfl) (rg_ltM h fun s18 h => ?_)
  refine rg_step 3 (G' := fun f => evT f 339 88 [oR 549 0, nn] [] (wI s18 549 87 (cI 0))) (fun _ => rfl) (rg_ltM h fun s19 h => ?_)
  refine rg_step 3 (G' := fun f => evT f 339 93 [oR 549 0, nn] [] (wI s19 549 91 (cI 0))) (fun _ => rfl) (rg_ltM h fun s20 h => ?_)
  refine rg_step 3 (G' := fun f => evT f 339 98 [oR 549 0, nn] [] (wI s20 549 93 (cI 0))) (fun _ => rfl) (rg_ltM h fun s21 h => ?_)
  refine rg_step 3 (G' := fun f => evT f 339 103 [oR 549 0, nn] [] (wI s21 549 101 (cI 0))) (fun _ => rfl) (rg_ltM h fun s22 h => ?_)
  refine rg_step 3 (G' := fun f => evT f 339 108 [oR 549 0, nn] [] (wI s22 549 107 (cI 0))) (fun _ => rfl) (rg_ltM h fun s23 h => ?_)
  refine rg_step 3 (G' := fun f => evT f 339 113 [oR 549 0, nn] [] (wI s23 549 111 (cI 0))) (fun _ => rfl) (rg_ltM h fun s24 h => ?_)
  refine rg_step 3 (G' := fun f => evT f 339 118 [oR 549 0, nn] [] (wI s24 549 114 (cI 0))) (fun _ => rfl) (rg_ltM h fun s25 h => ?_)
  refine rg_step 3 (G' := fun f => evT f 339 123 [oR 549 0, nn] [] (wI s25 549 119 (cI 0))) (fun _ => rfl) (rg_ltM h fun s26 h => ?_)
  refine rg_step 3 (G' := fun f => evT f 339 128 [oR 549 0, nn] [] (wI s26 549 125 (cI 0))) (fun _ => rfl) (rg_ltM h fun s27 h => ?_)
  refine rg_step 3 (G' := fun f => evT f 339 133 [oR 549 0, nn] [] (wI s27 549 129 (cI 0))) (fun _ => rfl) (rg_ltM h fun s28 h => ?_)
  refine rg_step 3 (G' := fun f => evT f 339 138 [oR 549 0, nn] [] (wI s28 549 134 (cI 0))) (fun _ => rfl) (rg_ltM h fun s29 h => ?_)
  exact rg_step 2 (G' := fun f => evT f 339 140 [oR 549 0, oI (cI 0)] [] s29) (fun _ => rfl) ((t_fM_empty_h140) h)
theorem ti_fM_sum_551_h4 {s : ev_M} : ∀ (n : Nat) (x1 : Int32) (x2 : Int32) (x3 : Int32) (j4 : Option ev_V) (q : Int32), fM_sum_551_h4 s n x1 x2 x3 = some q → RR 326 4 [oR 551 0, oI x1, oI x2, oI x3, j4] [] s (cvP s q) := by
  intro n
  induction n with
  | zero => intro x1 x2 x3 j4 q h; cases h
  | succ n ih =>
    have hk4 : ∀ {x1 : Int32} {x2 : Int32} {x3 : Int32} {j4 : Option ev_V} {q : Int32}, fM_sum_551_h4 s n x1 x2 x3 = some q → RR 326 4 [oR 551 0, oI x1, oI x2, oI x3, j4] [] s (cvP s q) := fun h => ih _ _ _ _ _ h
    intro x1 x2 x3 j4 q h
    refine rg_step 5 (G' := fun f => if x3 < (x1 + (cI 252)) then evT f 326 13 [oR 551 0, oI x1, oI x2, oI x3, nn] [] s else evT f 326 45 [oR 551 0, oI x1, oI x2, oI x3, nn] [] s) (fun _ => rfl) (rg_if h (fun h => ?_) fun h => ?_)
    · refine rg_step 4 (G' := fun f => if inb x3 38656 = true then evT f 326 17 [oR 551 0, oI x1, oI x2, oI x3, nn] [vI (s.1 551 (ix x3)), vI x2] s else none) (fun _ => rfl) (rg_gd h fun h => ?_)
      refine rg_step 4 (G' := fun f => evT f 326 24 [oR 551 0, oI x1, oI x2, oI x3, oI (x2 ^^^ ((s.1 551 (ix x3)) &&& (cI 255)))] [] s) (fun _ => rfl) (rg_ltI (P := fun v1 => RG (fun f => evT f 326 24 [oR 551 0, oI x1, oI x2, oI x3, oI v1] [] s) (cvP s q)) h fun v1 h => ?_)
      refine rg_step 7 (G' := fun f => evT f 326 34 [oR 551 0, oI x1, oI x2, oI x3, oI v1] [vI ((v1 <<< ((cI 3) &&& 31)) ||| (iushr v1 (cI 29)))] s) (fun _ => rfl) ?_
      refine rg_step 1 (G' := fun f => evT f 326 37 [oR 551 0, oI x1, oI x2, oI x3, oI v1] [vI (cI (-2048144777)), vI ((v1 <<< ((cI 3) &&& 31)) ||| (iushr v1 (cI 29)))] s) (fun f => ev_ldcw (f := f) (M := 326) (pc := 34) (idx := 487) (r := (-2048144777)) rfl (by decide)) ?_
      refine rg_step 1 (G' := fun f => evT f 326 38 [oR 551 0, oI x1, oI x2, oI x3, oI v1] [vI (((v1 <<< ((cI 3) &&& 31)) ||| (iushr v1 (cI 29))) * (cI (-2048144777)))] s) (fun f => ev_mul1 (f := f) (M := 326) (pc := 37) rfl) ?_
      refine rg_step 1 (G' := fun f => evT f 326 39 [oR 551 0, oI x1, oI (((v1 <<< ((cI 3) &&& 31)) ||| (iushr v1 (cI 29))) * (cI (-2048144777))), oI x3, oI v1] [] s) (fun _ => rfl) (rg_ltI (P := fun v2 => RG (fun f => evT f 326 39 [oR 551 0, oI x1, oI v2, oI x3, oI v1] [] s) (cvP s q)) h fun v2 h => ?_)
      exact rg_step 2 (G' := fun f => evT f 326 4 [oR 551 0, oI x1, oI v2, oI (x3 + cI 1), oI v1] [] s) (fun _ => rfl) (hk4 h)
    · exact rg_end 2 (fun _ => rfl) (by cases h; rfl)
theorem t_fM_sum_551_h4 {s : ev_M} {n : Nat} {x1 : Int32} {x2 : Int32} {x3 : Int32} {j4 : Option ev_V} {q : Int32} (h : fM_sum_551_h4 s n x1 x2 x3 = some q) : RR 326 4 [oR 551 0, oI x1, oI x2, oI x3, j4] [] s (cvP s q) := ti_fM_sum_551_h4 n x1 x2 x3 j4 q h
theorem T_fM_sum_551 {s : ev_M} {a1 : Int32} {q : Int32} (h : fM_sum_551 s a1 = some q) : RR 326 0 [oR 551 0, oI a1, nn, nn, nn] [] s (cvP s q) := by
  exact rg_step 4 (G' := fun f => evT f 326 4 [oR 551 0, oI a1, oI (cI 0), oI a1, nn] [] s) (fun _ => rfl) ((t_fM_sum_551_h4) h)
theorem t_fM_isRight_b115 {s : ev_M} {x1 : Int32} {x2 : Int32} {y0 : Int32} {j3 : Option ev_V} {j4 : Option ev_V} {q : Int32} (h : fM_isRight_b115 s x1 x2 y0 = some q) : RR 327 115 [oR 549 0, oI x1, oI x2, j3, j4] [vI y0] s (cvP s q) := by
  refine rg_step 3 (G' := fun f => if y0 = 0 then evT f 327 151 [oR 549 0, oI x1, oI x2, nn, oI y0] [] s else evT f 327 122 [oR 549 0, oI x1, oI x2, nn, oI y0] [] s) (fun _ => rfl) (rg_if h (fun h => ?_) fun h => ?_)
  · exact rg_end 2 (fun _ => rfl) (by cases h; rfl)
  · refine rg_step 4 (G' := fun f => if inb x1 151 = true then evT f 327 128 [oR 549 0, oI x1, oI x2, nn, oI y0] [vI (s.1 555 (ix x1))] s else none) (fun _ => rfl) (rg_gd h fun h => ?_)
    refine rg_step 1 (G' := fun f => if (s.1 555 (ix x1)) = 0 then evT f 327 131 [oR 549 0, oI x1, oI x2, nn, oI y0] [] s else evT f 327 151 [oR 549 0, oI x1, oI x2, nn, oI y0] [] s) (fun _ => rfl) (rg_if h (fun h => ?_) fun h => ?_)
    · refine rg_step 7 (G' := fun f => ev_after (evT f 326 0 [oR 551 0, oI ((cI 256) * x1), nn, nn, nn] [] s) (fun q => evT f 327 144 [oR 549 0, oI x1, oI x2, nn, oI y0] (q.2 ++ [vI x2]) q.1)) (fun _ => rfl) (rg_bd1 h fun v1 hc h => rg_call (q := cvP s v1) (T_fM_sum_551 hc) ?_)
      refine rg_step 1 (G' := fun f => if x2 = v1 then evT f 327 147 [oR 549 0, oI x1, oI x2, nn, oI y0] [] s else evT f 327 151 [oR 549 0, oI x1, oI x2, nn, oI y0] [] s) (fun _ => rfl) (rg_if h (fun h => ?_) fun h => ?_)
      · exact rg_end 3 (fun _ => rfl) (by cases h; rfl)
      · exact rg_end 2 (fun _ => rfl) (by cases h; rfl)
    · exact rg_end 2 (fun _ => rfl) (by cases h; rfl)
theorem t_fM_isRight_b110 {s : ev_M} {x1 : Int32} {x2 : Int32} {j3 : Option ev_V} {j4 : Option ev_V} {q : Int32} (h : fM_isRight_b110 s x1 x2 = some q) : RR 327 110 [oR 549 0, oI x1, oI x2, j3, j4] [] s (cvP s q) := by
  exact rg_step 2 (G' := fun f => evT f 327 115 [oR 549 0, oI x1, oI x2, nn, nn] [vI (cI 1)] s) (fun _ => rfl) ((t_fM_isRight_b115) h)
theorem t_fM_isRight_b114 {s : ev_M} {x1 : Int32} {x2 : Int32} {j3 : Option ev_V} {j4 : Option ev_V} {q : Int32} (h : fM_isRight_b114 s x1 x2 = some q) : RR 327 114 [oR 549 0, oI x1, oI x2, j3, j4] [] s (cvP s q) := by
  exact rg_step 1 (G' := fun f => evT f 327 115 [oR 549 0, oI x1, oI x2, nn, nn] [vI (cI 0)] s) (fun _ => rfl) ((t_fM_isRight_b115) h)
theorem T_fM_isRight {s : ev_M} {a1 : Int32} {q : Int32} (h : fM_isRight s a1 = some q) : RR 327 0 [oR 549 0, oI a1, nn, nn, nn] [] s (cvP s q) := by
  refine rg_step 4 (G' := fun f => ev_after (evT f 325 0 [oR 549 0, oI a1, oI (cI 252)] [] s) (fun q => evT f 327 8 [oR 549 0, oI a1, nn, nn, nn] (q.2 ++ []) q.1)) (fun _ => rfl) (rg_bd1 h fun v2 hc h => rg_call (q := cvP s v2) (T_fM_at hc) ?_)
  refine rg_step 6 (G' := fun f => ev_after (evT f 325 0 [oR 549 0, oI a1, oI (cI 253)] [] s) (fun q => evT f 327 19 [oR 549 0, oI a1, nn, nn, nn] (q.2 ++ [vI (v2 <<< ((cI 24) &&& 31))]) q.1)) (fun _ => rfl) (rg_bd1 h fun v3 hc h => rg_call (q := cvP s v3) (T_fM_at hc) ?_)
  refine rg_step 7 (G' := fun f => ev_after (evT f 325 0 [oR 549 0, oI a1, oI (cI 254)] [] s) (fun q => evT f 327 31 [oR 549 0, oI a1, nn, nn, nn] (q.2 ++ [vI ((v2 <<< ((cI 24) &&& 31)) ||| (v3 <<< ((cI 16) &&& 31)))]) q.1)) (fun _ => rfl) (rg_bd1 h fun v4 hc h => rg_call (q := cvP s v4) (T_fM_at hc) ?_)
  refine rg_step 7 (G' := fun f => ev_after (evT f 325 0 [oR 549 0, oI a1, oI (cI 255)] [] s) (fun q => evT f 327 43 [oR 549 0, oI a1, nn, nn, nn] (q.2 ++ [vI (((v2 <<< ((cI 24) &&& 31)) ||| (v3 <<< ((cI 16) &&& 31))) ||| (v4 <<< ((cI 8) &&& 31)))]) q.1)) (fun _ => rfl) (rg_bd1 h fun v5 hc h => rg_call (q := cvP s v5) (T_fM_at hc) ?_)
  refine rg_step 2 (G' := fun f => evT f 327 45 [oR 549 0, oI a1, oI ((((v2 <<< ((cI 24) &&& 31)) ||| (v3 <<< ((cI 16) &&& 31))) ||| (v4 <<< ((cI 8) &&& 31))) ||| v5), nn, nn] [] s) (fun _ => rfl) (rg_ltI (P := fun v6 => RG (fun f => evT f 327 45 [oR 549 0, oI a1, oI v6, nn, nn] [] s) (cvP s q)) h fun v6 h => ?_)
  refine rg_step 4 (G' := fun f => ev_after (evT f 325 0 [oR 549 0, oI a1, oI (cI 3)] [] s) (fun q => evT f 327 51 [oR 549 0, oI a1, oI v6, nn, nn] (q.2 ++ []) q.1)) (fun _ => rfl) (rg_bd1 h fun v7 hc h => rg_call (q := cvP s v7) (T_fM_at hc) ?_)
  refine rg_step 5 (G' := fun f => ev_after (evT f 325 0 [oR 549 0, oI a1, oI (cI 0)] [] s) (fun q => evT f 327 58 [oR 549 0, oI a1, oI v6, oI v7, nn] (q.2 ++ []) q.1)) (fun _ => rfl) (rg_bd1 h fun v8 hc h => rg_call (q := cvP s v8) (T_fM_at hc) ?_)
  refine rg_step 6 (G' := fun f => ev_after (evT f 325 0 [oR 549 0, oI a1, oI (cI 1)] [] s) (fun q => evT f 327 67 [oR 549 0, oI a1, oI v6, oI v7, nn] (q.2 ++ [vI (v8 <<< ((cI 8) &&& 31))]) q.1)) (fun _ => rfl) (rg_bd1 h fun v9 hc h => rg_call (q := cvP s v9) (T_fM_at hc) ?_)
  refine rg_step 3 (G' := fun f => if ((v8 <<< ((cI 8) &&& 31)) ||| v9) = a1 then evT f 327 72 [oR 549 0, oI a1, oI v6, oI v7, nn] [] s else evT f 327 114 [oR 549 0, oI a1, oI v6, oI v7, nn] [] s) (fun _ => rfl) (rg_if h (fun h => ?_) fun h => ?_)
  · refine rg_step 4 (G' := fun f => ev_after (evT f 311 0 [oI v7, oI (cI 1), oI (cI 248)] [] s) (fun q => evT f 327 80 [oR 549 0, oI a1, oI v6, oI v7, nn] (q.2 ++ []) q.1)) (fun _ => rfl) (rg_bd1 h fun v10 hc h => rg_call (q := cvP s v10) (T_fM_in hc) ?_)
    refine rg_step 1 (G' := fun f => if v10 = 0 then evT f 327 114 [oR 549 0, oI a1, oI v6, oI v7, nn] [] s else evT f 327 83 [oR 549 0, oI a1, oI v6, oI v7, nn] [] s) (fun _ => rfl) (rg_if h (fun h => ?_) fun h => ?_)
    · exact (t_fM_isRight_b114) h
    · refine rg_step 4 (G' := fun f => ev_after (evT f 325 0 [oR 549 0, oI a1, oI (cI 2)] [] s) (fun q => evT f 327 89 [oR 549 0, oI a1, oI v6, oI v7, nn] (q.2 ++ []) q.1)) (fun _ => rfl) (rg_bd1 h fun v11 hc h => rg_call (q := cvP s v11) (T_fM_at hc) ?_)
      refine rg_step 2 (G' := fun f => if v11 < (cI 2) then evT f 327 93 [oR 549 0, oI a1, oI v6, oI v7, nn] [] s else evT f 327 114 [oR 549 0, oI a1, oI v6, oI v7, nn] [] s) (fun _ => rfl) (rg_if h (fun h => ?_) fun h => ?_)
      · refine rg_step 4 (G' := fun f => ev_after (evT f 325 0 [oR 549 0, oI a1, oI (cI 2)] [] s) (fun q => evT f 327 99 [oR 549 0, oI a1, oI v6, oI v7, nn] (q.2 ++ []) q.1)) (fun _ => rfl) (rg_bd1 h fun v12 hc h => rg_call (q := cvP s v12) (T_fM_at hc) ?_)
        refine rg_step 2 (G' := fun f => if v12 = (cI 1) then evT f 327 110 [oR 549 0, oI a1, oI v6, oI v7, nn] [] s else evT f 327 103 [oR 549 0, oI a1, oI v6, oI v7, nn] [] s) (fun _ => rfl) (rg_if h (fun h => ?_) fun h => ?_)
        · exact (t_fM_isRight_b110) h
        · refine rg_step 3 (G' := fun f => if v7 = (cI 248) then evT f 327 110 [oR 549 0, oI a1, oI v6, oI v7, nn] [] s else evT f 327 114 [oR 549 0, oI a1, oI v6, oI v7, nn] [] s) (fun _ => rfl) (rg_if h (fun h => ?_) fun h => ?_)
          · exact (t_fM_isRight_b110) h
          · exact (t_fM_isRight_b114) h
      · exact (t_fM_isRight_b114) h
  · exact (t_fM_isRight_b114) h
theorem t_fM_start_b56 {k22 : ev_M → Int32 → Option (ev_M × Int32)} (hk22 : ∀ {s : ev_M} {x1 : Int32} {j2 : Option ev_V} {j3 : Option ev_V} {q : ev_M × Int32}, k22 s x1 = some q → RR 335 22 [oR 549 0, oI x1, j2, j3] [] s (cvI q)) {s : ev_M} {x1 : Int32} {y1 : Int32} {j2 : Option ev_V} {j3 : Option ev_V} {q : ev_M × Int32} (h : fM_start_b56 k22 s x1 y1 = some q) : RR 335 56 [oR 549 0, oI x1, j2, j3] [vI y1, vR 549 0] s (cvI q) := by
  refine rg_step 1 (G' := fun f => evT f 335 59 [oR 549 0, oI x1, nn, nn] [] (wI s 549 4 y1)) (fun _ => rfl) (rg_ltM h fun s1 h => ?_)
  exact rg_step 2 (G' := fun f => evT f 335 22 [oR 549 0, oI (x1 + cI 1), nn, nn] [] s1) (fun _ => rfl) (hk22 h)
theorem t_fM_start_b184 {k103 : ev_M → Int32 → Int32 → Option (ev_M × Int32)} (hk103 : ∀ {s : ev_M} {x1 : Int32} {x2 : Int32} {j3 : Option ev_V} {q : ev_M × Int32}, k103 s x1 x2 = some q → RR 335 103 [oR 549 0, oI x1, oI x2, j3] [] s (cvI q)) {s : ev_M} {x1 : Int32} {x2 : Int32} {j3 : Option ev_V} {q : ev_M × Int32} (h : fM_start_b184 k103 s x1 x2 = some q) : RR 335 184 [oR 549 0, oI x1, oI x2, j3] [] s (cvI q) := by
  exact rg_step 2 (G' := fun f => evT f 335 103 [oR 549 0, oI x1, oI (x2 + cI 1), nn] [] s) (fun _ => rfl) (hk103 h)
theorem ti_fM_start_h113 {k103 : ev_M → Int32 → Int32 → Option (ev_M × Int32)} (hk103 : ∀ {s : ev_M} {x1 : Int32} {x2 : Int32} {j3 : Option ev_V} {q : ev_M × Int32}, k103 s x1 x2 = some q → RR 335 103 [oR 549 0, oI x1, oI x2, j3] [] s (cvI q)) : ∀ (n : Nat) (s : ev_M) (x1 : Int32) (x2 : Int32) (x3 : Int32) (q : ev_M × Int32), fM_start_h113 k103 n s x1 x2 x3 = some q → RR 335 113 [oR 549 0, oI x1, oI x2, oI x3] [] s (cvI q) := by
  intro n
  induction n with
  | zero => intro s x1 x2 x3 q h; cases h
  | succ n ih =>
    have hk113 : ∀ {s : ev_M} {x1 : Int32} {x2 : Int32} {x3 : Int32} {q : ev_M × Int32}, fM_start_h113 k103 n s x1 x2 x3 = some q → RR 335 113 [oR 549 0, oI x1, oI x2, oI x3] [] s (cvI q) := fun h => ih _ _ _ _ _ h
    intro s x1 x2 x3 q h
    refine rg_step 5 (G' := fun f => ev_after (evT f 325 0 [oR 549 0, oI x2, oI (cI 3)] [] s) (fun q => evT f 335 120 [oR 549 0, oI x1, oI x2, oI x3] (q.2 ++ [vI x3]) q.1)) (fun _ => rfl) (rg_bd1 h fun v2 hc h => rg_call (q := cvP s v2) (T_fM_at hc) ?_)
    refine rg_step 1 (G' := fun f => if x3 < v2 then evT f 335 123 [oR 549 0, oI x1, oI x2, oI x3] [] s else evT f 335 162 [oR 549 0, oI x1, oI x2, oI x3] [] s) (fun _ => rfl) (rg_if h (fun h => ?_) fun h => ?_)
    · refine rg_step 14 (G' := fun f => if inb ((((cI 256) * x2) + (cI 4)) + x3) 38656 = true then evT f 335 145 [oR 549 0, oI x1, oI x2, oI x3] [vI (s.1 551 (ix ((((cI 256) * x2) + (cI 4)) + x3))), vI (s.1 549 20), vR 557 0] s else none) (fun _ => rfl) (rg_gd h fun h => ?_)
      refine rg_step 1 (G' := fun f => if inb (s.1 549 20) 37200 = true then evT f 335 146 [oR 549 0, oI x1, oI x2, oI x3] [] (wI s 557 (ix (s.1 549 20)) (i2b (s.1 551 (ix ((((cI 256) * x2) + (cI 4)) + x3))))) else none) (fun _ => rfl) (rg_gd h fun h => rg_ltM h fun s3 h => ?_)
      refine rg_step 6 (G' := fun f => evT f 335 156 [oR 549 0, oI x1, oI x2, oI x3] [] (wI s3 549 20 ((s3.1 549 20) + (cI 1)))) (fun _ => rfl) (rg_ltM h fun s4 h => ?_)
      exact rg_step 2 (G' := fun f => evT f 335 113 [oR 549 0, oI x1, oI x2, oI (x3 + cI 1)] [] s4) (fun _ => rfl) (hk113 h)
    · refine rg_step 4 (G' := fun f => ev_after (evT f 325 0 [oR 549 0, oI x2, oI (cI 2)] [] s) (fun q => evT f 335 168 [oR 549 0, oI x1, oI x2, oI x3] (q.2 ++ []) q.1)) (fun _ => rfl) (rg_bd1 h fun v5 hc h => rg_call (q := cvP s v5) (T_fM_at hc) ?_)
      refine rg_step 2 (G' := fun f => if v5 = (cI 1) then evT f 335 172 [oR 549 0, oI x1, oI x2, oI x3] [] s else evT f 335 184 [oR 549 0, oI x1, oI x2, oI x3] [] s) (fun _ => rfl) (rg_if h (fun h => ?_) fun h => ?_)
      · refine rg_step 3 (G' := fun f => ev_after (evT f 334 0 [oR 549 0, nn, nn] [] s) (fun q => evT f 335 177 [oR 549 0, oI x1, oI x2, oI x3] (q.2 ++ [vI x1]) q.1)) (fun _ => rfl) (rg_bd2 h fun s6 v7 hc h => rg_call (q := cvI (s6, v7)) (T_fM_again hc) ?_)
        refine rg_step 2 (G' := fun f => evT f 335 179 [oR 549 0, oI (x1 + v7), oI x2, oI x3] [] s6) (fun _ => rfl) (rg_ltI (P := fun v8 => RG (fun f => evT f 335 179 [oR 549 0, oI v8, oI x2, oI x3] [] s6) (cvI q)) h fun v8 h => ?_)
        refine rg_step 3 (G' := fun f => evT f 335 184 [oR 549 0, oI v8, oI x2, oI x3] [] (wI s6 549 20 (cI 0))) (fun _ => rfl) (rg_ltM h fun s9 h => ?_)
        exact (t_fM_start_b184 hk103) h
      · exact (t_fM_start_b184 hk103) h
theorem t_fM_start_h113 {k103 : ev_M → Int32 → Int32 → Option (ev_M × Int32)} (hk103 : ∀ {s : ev_M} {x1 : Int32} {x2 : Int32} {j3 : Option ev_V} {q : ev_M × Int32}, k103 s x1 x2 = some q → RR 335 103 [oR 549 0, oI x1, oI x2, j3] [] s (cvI q)) {n : Nat} {s : ev_M} {x1 : Int32} {x2 : Int32} {x3 : Int32} {q : ev_M × Int32} (h : fM_start_h113 k103 n s x1 x2 x3 = some q) : RR 335 113 [oR 549 0, oI x1, oI x2, oI x3] [] s (cvI q) := ti_fM_start_h113 hk103 n s x1 x2 x3 q h
theorem ti_fM_start_h103 : ∀ (n : Nat) (s : ev_M) (x1 : Int32) (x2 : Int32) (j3 : Option ev_V) (q : ev_M × Int32), fM_start_h103 n s x1 x2 = some q → RR 335 103 [oR 549 0, oI x1, oI x2, j3] [] s (cvI q) := by
  intro n
  induction n with
  | zero => intro s x1 x2 j3 q h; cases h
  | succ n ih =>
    have hk103 : ∀ {s : ev_M} {x1 : Int32} {x2 : Int32} {j3 : Option ev_V} {q : ev_M × Int32}, fM_start_h103 n s x1 x2 = some q → RR 335 103 [oR 549 0, oI x1, oI x2, j3] [] s (cvI q) := fun h => ih _ _ _ _ _ h
    intro s x1 x2 j3 q h
    refine rg_step 4 (G' := fun f => if x2 ≤ (s.1 549 4) then evT f 335 111 [oR 549 0, oI x1, oI x2, nn] [] s else evT f 335 190 [oR 549 0, oI x1, oI x2, nn] [] s) (fun _ => rfl) (rg_if h (fun h => ?_) fun h => ?_)
    · exact rg_step 2 (G' := fun f => evT f 335 113 [oR 549 0, oI x1, oI x2, oI (cI 0)] [] s) (fun _ => rfl) ((t_fM_start_h113 hk103) h)
    · exact rg_end 2 (fun _ => rfl) (by cases h; rfl)
theorem t_fM_start_h103 {n : Nat} {s : ev_M} {x1 : Int32} {x2 : Int32} {j3 : Option ev_V} {q : ev_M × Int32} (h : fM_start_h103 n s x1 x2 = some q) : RR 335 103 [oR 549 0, oI x1, oI x2, j3] [] s (cvI q) := ti_fM_start_h103 n s x1 x2 j3 q h
theorem t_fM_start_b65 {s : ev_M} {j1 : Option ev_V} {j2 : Option ev_V} {j3 : Option ev_V} {q : ev_M × Int32} (h : fM_start_b65 s = some q) : RR 335 65 [oR 549 0, j1, j2, j3] [] s (cvI q) := by
  refine rg_step 3 (G' := fun f => evT f 335 70 [oR 549 0, nn, nn, nn] [] (wI s 549 5 (cI 0))) (fun _ => rfl) (rg_ltM h fun s10 h => ?_)
  refine rg_step 3 (G' := fun f => evT f 335 75 [oR 549 0, nn, nn, nn] [] (wI s10 549 6 (cI (-1)))) (fun _ => rfl) (rg_ltM h fun s11 h => ?_)
  refine rg_step 3 (G' := fun f => evT f 335 80 [oR 549 0, nn, nn, nn] [] (wI s11 549 9 (cI 0))) (fun _ => rfl) (rg_ltM h fun s12 h => ?_)
  refine rg_step 3 (G' := fun f => evT f 335 85 [oR 549 0, nn, nn, nn] [] (wI s12 549 10 (cI 0))) (fun _ => rfl) (rg_ltM h fun s13 h => ?_)
  refine rg_step 2 (G' := fun f => ev_after (evT f 339 0 [oR 549 0, nn] [] s13) (fun q => evT f 335 89 [oR 549 0, nn, nn, nn] (q.2 ++ []) q.1)) (fun _ => rfl) (rg_bd1 h fun s14 hc h => rg_call (q := cvV s14) (T_fM_empty hc) ?_)
  refine rg_step 3 (G' := fun f => evT f 335 94 [oR 549 0, nn, nn, nn] [] (wI s14 549 14 (cI 1))) (fun _ => rfl) (rg_ltM h fun s15 h => ?_)
  refine rg_step 5 (G' := fun f => evT f 335 101 [oR 549 0, oI (cI 0), nn, nn] [] (wI s15 549 20 (cI 0))) (fun _ => rfl) (rg_ltM h fun s16 h => ?_)
  exact rg_step 2 (G' := fun f => evT f 335 103 [oR 549 0, oI (cI 0), oI (cI 1), nn] [] s16) (fun _ => rfl) ((t_fM_start_h103) h)
theorem ti_fM_start_h22 : ∀ (n : Nat) (s : ev_M) (x1 : Int32) (j2 : Option ev_V) (j3 : Option ev_V) (q : ev_M × Int32), fM_start_h22 n s x1 = some q → RR 335 22 [oR 549 0, oI x1, j2, j3] [] s (cvI q) := by
  intro n
  induction n with
  | zero => intro s x1 j2 j3 q h; cases h
  | succ n ih =>
    have hk22 : ∀ {s : ev_M} {x1 : Int32} {j2 : Option ev_V} {j3 : Option ev_V} {q : ev_M × Int32}, fM_start_h22 n s x1 = some q → RR 335 22 [oR 549 0, oI x1, j2, j3] [] s (cvI q) := fun h => ih _ _ _ _ _ h
    intro s x1 j2 j3 q h
    refine rg_step 3 (G' := fun f => if x1 ≤ (cI 150) then evT f 335 29 [oR 549 0, oI x1, nn, nn] [] s else evT f 335 65 [oR 549 0, oI x1, nn, nn] [] s) (fun _ => rfl) (rg_if h (fun h => ?_) fun h => ?_)
    · refine rg_step 3 (G' := fun f => ev_after (evT f 327 0 [oR 549 0, oI x1, nn, nn, nn] [] s) (fun q => evT f 335 34 [oR 549 0, oI x1, nn, nn] (q.2 ++ []) q.1)) (fun _ => rfl) (rg_bd1 h fun v17 hc h => rg_call (q := cvP s v17) (T_fM_isRight hc) ?_)
      refine rg_step 1 (G' := fun f => if v17 = 0 then evT f 335 65 [oR 549 0, oI x1, nn, nn] [] s else evT f 335 37 [oR 549 0, oI x1, nn, nn] [] s) (fun _ => rfl) (rg_if h (fun h => ?_) fun h => ?_)
      · exact (t_fM_start_b65) h
      · refine rg_step 5 (G' := fun f => ev_after (evT f 325 0 [oR 549 0, oI x1, oI (cI 2)] [] s) (fun q => evT f 335 44 [oR 549 0, oI x1, nn, nn] (q.2 ++ [vR 549 0]) q.1)) (fun _ => rfl) (rg_bd1 h fun v18 hc h => rg_call (q := cvP s v18) (T_fM_at hc) ?_)
        refine rg_step 2 (G' := fun f => if v18 = (cI 1) then evT f 335 48 [oR 549 0, oI x1, nn, nn] [vR 549 0] s else evT f 335 52 [oR 549 0, oI x1, nn, nn] [vR 549 0] s) (fun _ => rfl) (rg_if h (fun h => ?_) fun h => ?_)
        · exact rg_step 2 (G' := fun f => evT f 335 56 [oR 549 0, oI x1, nn, nn] [vI x1, vR 549 0] s) (fun _ => rfl) ((t_fM_start_b56 hk22) h)
        · exact rg_step 2 (G' := fun f => evT f 335 56 [oR 549 0, oI x1, nn, nn] [vI (s.1 549 4), vR 549 0] s) (fun _ => rfl) ((t_fM_start_b56 hk22) h)
    · exact (t_fM_start_b65) h
theorem t_fM_start_h22 {n : Nat} {s : ev_M} {x1 : Int32} {j2 : Option ev_V} {j3 : Option ev_V} {q : ev_M × Int32} (h : fM_start_h22 n s x1 = some q) : RR 335 22 [oR 549 0, oI x1, j2, j3] [] s (cvI q) := ti_fM_start_h22 n s x1 j2 j3 q h
theorem T_fM_start {s : ev_M} {q : ev_M × Int32} (h : fM_start s = some q) : RR 335 0 [oR 549 0, nn, nn, nn] [] s (cvI q) := by
  refine rg_step 3 (G' := fun f => evT f 335 5 [oR 549 0, nn, nn, nn] [] (wI s 549 0 (cI 0))) (fun _ => rfl) (rg_ltM h fun s19 h => ?_)
  refine rg_step 3 (G' := fun f => if (s19.1 549 5) = 0 then evT f 335 12 [oR 549 0, nn, nn, nn] [] s19 else evT f 335 15 [oR 549 0, nn, nn, nn] [] s19) (fun _ => rfl) (rg_if h (fun h => ?_) fun h => ?_)
  · exact rg_end 2 (fun _ => rfl) (by cases h; rfl)
  · refine rg_step 3 (G' := fun f => evT f 335 20 [oR 549 0, nn, nn, nn] [] (wI s19 549 4 (cI 0))) (fun _ => rfl) (rg_ltM h fun s20 h => ?_)
    exact rg_step 2 (G' := fun f => evT f 335 22 [oR 549 0, oI (cI 1), nn, nn] [] s20) (fun _ => rfl) ((t_fM_start_h22) h)
theorem ti_fLog_firstBad_h2 {s : ev_M} : ∀ (n : Nat) (x1 : Int32) (q : Int32), fLog_firstBad_h2 s n x1 = some q → RR 136 2 [oR 9 0, oI x1] [] s (cvP s q) := by
  intro n
  induction n with
  | zero => intro x1 q h; cases h
  | succ n ih =>
    have hk2 : ∀ {x1 : Int32} {q : Int32}, fLog_firstBad_h2 s n x1 = some q → RR 136 2 [oR 9 0, oI x1] [] s (cvP s q) := fun h => ih _ _ h
    intro x1 q h
    refine rg_step 4 (G' := fun f => if x1 ≤ (s.1 9 4) then evT f 136 10 [oR 9 0, oI x1] [] s else evT f 136 26 [oR 9 0, oI x1] [] s) (fun _ => rfl) (rg_if h (fun h => ?_) fun h => ?_)
    · refine rg_step 3 (G' := fun f => ev_after (evT f 138 0 [oR 9 0, oI x1, nn, nn, nn] [] s) (fun q => evT f 136 15 [oR 9 0, oI x1] (q.2 ++ []) q.1)) (fun _ => rfl) (rg_bd1 h fun v1 hc h => rg_call (q := cvP s v1) (T_fLog_isRight hc) ?_)
      refine rg_step 1 (G' := fun f => if v1 = 0 then evT f 136 18 [oR 9 0, oI x1] [] s else evT f 136 20 [oR 9 0, oI x1] [] s) (fun _ => rfl) (rg_if h (fun h => ?_) fun h => ?_)
      · exact rg_end 2 (fun _ => rfl) (by cases h; rfl)
      · exact rg_step 2 (G' := fun f => evT f 136 2 [oR 9 0, oI (x1 + cI 1)] [] s) (fun _ => rfl) (hk2 h)
    · exact rg_end 2 (fun _ => rfl) (by cases h; rfl)
theorem t_fLog_firstBad_h2 {s : ev_M} {n : Nat} {x1 : Int32} {q : Int32} (h : fLog_firstBad_h2 s n x1 = some q) : RR 136 2 [oR 9 0, oI x1] [] s (cvP s q) := ti_fLog_firstBad_h2 n x1 q h
theorem T_fLog_firstBad {s : ev_M} {q : Int32} (h : fLog_firstBad s = some q) : RR 136 0 [oR 9 0, nn] [] s (cvP s q) := by
  exact rg_step 2 (G' := fun f => evT f 136 2 [oR 9 0, oI (cI 1)] [] s) (fun _ => rfl) ((t_fLog_firstBad_h2) h)
theorem T_fPH_verify {s : ev_M} {q : Int32} (h : fPH_verify s = some q) : RR 234 0 [oR 0 0] [] s (cvP s q) := by
  refine rg_step 4 (G' := fun f => if (s.1 9 9) = 0 then evT f 234 15 [oR 0 0] [] s else evT f 234 10 [oR 0 0] [] s) (fun _ => rfl) (rg_if h (fun h => ?_) fun h => ?_)
  · refine rg_step 3 (G' := fun f => ev_after (evT f 136 0 [oR 9 0, nn] [] s) (fun q => evT f 234 22 [oR 0 0] (q.2 ++ []) q.1)) (fun _ => rfl) (rg_bd1 h fun v1 hc h => rg_call (q := cvP s v1) (T_fLog_firstBad hc) ?_)
    exact rg_end 1 (fun _ => rfl) (by cases h; rfl)
  · exact rg_end 3 (fun _ => rfl) (by cases h; rfl)
theorem t_fM_verify_b39 {s : ev_M} {x1 : Int32} {q : ev_M × Int32} (h : fM_verify_b39 s x1 = some q) : RR 336 39 [oR 549 0, oI x1] [] s (cvI q) := by
  refine rg_step 4 (G' := fun f => if x1 ≤ (s.1 549 4) then evT f 336 47 [oR 549 0, oI x1] [] s else evT f 336 51 [oR 549 0, oI x1] [] s) (fun _ => rfl) (rg_if h (fun h => ?_) fun h => ?_)
  · exact rg_end 3 (fun _ => rfl) (by cases h; rfl)
  · exact rg_end 2 (fun _ => rfl) (by cases h; rfl)
theorem ti_fM_verify_h17 : ∀ (n : Nat) (s : ev_M) (x1 : Int32) (q : ev_M × Int32), fM_verify_h17 n s x1 = some q → RR 336 17 [oR 549 0, oI x1] [] s (cvI q) := by
  intro n
  induction n with
  | zero => intro s x1 q h; cases h
  | succ n ih =>
    have hk17 : ∀ {s : ev_M} {x1 : Int32} {q : ev_M × Int32}, fM_verify_h17 n s x1 = some q → RR 336 17 [oR 549 0, oI x1] [] s (cvI q) := fun h => ih _ _ _ h
    intro s x1 q h
    refine rg_step 4 (G' := fun f => if x1 ≤ (s.1 549 4) then evT f 336 25 [oR 549 0, oI x1] [] s else evT f 336 39 [oR 549 0, oI x1] [] s) (fun _ => rfl) (rg_if h (fun h => ?_) fun h => ?_)
    · refine rg_step 3 (G' := fun f => ev_after (evT f 327 0 [oR 549 0, oI x1, nn, nn, nn] [] s) (fun q => evT f 336 30 [oR 549 0, oI x1] (q.2 ++ []) q.1)) (fun _ => rfl) (rg_bd1 h fun v1 hc h => rg_call (q := cvP s v1) (T_fM_isRight hc) ?_)
      refine rg_step 1 (G' := fun f => if v1 = 0 then evT f 336 39 [oR 549 0, oI x1] [] s else evT f 336 33 [oR 549 0, oI x1] [] s) (fun _ => rfl) (rg_if h (fun h => ?_) fun h => ?_)
      · exact (t_fM_verify_b39) h
      · exact rg_step 2 (G' := fun f => evT f 336 17 [oR 549 0, oI (x1 + cI 1)] [] s) (fun _ => rfl) (hk17 h)
    · exact (t_fM_verify_b39) h
theorem t_fM_verify_h17 {n : Nat} {s : ev_M} {x1 : Int32} {q : ev_M × Int32} (h : fM_verify_h17 n s x1 = some q) : RR 336 17 [oR 549 0, oI x1] [] s (cvI q) := ti_fM_verify_h17 n s x1 q h
theorem T_fM_verify {s : ev_M} {q : ev_M × Int32} (h : fM_verify s = some q) : RR 336 0 [oR 549 0, nn] [] s (cvI q) := by
  refine rg_step 3 (G' := fun f => evT f 336 5 [oR 549 0, nn] [] (wI s 549 0 (cI 0))) (fun _ => rfl) (rg_ltM h fun s2 h => ?_)
  refine rg_step 3 (G' := fun f => if (s2.1 549 5) = 0 then evT f 336 15 [oR 549 0, nn] [] s2 else evT f 336 12 [oR 549 0, nn] [] s2) (fun _ => rfl) (rg_if h (fun h => ?_) fun h => ?_)
  · exact rg_step 2 (G' := fun f => evT f 336 17 [oR 549 0, oI (cI 1)] [] s2) (fun _ => rfl) ((t_fM_verify_h17) h)
  · exact rg_end 2 (fun _ => rfl) (by cases h; rfl)
theorem t_fM_octet_b28 {s : ev_M} {x1 : Int32} {x2 : Int32} {y1 : Int32} {q : ev_M × Int32} (h : fM_octet_b28 s x1 x2 y1 = some q) : RR 337 28 [oR 549 0, oI x1, oI x2] [vI y1, vR 549 0] s (cvI q) := by
  refine rg_step 1 (G' := fun f => evT f 337 31 [oR 549 0, oI x1, oI x2] [] (wI s 549 0 y1)) (fun _ => rfl) (rg_ltM h fun s1 h => ?_)
  refine rg_step 3 (G' := fun f => if (s1.1 549 0) ≤ 0 then evT f 337 42 [oR 549 0, oI x1, oI x2] [] s1 else evT f 337 38 [oR 549 0, oI x1, oI x2] [] s1) (fun _ => rfl) (rg_if h (fun h => ?_) fun h => ?_)
  · refine rg_step 4 (G' := fun f => ev_after (evT f 325 0 [oR 549 0, oI x1, oI x2] [] s1) (fun q => evT f 337 48 [oR 549 0, oI x1, oI x2] (q.2 ++ []) q.1)) (fun _ => rfl) (rg_bd1 h fun v2 hc h => rg_call (q := cvP s1 v2) (T_fM_at hc) ?_)
    exact rg_end 1 (fun _ => rfl) (by cases h; rfl)
  · exact rg_end 3 (fun _ => rfl) (by cases h; rfl)
theorem t_fM_octet_b27 {s : ev_M} {x1 : Int32} {x2 : Int32} {q : ev_M × Int32} (h : fM_octet_b27 s x1 x2 = some q) : RR 337 27 [oR 549 0, oI x1, oI x2] [vR 549 0] s (cvI q) := by
  exact rg_step 1 (G' := fun f => evT f 337 28 [oR 549 0, oI x1, oI x2] [vI (cI 1), vR 549 0] s) (fun _ => rfl) ((t_fM_octet_b28) h)
theorem T_fM_octet {s : ev_M} {a1 : Int32} {a2 : Int32} {q : ev_M × Int32} (h : fM_octet s a1 a2 = some q) : RR 337 0 [oR 549 0, oI a1, oI a2] [] s (cvI q) := by
  refine rg_step 5 (G' := fun f => ev_after (evT f 311 0 [oI a1, oI (cI 1), oI (cI 150)] [] s) (fun q => evT f 337 9 [oR 549 0, oI a1, oI a2] (q.2 ++ [vR 549 0]) q.1)) (fun _ => rfl) (rg_bd1 h fun v3 hc h => rg_call (q := cvP s v3) (T_fM_in hc) ?_)
  refine rg_step 1 (G' := fun f => if v3 = 0 then evT f 337 27 [oR 549 0, oI a1, oI a2] [vR 549 0] s else evT f 337 12 [oR 549 0, oI a1, oI a2] [vR 549 0] s) (fun _ => rfl) (rg_if h (fun h => ?_) fun h => ?_)
  · exact (t_fM_octet_b27) h
  · refine rg_step 4 (G' := fun f => ev_after (evT f 311 0 [oI a2, oI (cI 0), oI (cI 255)] [] s) (fun q => evT f 337 20 [oR 549 0, oI a1, oI a2] (q.2 ++ [vR 549 0]) q.1)) (fun _ => rfl) (rg_bd1 h fun v4 hc h => rg_call (q := cvP s v4) (T_fM_in hc) ?_)
    refine rg_step 1 (G' := fun f => if v4 = 0 then evT f 337 27 [oR 549 0, oI a1, oI a2] [vR 549 0] s else evT f 337 23 [oR 549 0, oI a1, oI a2] [vR 549 0] s) (fun _ => rfl) (rg_if h (fun h => ?_) fun h => ?_)
    · exact (t_fM_octet_b27) h
    · exact rg_step 2 (G' := fun f => evT f 337 28 [oR 549 0, oI a1, oI a2] [vI (cI 0), vR 549 0] s) (fun _ => rfl) ((t_fM_octet_b28) h)
theorem t_fM_poke_b28 {s : ev_M} {x1 : Int32} {x2 : Int32} {x3 : Int32} {y1 : Int32} {q : ev_M × Int32} (h : fM_poke_b28 s x1 x2 x3 y1 = some q) : RR 338 28 [oR 549 0, oI x1, oI x2, oI x3] [vI y1, vR 549 0] s (cvI q) := by
  refine rg_step 1 (G' := fun f => evT f 338 31 [oR 549 0, oI x1, oI x2, oI x3] [] (wI s 549 0 y1)) (fun _ => rfl) (rg_ltM h fun s1 h => ?_)
  refine rg_step 3 (G' := fun f => if (s1.1 549 0) ≤ 0 then evT f 338 40 [oR 549 0, oI x1, oI x2, oI x3] [] s1 else evT f 338 38 [oR 549 0, oI x1, oI x2, oI x3] [] s1) (fun _ => rfl) (rg_if h (fun h => ?_) fun h => ?_)
  · refine rg_step 15 (G' := fun f => if inb (((cI 256) * x1) + x2) 38656 = true then evT f 338 63 [oR 549 0, oI x1, oI x2, oI x3] [vI (s1.1 551 (ix (((cI 256) * x1) + x2))), vI (((cI 256) * x1) + x2), vR 551 0] s1 else none) (fun _ => rfl) (rg_gd h fun h => ?_)
    refine rg_step 4 (G' := fun f => if inb (((cI 256) * x1) + x2) 38656 = true then evT f 338 67 [oR 549 0, oI x1, oI x2, oI x3] [] (wI s1 551 (ix (((cI 256) * x1) + x2)) (i2b (i2b ((s1.1 551 (ix (((cI 256) * x1) + x2))) ^^^ x3)))) else none) (fun _ => rfl) (rg_gd h fun h => rg_ltM h fun s2 h => ?_)
    refine rg_step 4 (G' := fun f => ev_after (evT f 325 0 [oR 549 0, oI x1, oI x2] [] s2) (fun q => evT f 338 73 [oR 549 0, oI x1, oI x2, oI x3] (q.2 ++ []) q.1)) (fun _ => rfl) (rg_bd1 h fun v3 hc h => rg_call (q := cvP s2 v3) (T_fM_at hc) ?_)
    exact rg_end 1 (fun _ => rfl) (by cases h; rfl)
  · exact rg_end 2 (fun _ => rfl) (by cases h; rfl)
theorem t_fM_poke_b27 {s : ev_M} {x1 : Int32} {x2 : Int32} {x3 : Int32} {q : ev_M × Int32} (h : fM_poke_b27 s x1 x2 x3 = some q) : RR 338 27 [oR 549 0, oI x1, oI x2, oI x3] [vR 549 0] s (cvI q) := by
  exact rg_step 1 (G' := fun f => evT f 338 28 [oR 549 0, oI x1, oI x2, oI x3] [vI (cI 1), vR 549 0] s) (fun _ => rfl) ((t_fM_poke_b28) h)
theorem T_fM_poke {s : ev_M} {a1 : Int32} {a2 : Int32} {a3 : Int32} {q : ev_M × Int32} (h : fM_poke s a1 a2 a3 = some q) : RR 338 0 [oR 549 0, oI a1, oI a2, oI a3] [] s (cvI q) := by
  refine rg_step 5 (G' := fun f => ev_after (evT f 311 0 [oI a1, oI (cI 1), oI (cI 150)] [] s) (fun q => evT f 338 9 [oR 549 0, oI a1, oI a2, oI a3] (q.2 ++ [vR 549 0]) q.1)) (fun _ => rfl) (rg_bd1 h fun v4 hc h => rg_call (q := cvP s v4) (T_fM_in hc) ?_)
  refine rg_step 1 (G' := fun f => if v4 = 0 then evT f 338 27 [oR 549 0, oI a1, oI a2, oI a3] [vR 549 0] s else evT f 338 12 [oR 549 0, oI a1, oI a2, oI a3] [vR 549 0] s) (fun _ => rfl) (rg_if h (fun h => ?_) fun h => ?_)
  · exact (t_fM_poke_b27) h
  · refine rg_step 4 (G' := fun f => ev_after (evT f 311 0 [oI a2, oI (cI 0), oI (cI 255)] [] s) (fun q => evT f 338 20 [oR 549 0, oI a1, oI a2, oI a3] (q.2 ++ [vR 549 0]) q.1)) (fun _ => rfl) (rg_bd1 h fun v5 hc h => rg_call (q := cvP s v5) (T_fM_in hc) ?_)
    refine rg_step 1 (G' := fun f => if v5 = 0 then evT f 338 27 [oR 549 0, oI a1, oI a2, oI a3] [vR 549 0] s else evT f 338 23 [oR 549 0, oI a1, oI a2, oI a3] [vR 549 0] s) (fun _ => rfl) (rg_if h (fun h => ?_) fun h => ?_)
    · exact (t_fM_poke_b27) h
    · exact rg_step 2 (G' := fun f => evT f 338 28 [oR 549 0, oI a1, oI a2, oI a3] [vI (cI 0), vR 549 0] s) (fun _ => rfl) ((t_fM_poke_b28) h)
theorem T_fPH_count {s : ev_M} {a1 : Int32} {q : Int32} (h : fPH_count s a1 = some q) : RR 235 0 [oR 0 0, oI a1] [] s (cvP s q) := by
  refine rg_step 4 (G' := fun f => if (s.1 9 9) = 0 then evT f 235 13 [oR 0 0, oI a1] [] s else evT f 235 10 [oR 0 0, oI a1] [] s) (fun _ => rfl) (rg_if h (fun h => ?_) fun h => ?_)
  · refine rg_step 2 (G' := fun f => if a1 = cI 0 then evT f 235 100 [oR 0 0, oI a1] [] s else if a1 = cI 1 then evT f 235 108 [oR 0 0, oI a1] [] s else if a1 = cI 2 then evT f 235 116 [oR 0 0, oI a1] [] s else if a1 = cI 3 then evT f 235 124 [oR 0 0, oI a1] [] s else if a1 = cI 4 then evT f 235 132 [oR 0 0, oI a1] [] s else if a1 = cI 5 then evT f 235 140 [oR 0 0, oI a1] [] s else if a1 = cI 6 then evT f 235 148 [oR 0 0, oI a1] [] s else if a1 = cI 7 then evT f 235 156 [oR 0 0, oI a1] [] s else if a1 = cI 8 then evT f 235 164 [oR 0 0, oI a1] [] s else if a1 = cI 9 then evT f 235 172 [oR 0 0, oI a1] [] s else if a1 = cI 10 then evT f 235 180 [oR 0 0, oI a1] [] s else if a1 = cI 11 then evT f 235 188 [oR 0 0, oI a1] [] s else if a1 = cI 12 then evT f 235 196 [oR 0 0, oI a1] [] s else if a1 = cI 13 then evT f 235 204 [oR 0 0, oI a1] [] s else if a1 = cI 14 then evT f 235 212 [oR 0 0, oI a1] [] s else if a1 = cI 15 then evT f 235 220 [oR 0 0, oI a1] [] s else if a1 = cI 16 then evT f 235 228 [oR 0 0, oI a1] [] s else if a1 = cI 17 then evT f 235 236 [oR 0 0, oI a1] [] s else evT f 235 244 [oR 0 0, oI a1] [] s) (fun _ => rfl) ?_
    refine rg_if h (fun h => ?_) fun h => ?_
    · exact rg_end 4 (fun _ => rfl) (by cases h; rfl)
    refine rg_if h (fun h => ?_) fun h => ?_
    · exact rg_end 4 (fun _ => rfl) (by cases h; rfl)
    refine rg_if h (fun h => ?_) fun h => ?_
    · exact rg_end 4 (fun _ => rfl) (by cases h; rfl)
    refine rg_if h (fun h => ?_) fun h => ?_
    · exact rg_end 4 (fun _ => rfl) (by cases h; rfl)
    refine rg_if h (fun h => ?_) fun h => ?_
    · exact rg_end 4 (fun _ => rfl) (by cases h; rfl)
    refine rg_if h (fun h => ?_) fun h => ?_
    · exact rg_end 4 (fun _ => rfl) (by cases h; rfl)
    refine rg_if h (fun h => ?_) fun h => ?_
    · exact rg_end 4 (fun _ => rfl) (by cases h; rfl)
    refine rg_if h (fun h => ?_) fun h => ?_
    · exact rg_end 4 (fun _ => rfl) (by cases h; rfl)
    refine rg_if h (fun h => ?_) fun h => ?_
    · exact rg_end 4 (fun _ => rfl) (by cases h; rfl)
    refine rg_if h (fun h => ?_) fun h => ?_
    · exact rg_end 4 (fun _ => rfl) (by cases h; rfl)
    refine rg_if h (fun h => ?_) fun h => ?_
    · exact rg_end 4 (fun _ => rfl) (by cases h; rfl)
    refine rg_if h (fun h => ?_) fun h => ?_
    · exact rg_end 4 (fun _ => rfl) (by cases h; rfl)
    refine rg_if h (fun h => ?_) fun h => ?_
    · exact rg_end 4 (fun _ => rfl) (by cases h; rfl)
    refine rg_if h (fun h => ?_) fun h => ?_
    · exact rg_end 4 (fun _ => rfl) (by cases h; rfl)
    refine rg_if h (fun h => ?_) fun h => ?_
    · exact rg_end 4 (fun _ => rfl) (by cases h; rfl)
    refine rg_if h (fun h => ?_) fun h => ?_
    · exact rg_end 4 (fun _ => rfl) (by cases h; rfl)
    refine rg_if h (fun h => ?_) fun h => ?_
    · exact rg_end 4 (fun _ => rfl) (by cases h; rfl)
    refine rg_if h (fun h => ?_) fun h => ?_
    · exact rg_end 4 (fun _ => rfl) (by cases h; rfl)
    exact rg_end 2 (fun _ => rfl) (by cases h; rfl)
  · exact rg_end 2 (fun _ => rfl) (by cases h; rfl)
theorem T_fM_count {s : ev_M} {a1 : Int32} {q : ev_M × Int32} (h : fM_count s a1 = some q) : RR 349 0 [oR 549 0, oI a1] [] s (cvI q) := by
  refine rg_step 3 (G' := fun f => evT f 349 5 [oR 549 0, oI a1] [] (wI s 549 0 (cI 0))) (fun _ => rfl) (rg_ltM h fun s1 h => ?_)
  refine rg_step 3 (G' := fun f => if (s1.1 549 5) = 0 then evT f 349 15 [oR 549 0, oI a1] [] s1 else evT f 349 12 [oR 549 0, oI a1] [] s1) (fun _ => rfl) (rg_if h (fun h => ?_) fun h => ?_)
  · refine rg_step 2 (G' := fun f => if a1 = cI 0 then evT f 349 104 [oR 549 0, oI a1] [] s1 else if a1 = cI 1 then evT f 349 109 [oR 549 0, oI a1] [] s1 else if a1 = cI 2 then evT f 349 114 [oR 549 0, oI a1] [] s1 else if a1 = cI 3 then evT f 349 119 [oR 549 0, oI a1] [] s1 else if a1 = cI 4 then evT f 349 124 [oR 549 0, oI a1] [] s1 else if a1 = cI 5 then evT f 349 129 [oR 549 0, oI a1] [] s1 else if a1 = cI 6 then evT f 349 134 [oR 549 0, oI a1] [] s1 else if a1 = cI 7 then evT f 349 139 [oR 549 0, oI a1] [] s1 else if a1 = cI 8 then evT f 349 144 [oR 549 0, oI a1] [] s1 else if a1 = cI 9 then evT f 349 149 [oR 549 0, oI a1] [] s1 else if a1 = cI 10 then evT f 349 154 [oR 549 0, oI a1] [] s1 else if a1 = cI 11 then evT f 349 159 [oR 549 0, oI a1] [] s1 else if a1 = cI 12 then evT f 349 164 [oR 549 0, oI a1] [] s1 else if a1 = cI 13 then evT f 349 169 [oR 549 0, oI a1] [] s1 else if a1 = cI 14 then evT f 349 174 [oR 549 0, oI a1] [] s1 else if a1 = cI 15 then evT f 349 179 [oR 549 0, oI a1] [] s1 else if a1 = cI 16 then evT f 349 184 [oR 549 0, oI a1] [] s1 else if a1 = cI 17 then evT f 349 189 [oR 549 0, oI a1] [] s1 else evT f 349 194 [oR 549 0, oI a1] [] s1) (fun _ => rfl) ?_
    refine rg_if h (fun h => ?_) fun h => ?_
    · exact rg_end 3 (fun _ => rfl) (by cases h; rfl)
    refine rg_if h (fun h => ?_) fun h => ?_
    · exact rg_end 3 (fun _ => rfl) (by cases h; rfl)
    refine rg_if h (fun h => ?_) fun h => ?_
    · exact rg_end 3 (fun _ => rfl) (by cases h; rfl)
    refine rg_if h (fun h => ?_) fun h => ?_
    · exact rg_end 3 (fun _ => rfl) (by cases h; rfl)
    refine rg_if h (fun h => ?_) fun h => ?_
    · exact rg_end 3 (fun _ => rfl) (by cases h; rfl)
    refine rg_if h (fun h => ?_) fun h => ?_
    · exact rg_end 3 (fun _ => rfl) (by cases h; rfl)
    refine rg_if h (fun h => ?_) fun h => ?_
    · exact rg_end 3 (fun _ => rfl) (by cases h; rfl)
    refine rg_if h (fun h => ?_) fun h => ?_
    · exact rg_end 3 (fun _ => rfl) (by cases h; rfl)
    refine rg_if h (fun h => ?_) fun h => ?_
    · exact rg_end 3 (fun _ => rfl) (by cases h; rfl)
    refine rg_if h (fun h => ?_) fun h => ?_
    · exact rg_end 3 (fun _ => rfl) (by cases h; rfl)
    refine rg_if h (fun h => ?_) fun h => ?_
    · exact rg_end 3 (fun _ => rfl) (by cases h; rfl)
    refine rg_if h (fun h => ?_) fun h => ?_
    · exact rg_end 3 (fun _ => rfl) (by cases h; rfl)
    refine rg_if h (fun h => ?_) fun h => ?_
    · exact rg_end 3 (fun _ => rfl) (by cases h; rfl)
    refine rg_if h (fun h => ?_) fun h => ?_
    · exact rg_end 3 (fun _ => rfl) (by cases h; rfl)
    refine rg_if h (fun h => ?_) fun h => ?_
    · exact rg_end 3 (fun _ => rfl) (by cases h; rfl)
    refine rg_if h (fun h => ?_) fun h => ?_
    · exact rg_end 3 (fun _ => rfl) (by cases h; rfl)
    refine rg_if h (fun h => ?_) fun h => ?_
    · exact rg_end 3 (fun _ => rfl) (by cases h; rfl)
    refine rg_if h (fun h => ?_) fun h => ?_
    · exact rg_end 3 (fun _ => rfl) (by cases h; rfl)
    exact rg_end 2 (fun _ => rfl) (by cases h; rfl)
  · exact rg_end 2 (fun _ => rfl) (by cases h; rfl)
theorem T_fPH_book {s : ev_M} {q : ev_M × Int32} (h : fPH_book s = some q) : RR 236 0 [oR 0 0, nn] [] s (cvI q) := by
  refine rg_step 10 (G' := fun f => ev_after (evT f 122 0 [oR 9 0, oI (cI 1), oI (cI 0), oI (cI 0), oI (cI 0), oI (cI 0), oI (cI 0), oI (cI 0)] [] s) (fun q => evT f 236 14 [oR 0 0, nn] (q.2 ++ []) q.1)) (fun _ => rfl) (rg_bd2 h fun s1 v2 hc h => rg_call (q := cvI (s1, v2)) (T_fLog_stages hc) ?_)
  refine rg_step 1 (G' := fun f => if v2 = 0 then evT f 236 17 [oR 0 0, nn] [] s1 else evT f 236 20 [oR 0 0, nn] [] s1) (fun _ => rfl) (rg_if h (fun h => ?_) fun h => ?_)
  · exact rg_end 2 (fun _ => rfl) (by cases h; rfl)
  · refine rg_step 4 (G' := fun f => ev_after (evT f 302 0 [oR 0 0, oR 1 0, nn, nn, nn, nn, nn, nn] [] s1) (fun q => evT f 236 28 [oR 0 0, nn] (q.2 ++ []) q.1)) (fun _ => rfl) (rg_bd2 h fun s3 v4 hc h => rg_call (q := cvI (s3, v4)) (T_fPH_act_1 hc) ?_)
    refine rg_step 5 (G' := fun f => evT f 236 37 [oR 0 0, oI v4] [] (wI s3 1 1 (cI 0))) (fun _ => rfl) (rg_ltM h fun s5 h => ?_)
    exact rg_end 2 (fun _ => rfl) (by cases h; rfl)
theorem T_fM_book {s : ev_M} {q : ev_M × Int32} (h : fM_book s = some q) : RR 371 0 [oR 549 0] [] s (cvI q) := by
  refine rg_step 3 (G' := fun f => ev_after (evT f 318 0 [oR 549 0, oI (cI 1), nn, nn, nn] [] s) (fun q => evT f 371 5 [oR 549 0] (q.2 ++ []) q.1)) (fun _ => rfl) (rg_bd2 h fun s1 v2 hc h => rg_call (q := cvI (s1, v2)) (T_fM_call hc) ?_)
  exact rg_end 1 (fun _ => rfl) (by cases h; rfl)
theorem T_fPH_forward {s : ev_M} {a1 : Int32} {a2 : Int32} {a3 : Int32} {a4 : Int32} {q : ev_M × Int32} (h : fPH_forward s a1 a2 a3 a4 = some q) : RR 237 0 [oR 0 0, oI a1, oI a2, oI a3, oI a4] [] s (cvI q) := by
  refine rg_step 10 (G' := fun f => ev_after (evT f 122 0 [oR 9 0, oI (cI 2), oI a1, oI a2, oI a3, oI a4, oI (cI 0), oI (cI 0)] [] s) (fun q => evT f 237 15 [oR 0 0, oI a1, oI a2, oI a3, oI a4] (q.2 ++ []) q.1)) (fun _ => rfl) (rg_bd2 h fun s1 v2 hc h => rg_call (q := cvI (s1, v2)) (T_fLog_stages hc) ?_)
  refine rg_step 1 (G' := fun f => if v2 = 0 then evT f 237 29 [oR 0 0, oI a1, oI a2, oI a3, oI a4] [] s1 else evT f 237 18 [oR 0 0, oI a1, oI a2, oI a3, oI a4] [] s1) (fun _ => rfl) (rg_if h (fun h => ?_) fun h => ?_)
  · exact rg_end 2 (fun _ => rfl) (by cases h; rfl)
  · refine rg_step 4 (G' := fun f => ev_after (evT f 302 0 [oR 0 0, oR 1 0, nn, nn, nn, nn, nn, nn] [] s1) (fun q => evT f 237 26 [oR 0 0, oI a1, oI a2, oI a3, oI a4] (q.2 ++ []) q.1)) (fun _ => rfl) (rg_bd2 h fun s3 v4 hc h => rg_call (q := cvI (s3, v4)) (T_fPH_act_1 hc) ?_)
    exact rg_end 2 (fun _ => rfl) (by cases h; rfl)
theorem T_fM_call4 {s : ev_M} {a1 : Int32} {a2 : Int32} {a3 : Int32} {a4 : Int32} {a5 : Int32} {q : ev_M × Int32} (h : fM_call4 s a1 a2 a3 a4 a5 = some q) : RR 322 0 [oR 549 0, oI a1, oI a2, oI a3, oI a4, oI a5] [] s (cvI q) := by
  refine rg_step 5 (G' := fun f => evT f 322 8 [oR 549 0, oI a1, oI a2, oI a3, oI a4, oI a5] [] (wI s 553 (ix (cI 3)) a5)) (fun _ => rfl) (rg_ltM h fun s1 h => ?_)
  refine rg_step 6 (G' := fun f => ev_after (evT f 321 0 [oR 549 0, oI a1, oI a2, oI a3, oI a4] [] s1) (fun q => evT f 322 17 [oR 549 0, oI a1, oI a2, oI a3, oI a4, oI a5] (q.2 ++ []) q.1)) (fun _ => rfl) (rg_bd2 h fun s2 v3 hc h => rg_call (q := cvI (s2, v3)) (T_fM_call3 hc) ?_)
  exact rg_end 1 (fun _ => rfl) (by cases h; rfl)
theorem T_fM_forward {s : ev_M} {a1 : Int32} {a2 : Int32} {a3 : Int32} {a4 : Int32} {q : ev_M × Int32} (h : fM_forward s a1 a2 a3 a4 = some q) : RR 373 0 [oR 549 0, oI a1, oI a2, oI a3, oI a4] [] s (cvI q) := by
  refine rg_step 7 (G' := fun f => ev_after (evT f 322 0 [oR 549 0, oI (cI 2), oI a1, oI a2, oI a3, oI a4] [] s) (fun q => evT f 373 10 [oR 549 0, oI a1, oI a2, oI a3, oI a4] (q.2 ++ []) q.1)) (fun _ => rfl) (rg_bd2 h fun s1 v2 hc h => rg_call (q := cvI (s1, v2)) (T_fM_call4 hc) ?_)
  exact rg_end 1 (fun _ => rfl) (by cases h; rfl)
theorem T_fPH_hold {s : ev_M} {a1 : Int32} {a2 : Int32} {a3 : Int32} {q : ev_M × Int32} (h : fPH_hold s a1 a2 a3 = some q) : RR 238 0 [oR 0 0, oI a1, oI a2, oI a3] [] s (cvI q) := by
  refine rg_step 10 (G' := fun f => ev_after (evT f 122 0 [oR 9 0, oI (cI 3), oI a1, oI a2, oI a3, oI (cI 0), oI (cI 0), oI (cI 0)] [] s) (fun q => evT f 238 14 [oR 0 0, oI a1, oI a2, oI a3] (q.2 ++ []) q.1)) (fun _ => rfl) (rg_bd2 h fun s1 v2 hc h => rg_call (q := cvI (s1, v2)) (T_fLog_stages hc) ?_)
  refine rg_step 1 (G' := fun f => if v2 = 0 then evT f 238 28 [oR 0 0, oI a1, oI a2, oI a3] [] s1 else evT f 238 17 [oR 0 0, oI a1, oI a2, oI a3] [] s1) (fun _ => rfl) (rg_if h (fun h => ?_) fun h => ?_)
  · exact rg_end 2 (fun _ => rfl) (by cases h; rfl)
  · refine rg_step 4 (G' := fun f => ev_after (evT f 302 0 [oR 0 0, oR 1 0, nn, nn, nn, nn, nn, nn] [] s1) (fun q => evT f 238 25 [oR 0 0, oI a1, oI a2, oI a3] (q.2 ++ []) q.1)) (fun _ => rfl) (rg_bd2 h fun s3 v4 hc h => rg_call (q := cvI (s3, v4)) (T_fPH_act_1 hc) ?_)
    exact rg_end 2 (fun _ => rfl) (by cases h; rfl)
theorem T_fM_hold {s : ev_M} {a1 : Int32} {a2 : Int32} {a3 : Int32} {q : ev_M × Int32} (h : fM_hold s a1 a2 a3 = some q) : RR 374 0 [oR 549 0, oI a1, oI a2, oI a3] [] s (cvI q) := by
  refine rg_step 6 (G' := fun f => ev_after (evT f 321 0 [oR 549 0, oI (cI 3), oI a1, oI a2, oI a3] [] s) (fun q => evT f 374 8 [oR 549 0, oI a1, oI a2, oI a3] (q.2 ++ []) q.1)) (fun _ => rfl) (rg_bd2 h fun s1 v2 hc h => rg_call (q := cvI (s1, v2)) (T_fM_call3 hc) ?_)
  exact rg_end 1 (fun _ => rfl) (by cases h; rfl)
theorem T_fBook_askedGoal {s : ev_M} {a1 : Int32} {a2 : Int32} {q : ev_M × Int32} (h : fBook_askedGoal s a1 a2 = some q) : RR 36 0 [oR 30 0, oI a1, oI a2] [] s (cvI q) := by
  refine rg_step 3 (G' := fun f => ev_after (evT f 28 0 [oR 30 0, oI a1] [] s) (fun q => evT f 36 5 [oR 30 0, oI a1, oI a2] (q.2 ++ []) q.1)) (fun _ => rfl) (rg_bd1 h fun v1 hc h => rg_call (q := cvP s v1) (T_fBook_hasPoint hc) ?_)
  refine rg_step 1 (G' := fun f => if v1 = 0 then evT f 36 8 [oR 30 0, oI a1, oI a2] [] s else evT f 36 11 [oR 30 0, oI a1, oI a2] [] s) (fun _ => rfl) (rg_if h (fun h => ?_) fun h => ?_)
  · exact rg_end 2 (fun _ => rfl) (by cases h; rfl)
  · refine rg_step 4 (G' := fun f => ev_after (evT f 308 0 [oI a2, oI (cI 0), oI (cI 99)] [] s) (fun q => evT f 36 18 [oR 30 0, oI a1, oI a2] (q.2 ++ []) q.1)) (fun _ => rfl) (rg_bd1 h fun v2 hc h => rg_call (q := cvP s v2) (T_fPH_outside hc) ?_)
    refine rg_step 1 (G' := fun f => if v2 = 0 then evT f 36 26 [oR 30 0, oI a1, oI a2] [] s else evT f 36 21 [oR 30 0, oI a1, oI a2] [] s) (fun _ => rfl) (rg_if h (fun h => ?_) fun h => ?_)
    · refine rg_step 4 (G' := fun f => ev_after (evT f 37 0 [oR 30 0, oI a1, oI a2, nn, nn, nn] [] s) (fun q => evT f 36 32 [oR 30 0, oI a1, oI a2] (q.2 ++ []) q.1)) (fun _ => rfl) (rg_bd2 h fun s3 v4 hc h => rg_call (q := cvI (s3, v4)) (T_fBook_goalFor hc) ?_)
      exact rg_end 1 (fun _ => rfl) (by cases h; rfl)
    · exact rg_end 3 (fun _ => rfl) (by cases h; rfl)
theorem T_fPH_effective {s : ev_M} {a1 : Int32} {a2 : Int32} {q : ev_M × Int32} (h : fPH_effective s a1 a2 = some q) : RR 239 0 [oR 0 0, oI a1, oI a2] [] s (cvI q) := by
  refine rg_step 4 (G' := fun f => if (s.1 9 9) = 0 then evT f 239 15 [oR 0 0, oI a1, oI a2] [] s else evT f 239 10 [oR 0 0, oI a1, oI a2] [] s) (fun _ => rfl) (rg_if h (fun h => ?_) fun h => ?_)
  · refine rg_step 5 (G' := fun f => ev_after (evT f 36 0 [oR 30 0, oI a1, oI a2] [] s) (fun q => evT f 239 24 [oR 0 0, oI a1, oI a2] (q.2 ++ []) q.1)) (fun _ => rfl) (rg_bd2 h fun s1 v2 hc h => rg_call (q := cvI (s1, v2)) (T_fBook_askedGoal hc) ?_)
    exact rg_end 1 (fun _ => rfl) (by cases h; rfl)
  · exact rg_end 3 (fun _ => rfl) (by cases h; rfl)
theorem T_fM_ask {s : ev_M} {a1 : Int32} {a2 : Int32} {a3 : Int32} {q : ev_M × Int32} (h : fM_ask s a1 a2 a3 = some q) : RR 376 0 [oR 549 0, oI a1, oI a2, oI a3, nn] [] s (cvI q) := by
  refine rg_step 3 (G' := fun f => evT f 376 5 [oR 549 0, oI a1, oI a2, oI a3, nn] [] (wI s 549 0 (cI 0))) (fun _ => rfl) (rg_ltM h fun s1 h => ?_)
  refine rg_step 3 (G' := fun f => if (s1.1 549 5) = 0 then evT f 376 15 [oR 549 0, oI a1, oI a2, oI a3, nn] [] s1 else evT f 376 12 [oR 549 0, oI a1, oI a2, oI a3, nn] [] s1) (fun _ => rfl) (rg_if h (fun h => ?_) fun h => ?_)
  · refine rg_step 3 (G' := fun f => ev_after (evT f 341 0 [oR 549 0, oI a1] [] s1) (fun q => evT f 376 20 [oR 549 0, oI a1, oI a2, oI a3, nn] (q.2 ++ []) q.1)) (fun _ => rfl) (rg_bd1 h fun v2 hc h => rg_call (q := cvP s1 v2) (T_fM_isPoint hc) ?_)
    refine rg_step 1 (G' := fun f => if v2 = 0 then evT f 376 23 [oR 549 0, oI a1, oI a2, oI a3, nn] [] s1 else evT f 376 26 [oR 549 0, oI a1, oI a2, oI a3, nn] [] s1) (fun _ => rfl) (rg_if h (fun h => ?_) fun h => ?_)
    · exact rg_end 2 (fun _ => rfl) (by cases h; rfl)
    · refine rg_step 4 (G' := fun f => ev_after (evT f 311 0 [oI a2, oI (cI 0), oI (cI 99)] [] s1) (fun q => evT f 376 33 [oR 549 0, oI a1, oI a2, oI a3, nn] (q.2 ++ []) q.1)) (fun _ => rfl) (rg_bd1 h fun v3 hc h => rg_call (q := cvP s1 v3) (T_fM_in hc) ?_)
      refine rg_step 1 (G' := fun f => if v3 = 0 then evT f 376 36 [oR 549 0, oI a1, oI a2, oI a3, nn] [] s1 else evT f 376 39 [oR 549 0, oI a1, oI a2, oI a3, nn] [] s1) (fun _ => rfl) (rg_if h (fun h => ?_) fun h => ?_)
      · exact rg_end 2 (fun _ => rfl) (by cases h; rfl)
      · refine rg_step 4 (G' := fun f => ev_after (evT f 375 0 [oR 549 0, oI a1, oI a2, nn, nn, nn, nn] [] s1) (fun q => evT f 376 45 [oR 549 0, oI a1, oI a2, oI a3, nn] (q.2 ++ []) q.1)) (fun _ => rfl) (rg_bd2 h fun s4 v5 hc h => rg_call (q := cvI (s4, v5)) (T_fM_effectiveOf hc) ?_)
        refine rg_step 3 (G' := fun f => if a3 = 0 then evT f 376 58 [oR 549 0, oI a1, oI a2, oI a3, oI v5] [] s4 else evT f 376 51 [oR 549 0, oI a1, oI a2, oI a3, oI v5] [] s4) (fun _ => rfl) (rg_if h (fun h => ?_) fun h => ?_)
        · exact rg_end 2 (fun _ => rfl) (by cases h; rfl)
        · exact rg_end 4 (fun _ => rfl) (by cases h; rfl)
  · exact rg_end 2 (fun _ => rfl) (by cases h; rfl)
theorem T_fM_effective {s : ev_M} {a1 : Int32} {a2 : Int32} {q : ev_M × Int32} (h : fM_effective s a1 a2 = some q) : RR 377 0 [oR 549 0, oI a1, oI a2] [] s (cvI q) := by
  refine rg_step 5 (G' := fun f => ev_after (evT f 376 0 [oR 549 0, oI a1, oI a2, oI (cI 0), nn] [] s) (fun q => evT f 377 7 [oR 549 0, oI a1, oI a2] (q.2 ++ []) q.1)) (fun _ => rfl) (rg_bd2 h fun s1 v2 hc h => rg_call (q := cvI (s1, v2)) (T_fM_ask hc) ?_)
  exact rg_end 1 (fun _ => rfl) (by cases h; rfl)
theorem t_fPH_lastPoint_b35 {s : ev_M} {x3 : Int32} {j0 : Option ev_V} {j1 : Option ev_V} {j2 : Option ev_V} {q : ev_M × Int32} (h : fPH_lastPoint_b35 s x3 = some q) : RR 240 35 [j0, j1, j2, oI x3] [] s (cvI q) := by
  exact rg_end 3 (fun _ => rfl) (by cases h; rfl)
theorem T_fPH_lastPoint {s : ev_M} {a1 : Int32} {a2 : Int32} {q : ev_M × Int32} (h : fPH_lastPoint s a1 a2 = some q) : RR 240 0 [oR 0 0, oI a1, oI a2, nn] [] s (cvI q) := by
  refine rg_step 4 (G' := fun f => if (s.1 9 9) = 0 then evT f 240 13 [oR 0 0, oI a1, oI a2, nn] [] s else evT f 240 10 [oR 0 0, oI a1, oI a2, nn] [] s) (fun _ => rfl) (rg_if h (fun h => ?_) fun h => ?_)
  · refine rg_step 5 (G' := fun f => ev_after (evT f 36 0 [oR 30 0, oI a1, oI a2] [] s) (fun q => evT f 240 22 [oR 0 0, oI a1, oI a2, nn] (q.2 ++ []) q.1)) (fun _ => rfl) (rg_bd2 h fun s1 v2 hc h => rg_call (q := cvI (s1, v2)) (T_fBook_askedGoal hc) ?_)
    refine rg_step 4 (G' := fun f => if v2 = (cI (-101)) then evT f 240 35 [oR 0 0, oI a1, oI a2, oI v2] [] s1 else evT f 240 29 [oR 0 0, oI a1, oI a2, oI v2] [] s1) (fun _ => rfl) (rg_if h (fun h => ?_) fun h => ?_)
    · exact (t_fPH_lastPoint_b35) h
    · refine rg_step 3 (G' := fun f => if v2 = (cI (-102)) then evT f 240 35 [oR 0 0, oI a1, oI a2, oI v2] [] s1 else evT f 240 39 [oR 0 0, oI a1, oI a2, oI v2] [] s1) (fun _ => rfl) (rg_if h (fun h => ?_) fun h => ?_)
      · exact (t_fPH_lastPoint_b35) h
      · exact rg_end 4 (fun _ => rfl) (by cases h; rfl)
  · exact rg_end 2 (fun _ => rfl) (by cases h; rfl)
theorem T_fM_lastPoint {s : ev_M} {a1 : Int32} {a2 : Int32} {q : ev_M × Int32} (h : fM_lastPoint s a1 a2 = some q) : RR 378 0 [oR 549 0, oI a1, oI a2] [] s (cvI q) := by
  refine rg_step 5 (G' := fun f => ev_after (evT f 376 0 [oR 549 0, oI a1, oI a2, oI (cI 1), nn] [] s) (fun q => evT f 378 7 [oR 549 0, oI a1, oI a2] (q.2 ++ []) q.1)) (fun _ => rfl) (rg_bd2 h fun s1 v2 hc h => rg_call (q := cvI (s1, v2)) (T_fM_ask hc) ?_)
  exact rg_end 1 (fun _ => rfl) (by cases h; rfl)
theorem T_fPH_find {s : ev_M} {a1 : Int32} {q : Int32} (h : fPH_find s a1 = some q) : RR 241 0 [oR 0 0, oI a1] [] s (cvP s q) := by
  refine rg_step 4 (G' := fun f => if (s.1 9 9) = 0 then evT f 241 15 [oR 0 0, oI a1] [] s else evT f 241 10 [oR 0 0, oI a1] [] s) (fun _ => rfl) (rg_if h (fun h => ?_) fun h => ?_)
  · refine rg_step 4 (G' := fun f => ev_after (evT f 22 0 [oR 30 0, oI a1, nn] [] s) (fun q => evT f 241 23 [oR 0 0, oI a1] (q.2 ++ []) q.1)) (fun _ => rfl) (rg_bd1 h fun v1 hc h => rg_call (q := cvP s v1) (T_fBook_placeOf hc) ?_)
    exact rg_end 1 (fun _ => rfl) (by cases h; rfl)
  · exact rg_end 3 (fun _ => rfl) (by cases h; rfl)
theorem T_fM_find {s : ev_M} {a1 : Int32} {q : ev_M × Int32} (h : fM_find s a1 = some q) : RR 379 0 [oR 549 0, oI a1] [] s (cvI q) := by
  refine rg_step 3 (G' := fun f => evT f 379 5 [oR 549 0, oI a1] [] (wI s 549 0 (cI 0))) (fun _ => rfl) (rg_ltM h fun s1 h => ?_)
  refine rg_step 3 (G' := fun f => if (s1.1 549 5) = 0 then evT f 379 17 [oR 549 0, oI a1] [] s1 else evT f 379 12 [oR 549 0, oI a1] [] s1) (fun _ => rfl) (rg_if h (fun h => ?_) fun h => ?_)
  · refine rg_step 3 (G' := fun f => ev_after (evT f 360 0 [oR 549 0, oI a1, nn, nn] [] s1) (fun q => evT f 379 22 [oR 549 0, oI a1] (q.2 ++ []) q.1)) (fun _ => rfl) (rg_bd1 h fun v2 hc h => rg_call (q := cvP s1 v2) (T_fM_placeWith hc) ?_)
    exact rg_end 1 (fun _ => rfl) (by cases h; rfl)
  · exact rg_end 3 (fun _ => rfl) (by cases h; rfl)
theorem T_fRounds_roundOf {s : ev_M} {a1 : Int32} {q : Int32} (h : fRounds_roundOf s a1 = some q) : RR 169 0 [oR 138 0, oI a1] [] s (cvP s q) := by
  refine rg_step 4 (G' := fun f => if inb a1 120 = true then evT f 169 6 [oR 138 0, oI a1] [vI (s.1 158 (ix a1))] s else none) (fun _ => rfl) (rg_gd h fun h => ?_)
  exact rg_end 1 (fun _ => rfl) (by cases h; rfl)
theorem T_fBook_tellPoint {s : ev_M} {a1 : Int32} {a2 : Int32} {q : Int32} (h : fBook_tellPoint s a1 a2 = some q) : RR 29 0 [oR 30 0, oI a1, oI a2] [] s (cvP s q) := by
  refine rg_step 2 (G' := fun f => if a2 = cI 0 then evT f 29 36 [oR 30 0, oI a1, oI a2] [] s else if a2 = cI 1 then evT f 29 45 [oR 30 0, oI a1, oI a2] [] s else if a2 = cI 2 then evT f 29 54 [oR 30 0, oI a1, oI a2] [] s else if a2 = cI 3 then evT f 29 60 [oR 30 0, oI a1, oI a2] [] s else if a2 = cI 4 then evT f 29 66 [oR 30 0, oI a1, oI a2] [] s else evT f 29 72 [oR 30 0, oI a1, oI a2] [] s) (fun _ => rfl) ?_
  refine rg_if h (fun h => ?_) fun h => ?_
  · refine rg_step 6 (G' := fun f => if inb a1 120 = true then evT f 29 44 [oR 30 0, oI a1, oI a2] [vI (s.1 (44 + (ix (cI 0))) (ix a1))] s else none) (fun _ => rfl) (rg_gd h fun h => ?_)
    exact rg_end 1 (fun _ => rfl) (by cases h; rfl)
  refine rg_if h (fun h => ?_) fun h => ?_
  · refine rg_step 6 (G' := fun f => if inb a1 120 = true then evT f 29 53 [oR 30 0, oI a1, oI a2] [vI (s.1 (44 + (ix (cI 1))) (ix a1))] s else none) (fun _ => rfl) (rg_gd h fun h => ?_)
    exact rg_end 1 (fun _ => rfl) (by cases h; rfl)
  refine rg_if h (fun h => ?_) fun h => ?_
  · refine rg_step 3 (G' := fun f => ev_after (evT f 31 0 [oR 30 0, oI a1, nn, nn, nn] [] s) (fun q => evT f 29 59 [oR 30 0, oI a1, oI a2] (q.2 ++ []) q.1)) (fun _ => rfl) (rg_bd1 h fun v1 hc h => rg_call (q := cvP s v1) (T_fBook_xOf hc) ?_)
    exact rg_end 1 (fun _ => rfl) (by cases h; rfl)
  refine rg_if h (fun h => ?_) fun h => ?_
  · refine rg_step 3 (G' := fun f => ev_after (evT f 32 0 [oR 30 0, oI a1, nn, nn, nn] [] s) (fun q => evT f 29 65 [oR 30 0, oI a1, oI a2] (q.2 ++ []) q.1)) (fun _ => rfl) (rg_bd1 h fun v2 hc h => rg_call (q := cvP s v2) (T_fBook_yOf hc) ?_)
    exact rg_end 1 (fun _ => rfl) (by cases h; rfl)
  refine rg_if h (fun h => ?_) fun h => ?_
  · refine rg_step 3 (G' := fun f => ev_after (evT f 30 0 [oR 30 0, oI a1] [] s) (fun q => evT f 29 71 [oR 30 0, oI a1, oI a2] (q.2 ++ []) q.1)) (fun _ => rfl) (rg_bd1 h fun v3 hc h => rg_call (q := cvP s v3) (T_fBook_placeOfPoint hc) ?_)
    exact rg_end 1 (fun _ => rfl) (by cases h; rfl)
  exact rg_end 2 (fun _ => rfl) (by cases h; rfl)
theorem T_fPH_pointAt {s : ev_M} {a1 : Int32} {a2 : Int32} {q : Int32} (h : fPH_pointAt s a1 a2 = some q) : RR 242 0 [oR 0 0, oI a1, oI a2] [] s (cvP s q) := by
  refine rg_step 4 (G' := fun f => if (s.1 9 9) = 0 then evT f 242 13 [oR 0 0, oI a1, oI a2] [] s else evT f 242 10 [oR 0 0, oI a1, oI a2] [] s) (fun _ => rfl) (rg_if h (fun h => ?_) fun h => ?_)
  · refine rg_step 4 (G' := fun f => ev_after (evT f 28 0 [oR 30 0, oI a1] [] s) (fun q => evT f 242 21 [oR 0 0, oI a1, oI a2] (q.2 ++ []) q.1)) (fun _ => rfl) (rg_bd1 h fun v1 hc h => rg_call (q := cvP s v1) (T_fBook_hasPoint hc) ?_)
    refine rg_step 1 (G' := fun f => if v1 = 0 then evT f 242 24 [oR 0 0, oI a1, oI a2] [] s else evT f 242 27 [oR 0 0, oI a1, oI a2] [] s) (fun _ => rfl) (rg_if h (fun h => ?_) fun h => ?_)
    · exact rg_end 2 (fun _ => rfl) (by cases h; rfl)
    · refine rg_step 3 (G' := fun f => if a2 = (cI 5) then evT f 242 32 [oR 0 0, oI a1, oI a2] [] s else evT f 242 43 [oR 0 0, oI a1, oI a2] [] s) (fun _ => rfl) (rg_if h (fun h => ?_) fun h => ?_)
      · refine rg_step 4 (G' := fun f => ev_after (evT f 169 0 [oR 138 0, oI a1] [] s) (fun q => evT f 242 40 [oR 0 0, oI a1, oI a2] (q.2 ++ []) q.1)) (fun _ => rfl) (rg_bd1 h fun v2 hc h => rg_call (q := cvP s v2) (T_fRounds_roundOf hc) ?_)
        exact rg_end 2 (fun _ => rfl) (by cases h; rfl)
      · refine rg_step 5 (G' := fun f => ev_after (evT f 29 0 [oR 30 0, oI a1, oI a2] [] s) (fun q => evT f 242 52 [oR 0 0, oI a1, oI a2] (q.2 ++ []) q.1)) (fun _ => rfl) (rg_bd1 h fun v3 hc h => rg_call (q := cvP s v3) (T_fBook_tellPoint hc) ?_)
        exact rg_end 1 (fun _ => rfl) (by cases h; rfl)
  · exact rg_end 2 (fun _ => rfl) (by cases h; rfl)
theorem T_fM_pointAt {s : ev_M} {a1 : Int32} {a2 : Int32} {q : ev_M × Int32} (h : fM_pointAt s a1 a2 = some q) : RR 382 0 [oR 549 0, oI a1, oI a2] [] s (cvI q) := by
  refine rg_step 3 (G' := fun f => evT f 382 5 [oR 549 0, oI a1, oI a2] [] (wI s 549 0 (cI 0))) (fun _ => rfl) (rg_ltM h fun s1 h => ?_)
  refine rg_step 3 (G' := fun f => if (s1.1 549 5) = 0 then evT f 382 15 [oR 549 0, oI a1, oI a2] [] s1 else evT f 382 12 [oR 549 0, oI a1, oI a2] [] s1) (fun _ => rfl) (rg_if h (fun h => ?_) fun h => ?_)
  · refine rg_step 3 (G' := fun f => ev_after (evT f 341 0 [oR 549 0, oI a1] [] s1) (fun q => evT f 382 20 [oR 549 0, oI a1, oI a2] (q.2 ++ []) q.1)) (fun _ => rfl) (rg_bd1 h fun v2 hc h => rg_call (q := cvP s1 v2) (T_fM_isPoint hc) ?_)
    refine rg_step 1 (G' := fun f => if v2 = 0 then evT f 382 23 [oR 549 0, oI a1, oI a2] [] s1 else evT f 382 26 [oR 549 0, oI a1, oI a2] [] s1) (fun _ => rfl) (rg_if h (fun h => ?_) fun h => ?_)
    · exact rg_end 2 (fun _ => rfl) (by cases h; rfl)
    · refine rg_step 2 (G' := fun f => if a2 = cI 0 then evT f 382 64 [oR 549 0, oI a1, oI a2] [] s1 else if a2 = cI 1 then evT f 382 71 [oR 549 0, oI a1, oI a2] [] s1 else if a2 = cI 2 then evT f 382 78 [oR 549 0, oI a1, oI a2] [] s1 else if a2 = cI 3 then evT f 382 84 [oR 549 0, oI a1, oI a2] [] s1 else if a2 = cI 4 then evT f 382 90 [oR 549 0, oI a1, oI a2] [] s1 else if a2 = cI 5 then evT f 382 96 [oR 549 0, oI a1, oI a2] [] s1 else evT f 382 103 [oR 549 0, oI a1, oI a2] [] s1) (fun _ => rfl) ?_
      refine rg_if h (fun h => ?_) fun h => ?_
      · refine rg_step 4 (G' := fun f => if inb a1 120 = true then evT f 382 70 [oR 549 0, oI a1, oI a2] [vI (s1.1 569 (ix a1))] s1 else none) (fun _ => rfl) (rg_gd h fun h => ?_)
        exact rg_end 1 (fun _ => rfl) (by cases h; rfl)
      refine rg_if h (fun h => ?_) fun h => ?_
      · refine rg_step 4 (G' := fun f => if inb a1 120 = true then evT f 382 77 [oR 549 0, oI a1, oI a2] [vI (s1.1 570 (ix a1))] s1 else none) (fun _ => rfl) (rg_gd h fun h => ?_)
        exact rg_end 1 (fun _ => rfl) (by cases h; rfl)
      refine rg_if h (fun h => ?_) fun h => ?_
      · refine rg_step 3 (G' := fun f => ev_after (evT f 380 0 [oR 549 0, oI a1, nn, nn] [] s1) (fun q => evT f 382 83 [oR 549 0, oI a1, oI a2] (q.2 ++ []) q.1)) (fun _ => rfl) (rg_bd1 h fun v3 hc h => rg_call (q := cvP s1 v3) (T_fM_xOf hc) ?_)
        exact rg_end 1 (fun _ => rfl) (by cases h; rfl)
      refine rg_if h (fun h => ?_) fun h => ?_
      · refine rg_step 3 (G' := fun f => ev_after (evT f 381 0 [oR 549 0, oI a1, nn, nn] [] s1) (fun q => evT f 382 89 [oR 549 0, oI a1, oI a2] (q.2 ++ []) q.1)) (fun _ => rfl) (rg_bd1 h fun v4 hc h => rg_call (q := cvP s1 v4) (T_fM_yOf hc) ?_)
        exact rg_end 1 (fun _ => rfl) (by cases h; rfl)
      refine rg_if h (fun h => ?_) fun h => ?_
      · refine rg_step 3 (G' := fun f => ev_after (evT f 348 0 [oR 549 0, oI a1] [] s1) (fun q => evT f 382 95 [oR 549 0, oI a1, oI a2] (q.2 ++ []) q.1)) (fun _ => rfl) (rg_bd1 h fun v5 hc h => rg_call (q := cvP s1 v5) (T_fM_placeOf hc) ?_)
        exact rg_end 1 (fun _ => rfl) (by cases h; rfl)
      refine rg_if h (fun h => ?_) fun h => ?_
      · refine rg_step 4 (G' := fun f => if inb a1 120 = true then evT f 382 102 [oR 549 0, oI a1, oI a2] [vI (s1.1 571 (ix a1))] s1 else none) (fun _ => rfl) (rg_gd h fun h => ?_)
        exact rg_end 1 (fun _ => rfl) (by cases h; rfl)
      exact rg_end 2 (fun _ => rfl) (by cases h; rfl)
  · exact rg_end 2 (fun _ => rfl) (by cases h; rfl)
theorem T_fPH_sheet {s : ev_M} {a1 : Int32} {q : ev_M × Int32} (h : fPH_sheet s a1 = some q) : RR 243 0 [oR 0 0, oI a1, nn] [] s (cvI q) := by
  refine rg_step 10 (G' := fun f => ev_after (evT f 122 0 [oR 9 0, oI (cI 4), oI a1, oI (cI 0), oI (cI 0), oI (cI 0), oI (cI 0), oI (cI 0)] [] s) (fun q => evT f 243 14 [oR 0 0, oI a1, nn] (q.2 ++ []) q.1)) (fun _ => rfl) (rg_bd2 h fun s1 v2 hc h => rg_call (q := cvI (s1, v2)) (T_fLog_stages hc) ?_)
  refine rg_step 1 (G' := fun f => if v2 = 0 then evT f 243 17 [oR 0 0, oI a1, nn] [] s1 else evT f 243 20 [oR 0 0, oI a1, nn] [] s1) (fun _ => rfl) (rg_if h (fun h => ?_) fun h => ?_)
  · exact rg_end 2 (fun _ => rfl) (by cases h; rfl)
  · refine rg_step 4 (G' := fun f => ev_after (evT f 302 0 [oR 0 0, oR 1 0, nn, nn, nn, nn, nn, nn] [] s1) (fun q => evT f 243 28 [oR 0 0, oI a1, nn] (q.2 ++ []) q.1)) (fun _ => rfl) (rg_bd2 h fun s3 v4 hc h => rg_call (q := cvI (s3, v4)) (T_fPH_act_1 hc) ?_)
    refine rg_step 5 (G' := fun f => evT f 243 37 [oR 0 0, oI a1, oI v4] [] (wI s3 1 1 (cI 0))) (fun _ => rfl) (rg_ltM h fun s5 h => ?_)
    exact rg_end 2 (fun _ => rfl) (by cases h; rfl)
theorem T_fM_sheet {s : ev_M} {a1 : Int32} {q : ev_M × Int32} (h : fM_sheet s a1 = some q) : RR 399 0 [oR 549 0, oI a1] [] s (cvI q) := by
  refine rg_step 4 (G' := fun f => ev_after (evT f 319 0 [oR 549 0, oI (cI 4), oI a1] [] s) (fun q => evT f 399 6 [oR 549 0, oI a1] (q.2 ++ []) q.1)) (fun _ => rfl) (rg_bd2 h fun s1 v2 hc h => rg_call (q := cvI (s1, v2)) (T_fM_call1 hc) ?_)
  exact rg_end 1 (fun _ => rfl) (by cases h; rfl)
theorem T_fPH_read {s : ev_M} {q : Int32} (h : fPH_read s = some q) : RR 244 0 [oR 0 0] [] s (cvP s q) := by
  refine rg_step 4 (G' := fun f => if (s.1 9 9) = 0 then evT f 244 15 [oR 0 0] [] s else evT f 244 10 [oR 0 0] [] s) (fun _ => rfl) (rg_if h (fun h => ?_) fun h => ?_)
  · exact rg_end 4 (fun _ => rfl) (by cases h; rfl)
  · exact rg_end 3 (fun _ => rfl) (by cases h; rfl)
theorem T_fM_read {s : ev_M} {q : ev_M × Int32} (h : fM_read s = some q) : RR 400 0 [oR 549 0] [] s (cvI q) := by
  refine rg_step 3 (G' := fun f => evT f 400 5 [oR 549 0] [] (wI s 549 0 (cI 0))) (fun _ => rfl) (rg_ltM h fun s1 h => ?_)
  refine rg_step 3 (G' := fun f => if (s1.1 549 5) = 0 then evT f 400 17 [oR 549 0] [] s1 else evT f 400 12 [oR 549 0] [] s1) (fun _ => rfl) (rg_if h (fun h => ?_) fun h => ?_)
  · refine rg_step 3 (G' := fun f => if (s1.1 549 48) = 0 then evT f 400 31 [oR 549 0] [] s1 else evT f 400 24 [oR 549 0] [] s1) (fun _ => rfl) (rg_if h (fun h => ?_) fun h => ?_)
    · exact rg_end 2 (fun _ => rfl) (by cases h; rfl)
    · exact rg_end 4 (fun _ => rfl) (by cases h; rfl)
  · exact rg_end 3 (fun _ => rfl) (by cases h; rfl)
theorem T_fSheet_tellLine {s : ev_M} {a1 : Int32} {a2 : Int32} {q : Int32} (h : fSheet_tellLine s a1 a2 = some q) : RR 219 0 [oR 52 0, oI a1, oI a2] [] s (cvP s q) := by
  refine rg_step 4 (G' := fun f => ev_after (evT f 308 0 [oI a2, oI (cI 0), oI (cI 2)] [] s) (fun q => evT f 219 6 [oR 52 0, oI a1, oI a2] (q.2 ++ []) q.1)) (fun _ => rfl) (rg_bd1 h fun v1 hc h => rg_call (q := cvP s v1) (T_fPH_outside hc) ?_)
  refine rg_step 1 (G' := fun f => if v1 = 0 then evT f 219 12 [oR 52 0, oI a1, oI a2] [] s else evT f 219 9 [oR 52 0, oI a1, oI a2] [] s) (fun _ => rfl) (rg_if h (fun h => ?_) fun h => ?_)
  · refine rg_step 7 (G' := fun f => ev_after (evT f 308 0 [oI a1, oI (cI 0), oI ((s.1 52 13) - (cI 1))] [] s) (fun q => evT f 219 23 [oR 52 0, oI a1, oI a2] (q.2 ++ []) q.1)) (fun _ => rfl) (rg_bd1 h fun v2 hc h => rg_call (q := cvP s v2) (T_fPH_outside hc) ?_)
    refine rg_step 1 (G' := fun f => if v2 = 0 then evT f 219 30 [oR 52 0, oI a1, oI a2] [] s else evT f 219 26 [oR 52 0, oI a1, oI a2] [] s) (fun _ => rfl) (rg_if h (fun h => ?_) fun h => ?_)
    · refine rg_step 4 (G' := fun f => if inb a2 4 = true then evT f 219 36 [oR 52 0, oI a1, oI a2] [vR 63 (ix a2)] s else none) (fun _ => rfl) (rg_gd h fun h => ?_)
      refine rg_step 2 (G' := fun f => if inb a1 10 = true then evT f 219 38 [oR 52 0, oI a1, oI a2] [vI (s.1 (63 + (ix a2)) (ix a1))] s else none) (fun _ => rfl) (rg_gd h fun h => ?_)
      exact rg_end 1 (fun _ => rfl) (by cases h; rfl)
    · exact rg_end 3 (fun _ => rfl) (by cases h; rfl)
  · exact rg_end 2 (fun _ => rfl) (by cases h; rfl)
theorem T_fPH_textLine {s : ev_M} {a1 : Int32} {a2 : Int32} {q : Int32} (h : fPH_textLine s a1 a2 = some q) : RR 245 0 [oR 0 0, oI a1, oI a2] [] s (cvP s q) := by
  refine rg_step 4 (G' := fun f => if (s.1 9 9) = 0 then evT f 245 15 [oR 0 0, oI a1, oI a2] [] s else evT f 245 10 [oR 0 0, oI a1, oI a2] [] s) (fun _ => rfl) (rg_if h (fun h => ?_) fun h => ?_)
  · refine rg_step 5 (G' := fun f => ev_after (evT f 219 0 [oR 52 0, oI a1, oI a2] [] s) (fun q => evT f 245 24 [oR 0 0, oI a1, oI a2] (q.2 ++ []) q.1)) (fun _ => rfl) (rg_bd1 h fun v1 hc h => rg_call (q := cvP s v1) (T_fSheet_tellLine hc) ?_)
    exact rg_end 1 (fun _ => rfl) (by cases h; rfl)
  · exact rg_end 3 (fun _ => rfl) (by cases h; rfl)
theorem t_fM_textLine_b120 {k60 : ev_M → Int32 → Int32 → Int32 → Int32 → Int32 → Option (ev_M × Int32)} (hk60 : ∀ {s : ev_M} {x1 : Int32} {x2 : Int32} {x3 : Int32} {x4 : Int32} {x5 : Int32} {q : ev_M × Int32}, k60 s x1 x2 x3 x4 x5 = some q → RR 401 60 [oR 549 0, oI x1, oI x2, oI x3, oI x4, oI x5] [] s (cvI q)) {s : ev_M} {x1 : Int32} {x2 : Int32} {x3 : Int32} {x5 : Int32} {y0 : Int32} {j4 : Option ev_V} {q : ev_M × Int32} (h : fM_textLine_b120 k60 s x1 x2 x3 x5 y0 = some q) : RR 401 120 [oR 549 0, oI x1, oI x2, oI x3, j4, oI x5] [vI y0] s (cvI q) := by
  exact rg_step 3 (G' := fun f => evT f 401 60 [oR 549 0, oI x1, oI x2, oI x3, oI y0, oI (x5 + cI 1)] [] s) (fun _ => rfl) (hk60 h)
theorem t_fM_textLine_b95 {k60 : ev_M → Int32 → Int32 → Int32 → Int32 → Int32 → Option (ev_M × Int32)} (hk60 : ∀ {s : ev_M} {x1 : Int32} {x2 : Int32} {x3 : Int32} {x4 : Int32} {x5 : Int32} {q : ev_M × Int32}, k60 s x1 x2 x3 x4 x5 = some q → RR 401 60 [oR 549 0, oI x1, oI x2, oI x3, oI x4, oI x5] [] s (cvI q)) {s : ev_M} {x1 : Int32} {x2 : Int32} {x4 : Int32} {x5 : Int32} {y0 : Int32} {j3 : Option ev_V} {q : ev_M × Int32} (h : fM_textLine_b95 k60 s x1 x2 x4 x5 y0 = some q) : RR 401 95 [oR 549 0, oI x1, oI x2, j3, oI x4, oI x5] [vI y0] s (cvI q) := by
  refine rg_step 5 (G' := fun f => if inb x5 200 = true then evT f 401 103 [oR 549 0, oI x1, oI x2, oI y0, oI x4, oI x5] [vI (s.1 578 (ix x5))] s else none) (fun _ => rfl) (rg_gd h fun h => ?_)
  refine rg_step 2 (G' := fun f => if (s.1 578 (ix x5)) < x4 then evT f 401 108 [oR 549 0, oI x1, oI x2, oI y0, oI x4, oI x5] [] s else evT f 401 118 [oR 549 0, oI x1, oI x2, oI y0, oI x4, oI x5] [] s) (fun _ => rfl) (rg_if h (fun h => ?_) fun h => ?_)
  · refine rg_step 4 (G' := fun f => if inb x5 200 = true then evT f 401 115 [oR 549 0, oI x1, oI x2, oI y0, oI x4, oI x5] [vI (s.1 578 (ix x5))] s else none) (fun _ => rfl) (rg_gd h fun h => ?_)
    exact rg_step 1 (G' := fun f => evT f 401 120 [oR 549 0, oI x1, oI x2, oI y0, oI x4, oI x5] [vI (s.1 578 (ix x5))] s) (fun _ => rfl) ((t_fM_textLine_b120 hk60) h)
  · exact rg_step 1 (G' := fun f => evT f 401 120 [oR 549 0, oI x1, oI x2, oI y0, oI x4, oI x5] [vI x4] s) (fun _ => rfl) ((t_fM_textLine_b120 hk60) h)
theorem ti_fM_textLine_h60 : ∀ (n : Nat) (s : ev_M) (x1 : Int32) (x2 : Int32) (x3 : Int32) (x4 : Int32) (x5 : Int32) (q : ev_M × Int32), fM_textLine_h60 n s x1 x2 x3 x4 x5 = some q → RR 401 60 [oR 549 0, oI x1, oI x2, oI x3, oI x4, oI x5] [] s (cvI q) := by
  intro n
  induction n with
  | zero => intro s x1 x2 x3 x4 x5 q h; cases h
  | succ n ih =>
    have hk60 : ∀ {s : ev_M} {x1 : Int32} {x2 : Int32} {x3 : Int32} {x4 : Int32} {x5 : Int32} {q : ev_M × Int32}, fM_textLine_h60 n s x1 x2 x3 x4 x5 = some q → RR 401 60 [oR 549 0, oI x1, oI x2, oI x3, oI x4, oI x5] [] s (cvI q) := fun h => ih _ _ _ _ _ _ _ h
    intro s x1 x2 x3 x4 x5 q h
    refine rg_step 7 (G' := fun f => if inb (x1 + (cI 1)) 11 = true then evT f 401 70 [oR 549 0, oI x1, oI x2, oI x3, oI x4, oI x5] [vI (s.1 577 (ix (x1 + (cI 1)))), vI x5] s else none) (fun _ => rfl) (rg_gd h fun h => ?_)
    refine rg_step 1 (G' := fun f => if x5 < (s.1 577 (ix (x1 + (cI 1)))) then evT f 401 73 [oR 549 0, oI x1, oI x2, oI x3, oI x4, oI x5] [] s else evT f 401 128 [oR 549 0, oI x1, oI x2, oI x3, oI x4, oI x5] [] s) (fun _ => rfl) (rg_if h (fun h => ?_) fun h => ?_)
    · refine rg_step 4 (G' := fun f => if inb x5 200 = true then evT f 401 80 [oR 549 0, oI x1, oI x2, oI x3, oI x4, oI x5] [vI (s.1 579 (ix x5))] s else none) (fun _ => rfl) (rg_gd h fun h => ?_)
      refine rg_step 2 (G' := fun f => if (s.1 579 (ix x5)) < x3 then evT f 401 84 [oR 549 0, oI x1, oI x2, oI x3, oI x4, oI x5] [] s else evT f 401 94 [oR 549 0, oI x1, oI x2, oI x3, oI x4, oI x5] [] s) (fun _ => rfl) (rg_if h (fun h => ?_) fun h => ?_)
      · refine rg_step 4 (G' := fun f => if inb x5 200 = true then evT f 401 91 [oR 549 0, oI x1, oI x2, oI x3, oI x4, oI x5] [vI (s.1 579 (ix x5))] s else none) (fun _ => rfl) (rg_gd h fun h => ?_)
        exact rg_step 1 (G' := fun f => evT f 401 95 [oR 549 0, oI x1, oI x2, oI x3, oI x4, oI x5] [vI (s.1 579 (ix x5))] s) (fun _ => rfl) ((t_fM_textLine_b95 hk60) h)
      · exact rg_step 1 (G' := fun f => evT f 401 95 [oR 549 0, oI x1, oI x2, oI x3, oI x4, oI x5] [vI x3] s) (fun _ => rfl) ((t_fM_textLine_b95 hk60) h)
    · refine rg_step 2 (G' := fun f => if x2 = 0 then evT f 401 132 [oR 549 0, oI x1, oI x2, oI x3, oI x4, oI x5] [] s else evT f 401 150 [oR 549 0, oI x1, oI x2, oI x3, oI x4, oI x5] [] s) (fun _ => rfl) (rg_if h (fun h => ?_) fun h => ?_)
      · refine rg_step 6 (G' := fun f => if inb (x1 + (cI 1)) 11 = true then evT f 401 140 [oR 549 0, oI x1, oI x2, oI x3, oI x4, oI x5] [vI (s.1 577 (ix (x1 + (cI 1))))] s else none) (fun _ => rfl) (rg_gd h fun h => ?_)
        refine rg_step 4 (G' := fun f => if inb x1 11 = true then evT f 401 146 [oR 549 0, oI x1, oI x2, oI x3, oI x4, oI x5] [vI (s.1 577 (ix x1)), vI (s.1 577 (ix (x1 + (cI 1))))] s else none) (fun _ => rfl) (rg_gd h fun h => ?_)
        exact rg_end 3 (fun _ => rfl) (by cases h; rfl)
      · refine rg_step 3 (G' := fun f => if x2 = (cI 1) then evT f 401 155 [oR 549 0, oI x1, oI x2, oI x3, oI x4, oI x5] [] s else evT f 401 159 [oR 549 0, oI x1, oI x2, oI x3, oI x4, oI x5] [] s) (fun _ => rfl) (rg_if h (fun h => ?_) fun h => ?_)
        · exact rg_end 3 (fun _ => rfl) (by cases h; rfl)
        · exact rg_end 2 (fun _ => rfl) (by cases h; rfl)
theorem t_fM_textLine_h60 {n : Nat} {s : ev_M} {x1 : Int32} {x2 : Int32} {x3 : Int32} {x4 : Int32} {x5 : Int32} {q : ev_M × Int32} (h : fM_textLine_h60 n s x1 x2 x3 x4 x5 = some q) : RR 401 60 [oR 549 0, oI x1, oI x2, oI x3, oI x4, oI x5] [] s (cvI q) := ti_fM_textLine_h60 n s x1 x2 x3 x4 x5 q h
theorem T_fM_textLine {s : ev_M} {a1 : Int32} {a2 : Int32} {q : ev_M × Int32} (h : fM_textLine s a1 a2 = some q) : RR 401 0 [oR 549 0, oI a1, oI a2, nn, nn, nn] [] s (cvI q) := by
  refine rg_step 3 (G' := fun f => evT f 401 5 [oR 549 0, oI a1, oI a2, nn, nn, nn] [] (wI s 549 0 (cI 0))) (fun _ => rfl) (rg_ltM h fun s1 h => ?_)
  refine rg_step 3 (G' := fun f => if (s1.1 549 5) = 0 then evT f 401 15 [oR 549 0, oI a1, oI a2, nn, nn, nn] [] s1 else evT f 401 12 [oR 549 0, oI a1, oI a2, nn, nn, nn] [] s1) (fun _ => rfl) (rg_if h (fun h => ?_) fun h => ?_)
  · refine rg_step 4 (G' := fun f => ev_after (evT f 311 0 [oI a2, oI (cI 0), oI (cI 2)] [] s1) (fun q => evT f 401 21 [oR 549 0, oI a1, oI a2, nn, nn, nn] (q.2 ++ []) q.1)) (fun _ => rfl) (rg_bd1 h fun v2 hc h => rg_call (q := cvP s1 v2) (T_fM_in hc) ?_)
    refine rg_step 1 (G' := fun f => if v2 = 0 then evT f 401 24 [oR 549 0, oI a1, oI a2, nn, nn, nn] [] s1 else evT f 401 27 [oR 549 0, oI a1, oI a2, nn, nn, nn] [] s1) (fun _ => rfl) (rg_if h (fun h => ?_) fun h => ?_)
    · exact rg_end 2 (fun _ => rfl) (by cases h; rfl)
    · refine rg_step 7 (G' := fun f => ev_after (evT f 311 0 [oI a1, oI (cI 0), oI ((s1.1 549 51) - (cI 1))] [] s1) (fun q => evT f 401 38 [oR 549 0, oI a1, oI a2, nn, nn, nn] (q.2 ++ []) q.1)) (fun _ => rfl) (rg_bd1 h fun v3 hc h => rg_call (q := cvP s1 v3) (T_fM_in hc) ?_)
      refine rg_step 1 (G' := fun f => if v3 = 0 then evT f 401 41 [oR 549 0, oI a1, oI a2, nn, nn, nn] [] s1 else evT f 401 43 [oR 549 0, oI a1, oI a2, nn, nn, nn] [] s1) (fun _ => rfl) (rg_if h (fun h => ?_) fun h => ?_)
      · exact rg_end 2 (fun _ => rfl) (by cases h; rfl)
      · refine rg_step 8 (G' := fun f => if inb a1 11 = true then evT f 401 58 [oR 549 0, oI a1, oI a2, oI (cI 4096), oI (cI 4096), nn] [vI (s1.1 577 (ix a1))] s1 else none) (fun _ => rfl) (rg_gd h fun h => ?_)
        refine rg_step 1 (G' := fun f => evT f 401 60 [oR 549 0, oI a1, oI a2, oI (cI 4096), oI (cI 4096), oI (s1.1 577 (ix a1))] [] s1) (fun _ => rfl) (rg_ltI (P := fun v4 => RG (fun f => evT f 401 60 [oR 549 0, oI a1, oI a2, oI (cI 4096), oI (cI 4096), oI v4] [] s1) (cvI q)) h fun v4 h => ?_)
        exact (t_fM_textLine_h60) h
  · exact rg_end 2 (fun _ => rfl) (by cases h; rfl)
theorem T_fSheet_tellSign {s : ev_M} {a1 : Int32} {a2 : Int32} {a3 : Int32} {q : Int32} (h : fSheet_tellSign s a1 a2 a3 = some q) : RR 220 0 [oR 52 0, oI a1, oI a2, oI a3] [] s (cvP s q) := by
  refine rg_step 4 (G' := fun f => ev_after (evT f 308 0 [oI a3, oI (cI 0), oI (cI 7)] [] s) (fun q => evT f 220 7 [oR 52 0, oI a1, oI a2, oI a3] (q.2 ++ []) q.1)) (fun _ => rfl) (rg_bd1 h fun v1 hc h => rg_call (q := cvP s v1) (T_fPH_outside hc) ?_)
  refine rg_step 1 (G' := fun f => if v1 = 0 then evT f 220 13 [oR 52 0, oI a1, oI a2, oI a3] [] s else evT f 220 10 [oR 52 0, oI a1, oI a2, oI a3] [] s) (fun _ => rfl) (rg_if h (fun h => ?_) fun h => ?_)
  · refine rg_step 7 (G' := fun f => ev_after (evT f 308 0 [oI a1, oI (cI 0), oI ((s.1 52 13) - (cI 1))] [] s) (fun q => evT f 220 24 [oR 52 0, oI a1, oI a2, oI a3] (q.2 ++ []) q.1)) (fun _ => rfl) (rg_bd1 h fun v2 hc h => rg_call (q := cvP s v2) (T_fPH_outside hc) ?_)
    refine rg_step 1 (G' := fun f => if v2 = 0 then evT f 220 27 [oR 52 0, oI a1, oI a2, oI a3] [] s else evT f 220 45 [oR 52 0, oI a1, oI a2, oI a3] [] s) (fun _ => rfl) (rg_if h (fun h => ?_) fun h => ?_)
    · refine rg_step 8 (G' := fun f => if inb a1 10 = true then evT f 220 37 [oR 52 0, oI a1, oI a2, oI a3] [vI (s.1 (63 + (ix (cI 0))) (ix a1)), vI (cI 0), vI a2] s else none) (fun _ => rfl) (rg_gd h fun h => ?_)
      refine rg_step 3 (G' := fun f => ev_after (evT f 308 0 [oI a2, oI (cI 0), oI ((s.1 (63 + (ix (cI 0))) (ix a1)) - (cI 1))] [] s) (fun q => evT f 220 42 [oR 52 0, oI a1, oI a2, oI a3] (q.2 ++ []) q.1)) (fun _ => rfl) (rg_bd1 h fun v3 hc h => rg_call (q := cvP s v3) (T_fPH_outside hc) ?_)
      refine rg_step 1 (G' := fun f => if v3 = 0 then evT f 220 47 [oR 52 0, oI a1, oI a2, oI a3] [] s else evT f 220 45 [oR 52 0, oI a1, oI a2, oI a3] [] s) (fun _ => rfl) (rg_if h (fun h => ?_) fun h => ?_)
      · refine rg_step 4 (G' := fun f => if inb a3 8 = true then evT f 220 53 [oR 52 0, oI a1, oI a2, oI a3] [vR 68 (ix a3)] s else none) (fun _ => rfl) (rg_gd h fun h => ?_)
        refine rg_step 6 (G' := fun f => if inb a1 10 = true then evT f 220 61 [oR 52 0, oI a1, oI a2, oI a3] [vI (s.1 (63 + (ix (cI 3))) (ix a1)), vR 68 (ix a3)] s else none) (fun _ => rfl) (rg_gd h fun h => ?_)
        refine rg_step 3 (G' := fun f => if inb ((s.1 (63 + (ix (cI 3))) (ix a1)) + a2) 200 = true then evT f 220 64 [oR 52 0, oI a1, oI a2, oI a3] [vI (s.1 (68 + (ix a3)) (ix ((s.1 (63 + (ix (cI 3))) (ix a1)) + a2)))] s else none) (fun _ => rfl) (rg_gd h fun h => ?_)
        exact rg_end 1 (fun _ => rfl) (by cases h; rfl)
      · exact rg_end 2 (fun _ => rfl) (by cases h; rfl)
    · exact rg_end 2 (fun _ => rfl) (by cases h; rfl)
  · exact rg_end 2 (fun _ => rfl) (by cases h; rfl)
theorem T_fPH_sign {s : ev_M} {a1 : Int32} {a2 : Int32} {a3 : Int32} {q : Int32} (h : fPH_sign s a1 a2 a3 = some q) : RR 246 0 [oR 0 0, oI a1, oI a2, oI a3] [] s (cvP s q) := by
  refine rg_step 4 (G' := fun f => if (s.1 9 9) = 0 then evT f 246 15 [oR 0 0, oI a1, oI a2, oI a3] [] s else evT f 246 10 [oR 0 0, oI a1, oI a2, oI a3] [] s) (fun _ => rfl) (rg_if h (fun h => ?_) fun h => ?_)
  · refine rg_step 6 (G' := fun f => ev_after (evT f 220 0 [oR 52 0, oI a1, oI a2, oI a3] [] s) (fun q => evT f 246 25 [oR 0 0, oI a1, oI a2, oI a3] (q.2 ++ []) q.1)) (fun _ => rfl) (rg_bd1 h fun v1 hc h => rg_call (q := cvP s v1) (T_fSheet_tellSign hc) ?_)
    exact rg_end 1 (fun _ => rfl) (by cases h; rfl)
  · exact rg_end 3 (fun _ => rfl) (by cases h; rfl)
theorem T_fM_sign {s : ev_M} {a1 : Int32} {a2 : Int32} {a3 : Int32} {q : ev_M × Int32} (h : fM_sign s a1 a2 a3 = some q) : RR 402 0 [oR 549 0, oI a1, oI a2, oI a3, nn] [] s (cvI q) := by
  refine rg_step 3 (G' := fun f => evT f 402 5 [oR 549 0, oI a1, oI a2, oI a3, nn] [] (wI s 549 0 (cI 0))) (fun _ => rfl) (rg_ltM h fun s1 h => ?_)
  refine rg_step 3 (G' := fun f => if (s1.1 549 5) = 0 then evT f 402 15 [oR 549 0, oI a1, oI a2, oI a3, nn] [] s1 else evT f 402 12 [oR 549 0, oI a1, oI a2, oI a3, nn] [] s1) (fun _ => rfl) (rg_if h (fun h => ?_) fun h => ?_)
  · refine rg_step 4 (G' := fun f => ev_after (evT f 311 0 [oI a3, oI (cI 0), oI (cI 7)] [] s1) (fun q => evT f 402 22 [oR 549 0, oI a1, oI a2, oI a3, nn] (q.2 ++ []) q.1)) (fun _ => rfl) (rg_bd1 h fun v2 hc h => rg_call (q := cvP s1 v2) (T_fM_in hc) ?_)
    refine rg_step 1 (G' := fun f => if v2 = 0 then evT f 402 25 [oR 549 0, oI a1, oI a2, oI a3, nn] [] s1 else evT f 402 28 [oR 549 0, oI a1, oI a2, oI a3, nn] [] s1) (fun _ => rfl) (rg_if h (fun h => ?_) fun h => ?_)
    · exact rg_end 2 (fun _ => rfl) (by cases h; rfl)
    · refine rg_step 7 (G' := fun f => ev_after (evT f 311 0 [oI a1, oI (cI 0), oI ((s1.1 549 51) - (cI 1))] [] s1) (fun q => evT f 402 39 [oR 549 0, oI a1, oI a2, oI a3, nn] (q.2 ++ []) q.1)) (fun _ => rfl) (rg_bd1 h fun v3 hc h => rg_call (q := cvP s1 v3) (T_fM_in hc) ?_)
      refine rg_step 1 (G' := fun f => if v3 = 0 then evT f 402 67 [oR 549 0, oI a1, oI a2, oI a3, nn] [] s1 else evT f 402 42 [oR 549 0, oI a1, oI a2, oI a3, nn] [] s1) (fun _ => rfl) (rg_if h (fun h => ?_) fun h => ?_)
      · exact rg_end 2 (fun _ => rfl) (by cases h; rfl)
      · refine rg_step 8 (G' := fun f => if inb (a1 + (cI 1)) 11 = true then evT f 402 52 [oR 549 0, oI a1, oI a2, oI a3, nn] [vI (s1.1 577 (ix (a1 + (cI 1)))), vI (cI 0), vI a2] s1 else none) (fun _ => rfl) (rg_gd h fun h => ?_)
        refine rg_step 4 (G' := fun f => if inb a1 11 = true then evT f 402 58 [oR 549 0, oI a1, oI a2, oI a3, nn] [vI (s1.1 577 (ix a1)), vI (s1.1 577 (ix (a1 + (cI 1)))), vI (cI 0), vI a2] s1 else none) (fun _ => rfl) (rg_gd h fun h => ?_)
        refine rg_step 4 (G' := fun f => ev_after (evT f 311 0 [oI a2, oI (cI 0), oI (((s1.1 577 (ix (a1 + (cI 1)))) - (s1.1 577 (ix a1))) - (cI 1))] [] s1) (fun q => evT f 402 64 [oR 549 0, oI a1, oI a2, oI a3, nn] (q.2 ++ []) q.1)) (fun _ => rfl) (rg_bd1 h fun v4 hc h => rg_call (q := cvP s1 v4) (T_fM_in hc) ?_)
        refine rg_step 1 (G' := fun f => if v4 = 0 then evT f 402 67 [oR 549 0, oI a1, oI a2, oI a3, nn] [] s1 else evT f 402 69 [oR 549 0, oI a1, oI a2, oI a3, nn] [] s1) (fun _ => rfl) (rg_if h (fun h => ?_) fun h => ?_)
        · exact rg_end 2 (fun _ => rfl) (by cases h; rfl)
        · refine rg_step 4 (G' := fun f => if inb a1 11 = true then evT f 402 75 [oR 549 0, oI a1, oI a2, oI a3, nn] [vI (s1.1 577 (ix a1))] s1 else none) (fun _ => rfl) (rg_gd h fun h => ?_)
          refine rg_step 3 (G' := fun f => evT f 402 79 [oR 549 0, oI a1, oI a2, oI a3, oI ((s1.1 577 (ix a1)) + a2)] [] s1) (fun _ => rfl) (rg_ltI (P := fun v5 => RG (fun f => evT f 402 79 [oR 549 0, oI a1, oI a2, oI a3, oI v5] [] s1) (cvI q)) h fun v5 h => ?_)
          refine rg_step 2 (G' := fun f => if a3 = cI 0 then evT f 402 124 [oR 549 0, oI a1, oI a2, oI a3, oI v5] [] s1 else if a3 = cI 1 then evT f 402 132 [oR 549 0, oI a1, oI a2, oI a3, oI v5] [] s1 else if a3 = cI 2 then evT f 402 140 [oR 549 0, oI a1, oI a2, oI a3, oI v5] [] s1 else if a3 = cI 3 then evT f 402 148 [oR 549 0, oI a1, oI a2, oI a3, oI v5] [] s1 else if a3 = cI 4 then evT f 402 156 [oR 549 0, oI a1, oI a2, oI a3, oI v5] [] s1 else if a3 = cI 5 then evT f 402 164 [oR 549 0, oI a1, oI a2, oI a3, oI v5] [] s1 else if a3 = cI 6 then evT f 402 179 [oR 549 0, oI a1, oI a2, oI a3, oI v5] [] s1 else evT f 402 195 [oR 549 0, oI a1, oI a2, oI a3, oI v5] [] s1) (fun _ => rfl) ?_
          refine rg_if h (fun h => ?_) fun h => ?_
          · refine rg_step 4 (G' := fun f => if inb v5 200 = true then evT f 402 131 [oR 549 0, oI a1, oI a2, oI a3, oI v5] [vI (s1.1 578 (ix v5))] s1 else none) (fun _ => rfl) (rg_gd h fun h => ?_)
            exact rg_end 1 (fun _ => rfl) (by cases h; rfl)
          refine rg_if h (fun h => ?_) fun h => ?_
          · refine rg_step 4 (G' := fun f => if inb v5 200 = true then evT f 402 139 [oR 549 0, oI a1, oI a2, oI a3, oI v5] [vI (s1.1 579 (ix v5))] s1 else none) (fun _ => rfl) (rg_gd h fun h => ?_)
            exact rg_end 1 (fun _ => rfl) (by cases h; rfl)
          refine rg_if h (fun h => ?_) fun h => ?_
          · refine rg_step 4 (G' := fun f => if inb v5 200 = true then evT f 402 147 [oR 549 0, oI a1, oI a2, oI a3, oI v5] [vI (s1.1 580 (ix v5))] s1 else none) (fun _ => rfl) (rg_gd h fun h => ?_)
            exact rg_end 1 (fun _ => rfl) (by cases h; rfl)
          refine rg_if h (fun h => ?_) fun h => ?_
          · refine rg_step 4 (G' := fun f => if inb v5 200 = true then evT f 402 155 [oR 549 0, oI a1, oI a2, oI a3, oI v5] [vI (s1.1 581 (ix v5))] s1 else none) (fun _ => rfl) (rg_gd h fun h => ?_)
            exact rg_end 1 (fun _ => rfl) (by cases h; rfl)
          refine rg_if h (fun h => ?_) fun h => ?_
          · refine rg_step 4 (G' := fun f => if inb v5 200 = true then evT f 402 163 [oR 549 0, oI a1, oI a2, oI a3, oI v5] [vI (s1.1 582 (ix v5))] s1 else none) (fun _ => rfl) (rg_gd h fun h => ?_)
            exact rg_end 1 (fun _ => rfl) (by cases h; rfl)
          refine rg_if h (fun h => ?_) fun h => ?_
          · refine rg_step 5 (G' := fun f => if inb v5 200 = true then evT f 402 172 [oR 549 0, oI a1, oI a2, oI a3, oI v5] [vI (s1.1 582 (ix v5)), vR 549 0] s1 else none) (fun _ => rfl) (rg_gd h fun h => ?_)
            refine rg_step 3 (G' := fun f => ev_after (evT f 392 0 [oR 549 0, oI (s1.1 582 (ix v5)), oI (cI 0), oI (cI 10), nn, nn, nn, nn, nn, nn, nn] [] s1) (fun q => evT f 402 178 [oR 549 0, oI a1, oI a2, oI a3, oI v5] (q.2 ++ []) q.1)) (fun _ => rfl) (rg_bd1 h fun v6 hc h => rg_call (q := cvP s1 v6) (T_fM_nearest hc) ?_)
            exact rg_end 1 (fun _ => rfl) (by cases h; rfl)
          refine rg_if h (fun h => ?_) fun h => ?_
          · refine rg_step 5 (G' := fun f => if inb v5 200 = true then evT f 402 187 [oR 549 0, oI a1, oI a2, oI a3, oI v5] [vI (s1.1 582 (ix v5)), vR 549 0] s1 else none) (fun _ => rfl) (rg_gd h fun h => ?_)
            refine rg_step 3 (G' := fun f => ev_after (evT f 392 0 [oR 549 0, oI (s1.1 582 (ix v5)), oI (cI 10), oI (cI 36), nn, nn, nn, nn, nn, nn, nn] [] s1) (fun q => evT f 402 194 [oR 549 0, oI a1, oI a2, oI a3, oI v5] (q.2 ++ []) q.1)) (fun _ => rfl) (rg_bd1 h fun v7 hc h => rg_call (q := cvP s1 v7) (T_fM_nearest hc) ?_)
            exact rg_end 1 (fun _ => rfl) (by cases h; rfl)
          refine rg_step 6 (G' := fun f => if inb a1 11 = true then evT f 402 204 [oR 549 0, oI a1, oI a2, oI a3, oI v5] [vI (s1.1 577 (ix a1)), vI v5, vR 549 0] s1 else none) (fun _ => rfl) (rg_gd h fun h => ?_)
          refine rg_step 1 (G' := fun f => ev_after (evT f 393 0 [oR 549 0, oI v5, oI (s1.1 577 (ix a1))] [] s1) (fun q => evT f 402 207 [oR 549 0, oI a1, oI a2, oI a3, oI v5] (q.2 ++ []) q.1)) (fun _ => rfl) (rg_bd1 h fun v8 hc h => rg_call (q := cvP s1 v8) (T_fM_beginsWord hc) ?_)
          refine rg_step 1 (G' := fun f => if v8 = 0 then evT f 402 214 [oR 549 0, oI a1, oI a2, oI a3, oI v5] [] s1 else evT f 402 210 [oR 549 0, oI a1, oI a2, oI a3, oI v5] [] s1) (fun _ => rfl) (rg_if h (fun h => ?_) fun h => ?_)
          · exact rg_end 2 (fun _ => rfl) (by cases h; rfl)
          · exact rg_end 3 (fun _ => rfl) (by cases h; rfl)
  · exact rg_end 2 (fun _ => rfl) (by cases h; rfl)
theorem T_fPH_item {s : ev_M} {a1 : Int32} {a2 : Int32} {a3 : Int32} {a4 : Int32} {a5 : Int32} {a6 : Int32} {q : ev_M × Int32} (h : fPH_item s a1 a2 a3 a4 a5 a6 = some q) : RR 247 0 [oR 0 0, oI a1, oI a2, oI a3, oI a4, oI a5, oI a6] [] s (cvI q) := by
  refine rg_step 10 (G' := fun f => ev_after (evT f 122 0 [oR 9 0, oI (cI 5), oI a1, oI a2, oI a3, oI a4, oI a5, oI a6] [] s) (fun q => evT f 247 17 [oR 0 0, oI a1, oI a2, oI a3, oI a4, oI a5, oI a6] (q.2 ++ []) q.1)) (fun _ => rfl) (rg_bd2 h fun s1 v2 hc h => rg_call (q := cvI (s1, v2)) (T_fLog_stages hc) ?_)
  refine rg_step 1 (G' := fun f => if v2 = 0 then evT f 247 31 [oR 0 0, oI a1, oI a2, oI a3, oI a4, oI a5, oI a6] [] s1 else evT f 247 20 [oR 0 0, oI a1, oI a2, oI a3, oI a4, oI a5, oI a6] [] s1) (fun _ => rfl) (rg_if h (fun h => ?_) fun h => ?_)
  · exact rg_end 2 (fun _ => rfl) (by cases h; rfl)
  · refine rg_step 4 (G' := fun f => ev_after (evT f 302 0 [oR 0 0, oR 1 0, nn, nn, nn, nn, nn, nn] [] s1) (fun q => evT f 247 28 [oR 0 0, oI a1, oI a2, oI a3, oI a4, oI a5, oI a6] (q.2 ++ []) q.1)) (fun _ => rfl) (rg_bd2 h fun s3 v4 hc h => rg_call (q := cvI (s3, v4)) (T_fPH_act_1 hc) ?_)
    exact rg_end 2 (fun _ => rfl) (by cases h; rfl)
theorem T_fM_item {s : ev_M} {a1 : Int32} {a2 : Int32} {a3 : Int32} {a4 : Int32} {a5 : Int32} {a6 : Int32} {q : ev_M × Int32} (h : fM_item s a1 a2 a3 a4 a5 a6 = some q) : RR 404 0 [oR 549 0, oI a1, oI a2, oI a3, oI a4, oI a5, oI a6] [] s (cvI q) := by
  refine rg_step 5 (G' := fun f => evT f 404 8 [oR 549 0, oI a1, oI a2, oI a3, oI a4, oI a5, oI a6] [] (wI s 553 (ix (cI 4)) a5)) (fun _ => rfl) (rg_ltM h fun s1 h => ?_)
  refine rg_step 5 (G' := fun f => evT f 404 16 [oR 549 0, oI a1, oI a2, oI a3, oI a4, oI a5, oI a6] [] (wI s1 553 (ix (cI 5)) a6)) (fun _ => rfl) (rg_ltM h fun s2 h => ?_)
  refine rg_step 7 (G' := fun f => ev_after (evT f 322 0 [oR 549 0, oI (cI 5), oI a1, oI a2, oI a3, oI a4] [] s2) (fun q => evT f 404 26 [oR 549 0, oI a1, oI a2, oI a3, oI a4, oI a5, oI a6] (q.2 ++ []) q.1)) (fun _ => rfl) (rg_bd2 h fun s3 v4 hc h => rg_call (q := cvI (s3, v4)) (T_fM_call4 hc) ?_)
  exact rg_end 1 (fun _ => rfl) (by cases h; rfl)
theorem T_fPH_address {s : ev_M} {a1 : Int32} {a2 : Int32} {q : ev_M × Int32} (h : fPH_address s a1 a2 = some q) : RR 248 0 [oR 0 0, oI a1, oI a2] [] s (cvI q) := by
  refine rg_step 10 (G' := fun f => ev_after (evT f 122 0 [oR 9 0, oI (cI 6), oI a1, oI a2, oI (cI 0), oI (cI 0), oI (cI 0), oI (cI 0)] [] s) (fun q => evT f 248 15 [oR 0 0, oI a1, oI a2] (q.2 ++ []) q.1)) (fun _ => rfl) (rg_bd2 h fun s1 v2 hc h => rg_call (q := cvI (s1, v2)) (T_fLog_stages hc) ?_)
  refine rg_step 1 (G' := fun f => if v2 = 0 then evT f 248 29 [oR 0 0, oI a1, oI a2] [] s1 else evT f 248 18 [oR 0 0, oI a1, oI a2] [] s1) (fun _ => rfl) (rg_if h (fun h => ?_) fun h => ?_)
  · exact rg_end 2 (fun _ => rfl) (by cases h; rfl)
  · refine rg_step 4 (G' := fun f => ev_after (evT f 302 0 [oR 0 0, oR 1 0, nn, nn, nn, nn, nn, nn] [] s1) (fun q => evT f 248 26 [oR 0 0, oI a1, oI a2] (q.2 ++ []) q.1)) (fun _ => rfl) (rg_bd2 h fun s3 v4 hc h => rg_call (q := cvI (s3, v4)) (T_fPH_act_1 hc) ?_)
    exact rg_end 2 (fun _ => rfl) (by cases h; rfl)
theorem T_fM_address {s : ev_M} {a1 : Int32} {a2 : Int32} {q : ev_M × Int32} (h : fM_address s a1 a2 = some q) : RR 408 0 [oR 549 0, oI a1, oI a2] [] s (cvI q) := by
  refine rg_step 5 (G' := fun f => ev_after (evT f 320 0 [oR 549 0, oI (cI 6), oI a1, oI a2] [] s) (fun q => evT f 408 8 [oR 549 0, oI a1, oI a2] (q.2 ++ []) q.1)) (fun _ => rfl) (rg_bd2 h fun s1 v2 hc h => rg_call (q := cvI (s1, v2)) (T_fM_call2 hc) ?_)
  exact rg_end 1 (fun _ => rfl) (by cases h; rfl)
theorem T_fPH_take {s : ev_M} {a1 : Int32} {q : ev_M × Int32} (h : fPH_take s a1 = some q) : RR 249 0 [oR 0 0, oI a1] [] s (cvI q) := by
  refine rg_step 10 (G' := fun f => ev_after (evT f 122 0 [oR 9 0, oI (cI 7), oI a1, oI (cI 0), oI (cI 0), oI (cI 0), oI (cI 0), oI (cI 0)] [] s) (fun q => evT f 249 15 [oR 0 0, oI a1] (q.2 ++ []) q.1)) (fun _ => rfl) (rg_bd2 h fun s1 v2 hc h => rg_call (q := cvI (s1, v2)) (T_fLog_stages hc) ?_)
  refine rg_step 1 (G' := fun f => if v2 = 0 then evT f 249 29 [oR 0 0, oI a1] [] s1 else evT f 249 18 [oR 0 0, oI a1] [] s1) (fun _ => rfl) (rg_if h (fun h => ?_) fun h => ?_)
  · exact rg_end 2 (fun _ => rfl) (by cases h; rfl)
  · refine rg_step 4 (G' := fun f => ev_after (evT f 302 0 [oR 0 0, oR 1 0, nn, nn, nn, nn, nn, nn] [] s1) (fun q => evT f 249 26 [oR 0 0, oI a1] (q.2 ++ []) q.1)) (fun _ => rfl) (rg_bd2 h fun s3 v4 hc h => rg_call (q := cvI (s3, v4)) (T_fPH_act_1 hc) ?_)
    exact rg_end 2 (fun _ => rfl) (by cases h; rfl)
theorem T_fM_take {s : ev_M} {a1 : Int32} {q : ev_M × Int32} (h : fM_take s a1 = some q) : RR 410 0 [oR 549 0, oI a1] [] s (cvI q) := by
  refine rg_step 4 (G' := fun f => ev_after (evT f 319 0 [oR 549 0, oI (cI 7), oI a1] [] s) (fun q => evT f 410 7 [oR 549 0, oI a1] (q.2 ++ []) q.1)) (fun _ => rfl) (rg_bd2 h fun s1 v2 hc h => rg_call (q := cvI (s1, v2)) (T_fM_call1 hc) ?_)
  exact rg_end 1 (fun _ => rfl) (by cases h; rfl)
theorem T_fPH_clerk {s : ev_M} {a1 : Int32} {a2 : Int32} {a3 : Int32} {q : ev_M × Int32} (h : fPH_clerk s a1 a2 a3 = some q) : RR 250 0 [oR 0 0, oI a1, oI a2, oI a3] [] s (cvI q) := by
  refine rg_step 10 (G' := fun f => ev_after (evT f 122 0 [oR 9 0, oI (cI 8), oI a1, oI a2, oI a3, oI (cI 0), oI (cI 0), oI (cI 0)] [] s) (fun q => evT f 250 15 [oR 0 0, oI a1, oI a2, oI a3] (q.2 ++ []) q.1)) (fun _ => rfl) (rg_bd2 h fun s1 v2 hc h => rg_call (q := cvI (s1, v2)) (T_fLog_stages hc) ?_)
  refine rg_step 1 (G' := fun f => if v2 = 0 then evT f 250 29 [oR 0 0, oI a1, oI a2, oI a3] [] s1 else evT f 250 18 [oR 0 0, oI a1, oI a2, oI a3] [] s1) (fun _ => rfl) (rg_if h (fun h => ?_) fun h => ?_)
  · exact rg_end 2 (fun _ => rfl) (by cases h; rfl)
  · refine rg_step 4 (G' := fun f => ev_after (evT f 302 0 [oR 0 0, oR 1 0, nn, nn, nn, nn, nn, nn] [] s1) (fun q => evT f 250 26 [oR 0 0, oI a1, oI a2, oI a3] (q.2 ++ []) q.1)) (fun _ => rfl) (rg_bd2 h fun s3 v4 hc h => rg_call (q := cvI (s3, v4)) (T_fPH_act_1 hc) ?_)
    exact rg_end 2 (fun _ => rfl) (by cases h; rfl)
theorem T_fM_clerk {s : ev_M} {a1 : Int32} {a2 : Int32} {a3 : Int32} {q : ev_M × Int32} (h : fM_clerk s a1 a2 a3 = some q) : RR 412 0 [oR 549 0, oI a1, oI a2, oI a3] [] s (cvI q) := by
  refine rg_step 6 (G' := fun f => ev_after (evT f 321 0 [oR 549 0, oI (cI 8), oI a1, oI a2, oI a3] [] s) (fun q => evT f 412 9 [oR 549 0, oI a1, oI a2, oI a3] (q.2 ++ []) q.1)) (fun _ => rfl) (rg_bd2 h fun s1 v2 hc h => rg_call (q := cvI (s1, v2)) (T_fM_call3 hc) ?_)
  exact rg_end 1 (fun _ => rfl) (by cases h; rfl)
theorem T_fPH_post {s : ev_M} {a1 : Int32} {a2 : Int32} {q : ev_M × Int32} (h : fPH_post s a1 a2 = some q) : RR 251 0 [oR 0 0, oI a1, oI a2] [] s (cvI q) := by
  refine rg_step 10 (G' := fun f => ev_after (evT f 122 0 [oR 9 0, oI (cI 9), oI a1, oI a2, oI (cI 0), oI (cI 0), oI (cI 0), oI (cI 0)] [] s) (fun q => evT f 251 15 [oR 0 0, oI a1, oI a2] (q.2 ++ []) q.1)) (fun _ => rfl) (rg_bd2 h fun s1 v2 hc h => rg_call (q := cvI (s1, v2)) (T_fLog_stages hc) ?_)
  refine rg_step 1 (G' := fun f => if v2 = 0 then evT f 251 29 [oR 0 0, oI a1, oI a2] [] s1 else evT f 251 18 [oR 0 0, oI a1, oI a2] [] s1) (fun _ => rfl) (rg_if h (fun h => ?_) fun h => ?_)
  · exact rg_end 2 (fun _ => rfl) (by cases h; rfl)
  · refine rg_step 4 (G' := fun f => ev_after (evT f 302 0 [oR 0 0, oR 1 0, nn, nn, nn, nn, nn, nn] [] s1) (fun q => evT f 251 26 [oR 0 0, oI a1, oI a2] (q.2 ++ []) q.1)) (fun _ => rfl) (rg_bd2 h fun s3 v4 hc h => rg_call (q := cvI (s3, v4)) (T_fPH_act_1 hc) ?_)
    exact rg_end 2 (fun _ => rfl) (by cases h; rfl)
theorem T_fM_post {s : ev_M} {a1 : Int32} {a2 : Int32} {q : ev_M × Int32} (h : fM_post s a1 a2 = some q) : RR 414 0 [oR 549 0, oI a1, oI a2] [] s (cvI q) := by
  refine rg_step 5 (G' := fun f => ev_after (evT f 320 0 [oR 549 0, oI (cI 9), oI a1, oI a2] [] s) (fun q => evT f 414 8 [oR 549 0, oI a1, oI a2] (q.2 ++ []) q.1)) (fun _ => rfl) (rg_bd2 h fun s1 v2 hc h => rg_call (q := cvI (s1, v2)) (T_fM_call2 hc) ?_)
  exact rg_end 1 (fun _ => rfl) (by cases h; rfl)
theorem T_fItems_tellAbout {s : ev_M} {a1 : Int32} {a2 : Int32} {q : ev_M × Int32} (h : fItems_tellAbout s a1 a2 = some q) : RR 68 0 [oR 100 0, oI a1, oI a2] [] s (cvI q) := by
  refine rg_step 4 (G' := fun f => ev_after (evT f 308 0 [oI a2, oI (cI 0), oI (cI 16)] [] s) (fun q => evT f 68 7 [oR 100 0, oI a1, oI a2] (q.2 ++ []) q.1)) (fun _ => rfl) (rg_bd1 h fun v1 hc h => rg_call (q := cvP s v1) (T_fPH_outside hc) ?_)
  refine rg_step 1 (G' := fun f => if v1 = 0 then evT f 68 13 [oR 100 0, oI a1, oI a2] [] s else evT f 68 10 [oR 100 0, oI a1, oI a2] [] s) (fun _ => rfl) (rg_if h (fun h => ?_) fun h => ?_)
  · refine rg_step 3 (G' := fun f => if a2 = (cI 12) then evT f 68 19 [oR 100 0, oI a1, oI a2] [] s else evT f 68 25 [oR 100 0, oI a1, oI a2] [] s) (fun _ => rfl) (rg_if h (fun h => ?_) fun h => ?_)
    · refine rg_step 3 (G' := fun f => ev_after (evT f 69 0 [oR 100 0, oI a1, nn] [] s) (fun q => evT f 68 24 [oR 100 0, oI a1, oI a2] (q.2 ++ []) q.1)) (fun _ => rfl) (rg_bd2 h fun s2 v3 hc h => rg_call (q := cvI (s2, v3)) (T_fItems_goalOf hc) ?_)
      exact rg_end 1 (fun _ => rfl) (by cases h; rfl)
    · refine rg_step 3 (G' := fun f => if a2 = (cI 16) then evT f 68 31 [oR 100 0, oI a1, oI a2] [] s else evT f 68 43 [oR 100 0, oI a1, oI a2] [] s) (fun _ => rfl) (rg_if h (fun h => ?_) fun h => ?_)
      · refine rg_step 3 (G' := fun f => ev_after (evT f 72 0 [oR 100 0, oI a1, nn] [] s) (fun q => evT f 68 36 [oR 100 0, oI a1, oI a2] (q.2 ++ []) q.1)) (fun _ => rfl) (rg_bd1 h fun v4 hc h => rg_call (q := cvP s v4) (T_fItems_priceDue hc) ?_)
        refine rg_step 3 (G' := fun f => ev_after (evT f 73 0 [oR 100 0, oI a1] [] s) (fun q => evT f 68 41 [oR 100 0, oI a1, oI a2] (q.2 ++ [vI v4]) q.1)) (fun _ => rfl) (rg_bd1 h fun v5 hc h => rg_call (q := cvP s v5) (T_fItems_centsDue hc) ?_)
        exact rg_end 2 (fun _ => rfl) (by cases h; rfl)
      · refine rg_step 4 (G' := fun f => if inb a2 22 = true then evT f 68 49 [oR 100 0, oI a1, oI a2] [vR 102 (ix a2)] s else none) (fun _ => rfl) (rg_gd h fun h => ?_)
        refine rg_step 2 (G' := fun f => if inb a1 300 = true then evT f 68 51 [oR 100 0, oI a1, oI a2] [vI (s.1 (102 + (ix a2)) (ix a1))] s else none) (fun _ => rfl) (rg_gd h fun h => ?_)
        exact rg_end 1 (fun _ => rfl) (by cases h; rfl)
  · exact rg_end 2 (fun _ => rfl) (by cases h; rfl)
theorem T_fPH_about {s : ev_M} {a1 : Int32} {a2 : Int32} {q : ev_M × Int32} (h : fPH_about s a1 a2 = some q) : RR 252 0 [oR 0 0, oI a1, oI a2] [] s (cvI q) := by
  refine rg_step 4 (G' := fun f => if (s.1 9 9) = 0 then evT f 252 13 [oR 0 0, oI a1, oI a2] [] s else evT f 252 10 [oR 0 0, oI a1, oI a2] [] s) (fun _ => rfl) (rg_if h (fun h => ?_) fun h => ?_)
  · refine rg_step 4 (G' := fun f => ev_after (evT f 51 0 [oR 100 0, oI a1] [] s) (fun q => evT f 252 21 [oR 0 0, oI a1, oI a2] (q.2 ++ []) q.1)) (fun _ => rfl) (rg_bd1 h fun v1 hc h => rg_call (q := cvP s v1) (T_fItems_has hc) ?_)
    refine rg_step 1 (G' := fun f => if v1 = 0 then evT f 252 36 [oR 0 0, oI a1, oI a2] [] s else evT f 252 24 [oR 0 0, oI a1, oI a2] [] s) (fun _ => rfl) (rg_if h (fun h => ?_) fun h => ?_)
    · exact rg_end 2 (fun _ => rfl) (by cases h; rfl)
    · refine rg_step 5 (G' := fun f => ev_after (evT f 68 0 [oR 100 0, oI a1, oI a2] [] s) (fun q => evT f 252 33 [oR 0 0, oI a1, oI a2] (q.2 ++ []) q.1)) (fun _ => rfl) (rg_bd2 h fun s2 v3 hc h => rg_call (q := cvI (s2, v3)) (T_fItems_tellAbout hc) ?_)
      exact rg_end 2 (fun _ => rfl) (by cases h; rfl)
  · exact rg_end 2 (fun _ => rfl) (by cases h; rfl)
theorem T_fM_about {s : ev_M} {a1 : Int32} {a2 : Int32} {q : ev_M × Int32} (h : fM_about s a1 a2 = some q) : RR 419 0 [oR 549 0, oI a1, oI a2] [] s (cvI q) := by
  refine rg_step 3 (G' := fun f => evT f 419 5 [oR 549 0, oI a1, oI a2] [] (wI s 549 0 (cI 0))) (fun _ => rfl) (rg_ltM h fun s1 h => ?_)
  refine rg_step 3 (G' := fun f => if (s1.1 549 5) = 0 then evT f 419 15 [oR 549 0, oI a1, oI a2] [] s1 else evT f 419 12 [oR 549 0, oI a1, oI a2] [] s1) (fun _ => rfl) (rg_if h (fun h => ?_) fun h => ?_)
  · refine rg_step 3 (G' := fun f => ev_after (evT f 342 0 [oR 549 0, oI a1] [] s1) (fun q => evT f 419 20 [oR 549 0, oI a1, oI a2] (q.2 ++ []) q.1)) (fun _ => rfl) (rg_bd1 h fun v2 hc h => rg_call (q := cvP s1 v2) (T_fM_isItem hc) ?_)
    refine rg_step 1 (G' := fun f => if v2 = 0 then evT f 419 23 [oR 549 0, oI a1, oI a2] [] s1 else evT f 419 26 [oR 549 0, oI a1, oI a2] [] s1) (fun _ => rfl) (rg_if h (fun h => ?_) fun h => ?_)
    · exact rg_end 2 (fun _ => rfl) (by cases h; rfl)
    · refine rg_step 2 (G' := fun f => if a2 = cI 0 then evT f 419 108 [oR 549 0, oI a1, oI a2] [] s1 else if a2 = cI 1 then evT f 419 115 [oR 549 0, oI a1, oI a2] [] s1 else if a2 = cI 2 then evT f 419 122 [oR 549 0, oI a1, oI a2] [] s1 else if a2 = cI 3 then evT f 419 129 [oR 549 0, oI a1, oI a2] [] s1 else if a2 = cI 4 then evT f 419 136 [oR 549 0, oI a1, oI a2] [] s1 else if a2 = cI 5 then evT f 419 143 [oR 549 0, oI a1, oI a2] [] s1 else if a2 = cI 6 then evT f 419 150 [oR 549 0, oI a1, oI a2] [] s1 else if a2 = cI 7 then evT f 419 157 [oR 549 0, oI a1, oI a2] [] s1 else if a2 = cI 8 then evT f 419 164 [oR 549 0, oI a1, oI a2] [] s1 else if a2 = cI 9 then evT f 419 171 [oR 549 0, oI a1, oI a2] [] s1 else if a2 = cI 10 then evT f 419 178 [oR 549 0, oI a1, oI a2] [] s1 else if a2 = cI 11 then evT f 419 193 [oR 549 0, oI a1, oI a2] [] s1 else if a2 = cI 12 then evT f 419 200 [oR 549 0, oI a1, oI a2] [] s1 else if a2 = cI 13 then evT f 419 206 [oR 549 0, oI a1, oI a2] [] s1 else if a2 = cI 14 then evT f 419 213 [oR 549 0, oI a1, oI a2] [] s1 else if a2 = cI 15 then evT f 419 220 [oR 549 0, oI a1, oI a2] [] s1 else if a2 = cI 16 then evT f 419 227 [oR 549 0, oI a1, oI a2] [] s1 else evT f 419 239 [oR 549 0, oI a1, oI a2] [] s1) (fun _ => rfl) ?_
      refine rg_if h (fun h => ?_) fun h => ?_
      · refine rg_step 4 (G' := fun f => if inb a1 300 = true then evT f 419 114 [oR 549 0, oI a1, oI a2] [vI (s1.1 583 (ix a1))] s1 else none) (fun _ => rfl) (rg_gd h fun h => ?_)
        exact rg_end 1 (fun _ => rfl) (by cases h; rfl)
      refine rg_if h (fun h => ?_) fun h => ?_
      · refine rg_step 4 (G' := fun f => if inb a1 300 = true then evT f 419 121 [oR 549 0, oI a1, oI a2] [vI (s1.1 584 (ix a1))] s1 else none) (fun _ => rfl) (rg_gd h fun h => ?_)
        exact rg_end 1 (fun _ => rfl) (by cases h; rfl)
      refine rg_if h (fun h => ?_) fun h => ?_
      · refine rg_step 4 (G' := fun f => if inb a1 300 = true then evT f 419 128 [oR 549 0, oI a1, oI a2] [vI (s1.1 585 (ix a1))] s1 else none) (fun _ => rfl) (rg_gd h fun h => ?_)
        exact rg_end 1 (fun _ => rfl) (by cases h; rfl)
      refine rg_if h (fun h => ?_) fun h => ?_
      · refine rg_step 4 (G' := fun f => if inb a1 300 = true then evT f 419 135 [oR 549 0, oI a1, oI a2] [vI (s1.1 586 (ix a1))] s1 else none) (fun _ => rfl) (rg_gd h fun h => ?_)
        exact rg_end 1 (fun _ => rfl) (by cases h; rfl)
      refine rg_if h (fun h => ?_) fun h => ?_
      · refine rg_step 4 (G' := fun f => if inb a1 300 = true then evT f 419 142 [oR 549 0, oI a1, oI a2] [vI (s1.1 587 (ix a1))] s1 else none) (fun _ => rfl) (rg_gd h fun h => ?_)
        exact rg_end 1 (fun _ => rfl) (by cases h; rfl)
      refine rg_if h (fun h => ?_) fun h => ?_
      · refine rg_step 4 (G' := fun f => if inb a1 300 = true then evT f 419 149 [oR 549 0, oI a1, oI a2] [vI (s1.1 588 (ix a1))] s1 else none) (fun _ => rfl) (rg_gd h fun h => ?_)
        exact rg_end 1 (fun _ => rfl) (by cases h; rfl)
      refine rg_if h (fun h => ?_) fun h => ?_
      · refine rg_step 4 (G' := fun f => if inb a1 300 = true then evT f 419 156 [oR 549 0, oI a1, oI a2] [vI (s1.1 589 (ix a1))] s1 else none) (fun _ => rfl) (rg_gd h fun h => ?_)
        exact rg_end 1 (fun _ => rfl) (by cases h; rfl)
      refine rg_if h (fun h => ?_) fun h => ?_
      · refine rg_step 4 (G' := fun f => if inb a1 300 = true then evT f 419 163 [oR 549 0, oI a1, oI a2] [vI (s1.1 590 (ix a1))] s1 else none) (fun _ => rfl) (rg_gd h fun h => ?_)
        exact rg_end 1 (fun _ => rfl) (by cases h; rfl)
      refine rg_if h (fun h => ?_) fun h => ?_
      · refine rg_step 4 (G' := fun f => if inb a1 300 = true then evT f 419 170 [oR 549 0, oI a1, oI a2] [vI (s1.1 591 (ix a1))] s1 else none) (fun _ => rfl) (rg_gd h fun h => ?_)
        exact rg_end 1 (fun _ => rfl) (by cases h; rfl)
      refine rg_if h (fun h => ?_) fun h => ?_
      · refine rg_step 4 (G' := fun f => if inb a1 300 = true then evT f 419 177 [oR 549 0, oI a1, oI a2] [vI (s1.1 593 (ix a1))] s1 else none) (fun _ => rfl) (rg_gd h fun h => ?_)
        exact rg_end 1 (fun _ => rfl) (by cases h; rfl)
      refine rg_if h (fun h => ?_) fun h => ?_
      · refine rg_step 4 (G' := fun f => if inb a1 300 = true then evT f 419 184 [oR 549 0, oI a1, oI a2] [vI (s1.1 599 (ix a1))] s1 else none) (fun _ => rfl) (rg_gd h fun h => ?_)
        refine rg_step 1 (G' := fun f => if (s1.1 599 (ix a1)) = 0 then evT f 419 191 [oR 549 0, oI a1, oI a2] [] s1 else evT f 419 187 [oR 549 0, oI a1, oI a2] [] s1) (fun _ => rfl) (rg_if h (fun h => ?_) fun h => ?_)
        · exact rg_end 2 (fun _ => rfl) (by cases h; rfl)
        · exact rg_end 3 (fun _ => rfl) (by cases h; rfl)
      refine rg_if h (fun h => ?_) fun h => ?_
      · refine rg_step 4 (G' := fun f => if inb a1 300 = true then evT f 419 199 [oR 549 0, oI a1, oI a2] [vI (s1.1 600 (ix a1))] s1 else none) (fun _ => rfl) (rg_gd h fun h => ?_)
        exact rg_end 1 (fun _ => rfl) (by cases h; rfl)
      refine rg_if h (fun h => ?_) fun h => ?_
      · refine rg_step 3 (G' := fun f => ev_after (evT f 415 0 [oR 549 0, oI a1] [] s1) (fun q => evT f 419 205 [oR 549 0, oI a1, oI a2] (q.2 ++ []) q.1)) (fun _ => rfl) (rg_bd2 h fun s3 v4 hc h => rg_call (q := cvI (s3, v4)) (T_fM_goalOf hc) ?_)
        exact rg_end 1 (fun _ => rfl) (by cases h; rfl)
      refine rg_if h (fun h => ?_) fun h => ?_
      · refine rg_step 4 (G' := fun f => if inb a1 300 = true then evT f 419 212 [oR 549 0, oI a1, oI a2] [vI (s1.1 601 (ix a1))] s1 else none) (fun _ => rfl) (rg_gd h fun h => ?_)
        exact rg_end 1 (fun _ => rfl) (by cases h; rfl)
      refine rg_if h (fun h => ?_) fun h => ?_
      · refine rg_step 4 (G' := fun f => if inb a1 300 = true then evT f 419 219 [oR 549 0, oI a1, oI a2] [vI (s1.1 602 (ix a1))] s1 else none) (fun _ => rfl) (rg_gd h fun h => ?_)
        exact rg_end 1 (fun _ => rfl) (by cases h; rfl)
      refine rg_if h (fun h => ?_) fun h => ?_
      · refine rg_step 4 (G' := fun f => if inb a1 300 = true then evT f 419 226 [oR 549 0, oI a1, oI a2] [vI (s1.1 597 (ix a1))] s1 else none) (fun _ => rfl) (rg_gd h fun h => ?_)
        exact rg_end 1 (fun _ => rfl) (by cases h; rfl)
      refine rg_if h (fun h => ?_) fun h => ?_
      · refine rg_step 3 (G' := fun f => ev_after (evT f 417 0 [oR 549 0, oI a1, nn] [] s1) (fun q => evT f 419 232 [oR 549 0, oI a1, oI a2] (q.2 ++ []) q.1)) (fun _ => rfl) (rg_bd1 h fun v5 hc h => rg_call (q := cvP s1 v5) (T_fM_priceDue hc) ?_)
        refine rg_step 3 (G' := fun f => ev_after (evT f 418 0 [oR 549 0, oI a1] [] s1) (fun q => evT f 419 237 [oR 549 0, oI a1, oI a2] (q.2 ++ [vI v5]) q.1)) (fun _ => rfl) (rg_bd1 h fun v6 hc h => rg_call (q := cvP s1 v6) (T_fM_centsDue hc) ?_)
        exact rg_end 2 (fun _ => rfl) (by cases h; rfl)
      exact rg_end 2 (fun _ => rfl) (by cases h; rfl)
  · exact rg_end 2 (fun _ => rfl) (by cases h; rfl)
