/-! ===== the interpreter does what the functions say, 2 ===== -/
theorem t_fM_doClerk_b21 {s : ev_M} {j1 : Option ev_V} {j2 : Option ev_V} {j3 : Option ev_V} {j4 : Option ev_V} {j5 : Option ev_V} {j6 : Option ev_V} {q : ev_M × Int32} (h : fM_doClerk_b21 s = some q) : RR 411 21 [oR 549 0, j1, j2, j3, j4, j5, j6] [] s (cvI q) := by
  refine rg_step 3 (G' := fun f => ev_after (evT f 315 0 [oR 549 0, oI (cI (-101))] [] s) (fun q => evT f 411 27 [oR 549 0, nn, nn, nn, nn, nn, nn] (q.2 ++ []) q.1)) (fun _ => rfl) (rg_bd2 h fun s1 v2 hc h => rg_call (q := cvI (s1, v2)) (T_fM_no hc) ?_)
  exact rg_end 1 (fun _ => rfl) (by cases h; rfl)
theorem t_fM_doClerk_b115 {k56 : ev_M → Int32 → Int32 → Int32 → Int32 → Int32 → Int32 → Option (ev_M × Int32)} (hk56 : ∀ {s : ev_M} {x1 : Int32} {x2 : Int32} {x3 : Int32} {x4 : Int32} {x5 : Int32} {x6 : Int32} {q : ev_M × Int32}, k56 s x1 x2 x3 x4 x5 x6 = some q → RR 411 56 [oR 549 0, oI x1, oI x2, oI x3, oI x4, oI x5, oI x6] [] s (cvI q)) {s : ev_M} {x1 : Int32} {x2 : Int32} {x3 : Int32} {x4 : Int32} {x6 : Int32} {y0 : Int32} {j5 : Option ev_V} {q : ev_M × Int32} (h : fM_doClerk_b115 k56 s x1 x2 x3 x4 x6 y0 = some q) : RR 411 115 [oR 549 0, oI x1, oI x2, oI x3, oI x4, j5, oI x6] [vI y0] s (cvI q) := by
  exact rg_step 3 (G' := fun f => evT f 411 56 [oR 549 0, oI x1, oI x2, oI x3, oI x4, oI y0, oI (x6 + cI 1)] [] s) (fun _ => rfl) (hk56 h)
theorem t_fM_doClerk_b110 {k56 : ev_M → Int32 → Int32 → Int32 → Int32 → Int32 → Int32 → Option (ev_M × Int32)} (hk56 : ∀ {s : ev_M} {x1 : Int32} {x2 : Int32} {x3 : Int32} {x4 : Int32} {x5 : Int32} {x6 : Int32} {q : ev_M × Int32}, k56 s x1 x2 x3 x4 x5 x6 = some q → RR 411 56 [oR 549 0, oI x1, oI x2, oI x3, oI x4, oI x5, oI x6] [] s (cvI q)) {s : ev_M} {x1 : Int32} {x2 : Int32} {x3 : Int32} {x4 : Int32} {x6 : Int32} {j5 : Option ev_V} {q : ev_M × Int32} (h : fM_doClerk_b110 k56 s x1 x2 x3 x4 x6 = some q) : RR 411 110 [oR 549 0, oI x1, oI x2, oI x3, oI x4, j5, oI x6] [] s (cvI q) := by
  exact rg_step 2 (G' := fun f => evT f 411 115 [oR 549 0, oI x1, oI x2, oI x3, oI x4, nn, oI x6] [vI (cI 1)] s) (fun _ => rfl) ((t_fM_doClerk_b115 hk56) h)
theorem t_fM_doClerk_b92 {k56 : ev_M → Int32 → Int32 → Int32 → Int32 → Int32 → Int32 → Option (ev_M × Int32)} (hk56 : ∀ {s : ev_M} {x1 : Int32} {x2 : Int32} {x3 : Int32} {x4 : Int32} {x5 : Int32} {x6 : Int32} {q : ev_M × Int32}, k56 s x1 x2 x3 x4 x5 x6 = some q → RR 411 56 [oR 549 0, oI x1, oI x2, oI x3, oI x4, oI x5, oI x6] [] s (cvI q)) {s : ev_M} {x1 : Int32} {x2 : Int32} {x3 : Int32} {x5 : Int32} {x6 : Int32} {y0 : Int32} {j4 : Option ev_V} {q : ev_M × Int32} (h : fM_doClerk_b92 k56 s x1 x2 x3 x5 x6 y0 = some q) : RR 411 92 [oR 549 0, oI x1, oI x2, oI x3, j4, oI x5, oI x6] [vI y0] s (cvI q) := by
  refine rg_step 3 (G' := fun f => if x5 = 0 then evT f 411 99 [oR 549 0, oI x1, oI x2, oI x3, oI y0, oI x5, oI x6] [] s else evT f 411 110 [oR 549 0, oI x1, oI x2, oI x3, oI y0, oI x5, oI x6] [] s) (fun _ => rfl) (rg_if h (fun h => ?_) fun h => ?_)
  · refine rg_step 4 (G' := fun f => if inb x6 900 = true then evT f 411 106 [oR 549 0, oI x1, oI x2, oI x3, oI y0, oI x5, oI x6] [vI (s.1 606 (ix x6))] s else none) (fun _ => rfl) (rg_gd h fun h => ?_)
    refine rg_step 2 (G' := fun f => if (s.1 606 (ix x6)) = x3 then evT f 411 110 [oR 549 0, oI x1, oI x2, oI x3, oI y0, oI x5, oI x6] [] s else evT f 411 114 [oR 549 0, oI x1, oI x2, oI x3, oI y0, oI x5, oI x6] [] s) (fun _ => rfl) (rg_if h (fun h => ?_) fun h => ?_)
    · exact (t_fM_doClerk_b110 hk56) h
    · exact rg_step 1 (G' := fun f => evT f 411 115 [oR 549 0, oI x1, oI x2, oI x3, oI y0, oI x5, oI x6] [vI (cI 0)] s) (fun _ => rfl) ((t_fM_doClerk_b115 hk56) h)
  · exact (t_fM_doClerk_b110 hk56) h
theorem t_fM_doClerk_b87 {k56 : ev_M → Int32 → Int32 → Int32 → Int32 → Int32 → Int32 → Option (ev_M × Int32)} (hk56 : ∀ {s : ev_M} {x1 : Int32} {x2 : Int32} {x3 : Int32} {x4 : Int32} {x5 : Int32} {x6 : Int32} {q : ev_M × Int32}, k56 s x1 x2 x3 x4 x5 x6 = some q → RR 411 56 [oR 549 0, oI x1, oI x2, oI x3, oI x4, oI x5, oI x6] [] s (cvI q)) {s : ev_M} {x1 : Int32} {x2 : Int32} {x3 : Int32} {x5 : Int32} {x6 : Int32} {j4 : Option ev_V} {q : ev_M × Int32} (h : fM_doClerk_b87 k56 s x1 x2 x3 x5 x6 = some q) : RR 411 87 [oR 549 0, oI x1, oI x2, oI x3, j4, oI x5, oI x6] [] s (cvI q) := by
  exact rg_step 2 (G' := fun f => evT f 411 92 [oR 549 0, oI x1, oI x2, oI x3, nn, oI x5, oI x6] [vI (cI 1)] s) (fun _ => rfl) ((t_fM_doClerk_b92 hk56) h)
theorem t_fM_doClerk_b138 {s : ev_M} {j1 : Option ev_V} {j2 : Option ev_V} {j3 : Option ev_V} {j4 : Option ev_V} {j5 : Option ev_V} {j6 : Option ev_V} {q : ev_M × Int32} (h : fM_doClerk_b138 s = some q) : RR 411 138 [oR 549 0, j1, j2, j3, j4, j5, j6] [] s (cvI q) := by
  refine rg_step 3 (G' := fun f => ev_after (evT f 315 0 [oR 549 0, oI (cI (-103))] [] s) (fun q => evT f 411 144 [oR 549 0, nn, nn, nn, nn, nn, nn] (q.2 ++ []) q.1)) (fun _ => rfl) (rg_bd2 h fun s3 v4 hc h => rg_call (q := cvI (s3, v4)) (T_fM_no hc) ?_)
  exact rg_end 1 (fun _ => rfl) (by cases h; rfl)
theorem t_fM_doClerk_b234 {s : ev_M} {x1 : Int32} {j2 : Option ev_V} {j3 : Option ev_V} {j4 : Option ev_V} {j5 : Option ev_V} {j6 : Option ev_V} {q : ev_M × Int32} (h : fM_doClerk_b234 s x1 = some q) : RR 411 234 [oR 549 0, oI x1, j2, j3, j4, j5, j6] [] s (cvI q) := by
  refine rg_step 5 (G' := fun f => if inb x1 300 = true then evT f 411 241 [oR 549 0, oI x1, nn, nn, nn, nn, nn] [] (wI s 601 (ix x1) (cI 2)) else none) (fun _ => rfl) (rg_gd h fun h => rg_ltM h fun s5 h => ?_)
  exact rg_end 2 (fun _ => rfl) (by cases h; rfl)
theorem t_fM_doClerk_b219 {s : ev_M} {x1 : Int32} {x5 : Int32} {j2 : Option ev_V} {j3 : Option ev_V} {j4 : Option ev_V} {j6 : Option ev_V} {q : ev_M × Int32} (h : fM_doClerk_b219 s x1 x5 = some q) : RR 411 219 [oR 549 0, oI x1, j2, j3, j4, oI x5, j6] [] s (cvI q) := by
  refine rg_step 2 (G' := fun f => if x5 = 0 then evT f 411 224 [oR 549 0, oI x1, nn, nn, nn, oI x5, nn] [] s else evT f 411 234 [oR 549 0, oI x1, nn, nn, nn, oI x5, nn] [] s) (fun _ => rfl) (rg_if h (fun h => ?_) fun h => ?_)
  · refine rg_step 4 (G' := fun f => if inb x1 300 = true then evT f 411 230 [oR 549 0, oI x1, nn, nn, nn, oI x5, nn] [vI (s.1 604 (ix x1))] s else none) (fun _ => rfl) (rg_gd h fun h => ?_)
    refine rg_step 2 (G' := fun f => if (s.1 604 (ix x1)) = (cI 3) then evT f 411 234 [oR 549 0, oI x1, nn, nn, nn, oI x5, nn] [] s else evT f 411 243 [oR 549 0, oI x1, nn, nn, nn, oI x5, nn] [] s) (fun _ => rfl) (rg_if h (fun h => ?_) fun h => ?_)
    · exact (t_fM_doClerk_b234) h
    · exact rg_end 2 (fun _ => rfl) (by cases h; rfl)
  · exact (t_fM_doClerk_b234) h
theorem ti_fM_doClerk_h56 : ∀ (n : Nat) (s : ev_M) (x1 : Int32) (x2 : Int32) (x3 : Int32) (x4 : Int32) (x5 : Int32) (x6 : Int32) (q : ev_M × Int32), fM_doClerk_h56 n s x1 x2 x3 x4 x5 x6 = some q → RR 411 56 [oR 549 0, oI x1, oI x2, oI x3, oI x4, oI x5, oI x6] [] s (cvI q) := by
  intro n
  induction n with
  | zero => intro s x1 x2 x3 x4 x5 x6 q h; cases h
  | succ n ih =>
    have hk56 : ∀ {s : ev_M} {x1 : Int32} {x2 : Int32} {x3 : Int32} {x4 : Int32} {x5 : Int32} {x6 : Int32} {q : ev_M × Int32}, fM_doClerk_h56 n s x1 x2 x3 x4 x5 x6 = some q → RR 411 56 [oR 549 0, oI x1, oI x2, oI x3, oI x4, oI x5, oI x6] [] s (cvI q) := fun h => ih _ _ _ _ _ _ _ _ h
    intro s x1 x2 x3 x4 x5 x6 q h
    refine rg_step 8 (G' := fun f => if inb x1 300 = true then evT f 411 67 [oR 549 0, oI x1, oI x2, oI x3, oI x4, oI x5, oI x6] [vI (s.1 604 (ix x1)), vI ((cI 3) * x1), vI x6] s else none) (fun _ => rfl) (rg_gd h fun h => ?_)
    refine rg_step 2 (G' := fun f => if x6 < (((cI 3) * x1) + (s.1 604 (ix x1))) then evT f 411 71 [oR 549 0, oI x1, oI x2, oI x3, oI x4, oI x5, oI x6] [] s else evT f 411 123 [oR 549 0, oI x1, oI x2, oI x3, oI x4, oI x5, oI x6] [] s) (fun _ => rfl) (rg_if h (fun h => ?_) fun h => ?_)
    · refine rg_step 2 (G' := fun f => if x4 = 0 then evT f 411 76 [oR 549 0, oI x1, oI x2, oI x3, oI x4, oI x5, oI x6] [] s else evT f 411 87 [oR 549 0, oI x1, oI x2, oI x3, oI x4, oI x5, oI x6] [] s) (fun _ => rfl) (rg_if h (fun h => ?_) fun h => ?_)
      · refine rg_step 4 (G' := fun f => if inb x6 900 = true then evT f 411 83 [oR 549 0, oI x1, oI x2, oI x3, oI x4, oI x5, oI x6] [vI (s.1 605 (ix x6))] s else none) (fun _ => rfl) (rg_gd h fun h => ?_)
        refine rg_step 2 (G' := fun f => if (s.1 605 (ix x6)) = x2 then evT f 411 87 [oR 549 0, oI x1, oI x2, oI x3, oI x4, oI x5, oI x6] [] s else evT f 411 91 [oR 549 0, oI x1, oI x2, oI x3, oI x4, oI x5, oI x6] [] s) (fun _ => rfl) (rg_if h (fun h => ?_) fun h => ?_)
        · exact (t_fM_doClerk_b87 hk56) h
        · exact rg_step 1 (G' := fun f => evT f 411 92 [oR 549 0, oI x1, oI x2, oI x3, oI x4, oI x5, oI x6] [vI (cI 0)] s) (fun _ => rfl) ((t_fM_doClerk_b92 hk56) h)
      · exact (t_fM_doClerk_b87 hk56) h
    · refine rg_step 4 (G' := fun f => if inb x1 300 = true then evT f 411 129 [oR 549 0, oI x1, oI x2, oI x3, oI x4, oI x5, oI x6] [vI (s.1 601 (ix x1))] s else none) (fun _ => rfl) (rg_gd h fun h => ?_)
      refine rg_step 2 (G' := fun f => if (s.1 601 (ix x1)) = (cI 1) then evT f 411 133 [oR 549 0, oI x1, oI x2, oI x3, oI x4, oI x5, oI x6] [] s else evT f 411 138 [oR 549 0, oI x1, oI x2, oI x3, oI x4, oI x5, oI x6] [] s) (fun _ => rfl) (rg_if h (fun h => ?_) fun h => ?_)
      · refine rg_step 2 (G' := fun f => if x4 = 0 then evT f 411 145 [oR 549 0, oI x1, oI x2, oI x3, oI x4, oI x5, oI x6] [] s else evT f 411 138 [oR 549 0, oI x1, oI x2, oI x3, oI x4, oI x5, oI x6] [] s) (fun _ => rfl) (rg_if h (fun h => ?_) fun h => ?_)
        · refine rg_step 2 (G' := fun f => ev_after (evT f 316 0 [oR 549 0, nn] [] s) (fun q => evT f 411 149 [oR 549 0, oI x1, oI x2, oI x3, oI x4, oI x5, oI x6] (q.2 ++ []) q.1)) (fun _ => rfl) (rg_bd1 h fun v6 hc h => rg_call (q := cvP s v6) (T_fM_full hc) ?_)
          refine rg_step 1 (G' := fun f => if v6 = 0 then evT f 411 159 [oR 549 0, oI x1, oI x2, oI x3, oI x4, oI x5, oI x6] [] s else evT f 411 152 [oR 549 0, oI x1, oI x2, oI x3, oI x4, oI x5, oI x6] [] s) (fun _ => rfl) (rg_if h (fun h => ?_) fun h => ?_)
          · refine rg_step 9 (G' := fun f => if inb x1 300 = true then evT f 411 172 [oR 549 0, oI x1, oI x2, oI x3, oI x4, oI x5, oI x6] [vI (s.1 604 (ix x1)), vI ((cI 3) * x1), vR 605 0] s else none) (fun _ => rfl) (rg_gd h fun h => ?_)
            refine rg_step 3 (G' := fun f => if inb (((cI 3) * x1) + (s.1 604 (ix x1))) 900 = true then evT f 411 175 [oR 549 0, oI x1, oI x2, oI x3, oI x4, oI x5, oI x6] [] (wI s 605 (ix (((cI 3) * x1) + (s.1 604 (ix x1)))) x2) else none) (fun _ => rfl) (rg_gd h fun h => rg_ltM h fun s7 h => ?_)
            refine rg_step 9 (G' := fun f => if inb x1 300 = true then evT f 411 188 [oR 549 0, oI x1, oI x2, oI x3, oI x4, oI x5, oI x6] [vI (s7.1 604 (ix x1)), vI ((cI 3) * x1), vR 606 0] s7 else none) (fun _ => rfl) (rg_gd h fun h => ?_)
            refine rg_step 3 (G' := fun f => if inb (((cI 3) * x1) + (s7.1 604 (ix x1))) 900 = true then evT f 411 191 [oR 549 0, oI x1, oI x2, oI x3, oI x4, oI x5, oI x6] [] (wI s7 606 (ix (((cI 3) * x1) + (s7.1 604 (ix x1)))) x3) else none) (fun _ => rfl) (rg_gd h fun h => rg_ltM h fun s8 h => ?_)
            refine rg_step 5 (G' := fun f => if inb x1 300 = true then evT f 411 198 [oR 549 0, oI x1, oI x2, oI x3, oI x4, oI x5, oI x6] [vI (s8.1 604 (ix x1)), vI x1, vR 604 0] s8 else none) (fun _ => rfl) (rg_gd h fun h => ?_)
            refine rg_step 3 (G' := fun f => if inb x1 300 = true then evT f 411 201 [oR 549 0, oI x1, oI x2, oI x3, oI x4, oI x5, oI x6] [] (wI s8 604 (ix x1) ((s8.1 604 (ix x1)) + (cI 1))) else none) (fun _ => rfl) (rg_gd h fun h => rg_ltM h fun s9 h => ?_)
            refine rg_step 2 (G' := fun f => if x5 = 0 then evT f 411 219 [oR 549 0, oI x1, oI x2, oI x3, oI x4, oI x5, oI x6] [] s9 else evT f 411 206 [oR 549 0, oI x1, oI x2, oI x3, oI x4, oI x5, oI x6] [] s9) (fun _ => rfl) (rg_if h (fun h => ?_) fun h => ?_)
            · exact (t_fM_doClerk_b219) h
            · refine rg_step 3 (G' := fun f => if x3 = (cI (-1)) then evT f 411 219 [oR 549 0, oI x1, oI x2, oI x3, oI x4, oI x5, oI x6] [] s9 else evT f 411 211 [oR 549 0, oI x1, oI x2, oI x3, oI x4, oI x5, oI x6] [] s9) (fun _ => rfl) (rg_if h (fun h => ?_) fun h => ?_)
              · exact (t_fM_doClerk_b219) h
              · refine rg_step 4 (G' := fun f => ev_after (evT f 406 0 [oR 549 0, oI x1, oI x3] [] s9) (fun q => evT f 411 217 [oR 549 0, oI x1, oI x2, oI x3, oI x4, oI x5, oI x6] (q.2 ++ []) q.1)) (fun _ => rfl) (rg_bd1 h fun s10 hc h => rg_call (q := cvV s10) (T_fM_settle hc) ?_)
                exact rg_end 2 (fun _ => rfl) (by cases h; rfl)
          · refine rg_step 3 (G' := fun f => ev_after (evT f 315 0 [oR 549 0, oI (cI (-104))] [] s) (fun q => evT f 411 158 [oR 549 0, oI x1, oI x2, oI x3, oI x4, oI x5, oI x6] (q.2 ++ []) q.1)) (fun _ => rfl) (rg_bd2 h fun s11 v12 hc h => rg_call (q := cvI (s11, v12)) (T_fM_no hc) ?_)
            exact rg_end 1 (fun _ => rfl) (by cases h; rfl)
        · exact (t_fM_doClerk_b138) h
      · exact (t_fM_doClerk_b138) h
theorem t_fM_doClerk_h56 {n : Nat} {s : ev_M} {x1 : Int32} {x2 : Int32} {x3 : Int32} {x4 : Int32} {x5 : Int32} {x6 : Int32} {q : ev_M × Int32} (h : fM_doClerk_h56 n s x1 x2 x3 x4 x5 x6 = some q) : RR 411 56 [oR 549 0, oI x1, oI x2, oI x3, oI x4, oI x5, oI x6] [] s (cvI q) := ti_fM_doClerk_h56 n s x1 x2 x3 x4 x5 x6 q h
theorem t_fM_doClerk_b28 {s : ev_M} {x1 : Int32} {x2 : Int32} {x3 : Int32} {j4 : Option ev_V} {j5 : Option ev_V} {j6 : Option ev_V} {q : ev_M × Int32} (h : fM_doClerk_b28 s x1 x2 x3 = some q) : RR 411 28 [oR 549 0, oI x1, oI x2, oI x3, j4, j5, j6] [] s (cvI q) := by
  refine rg_step 4 (G' := fun f => ev_after (evT f 311 0 [oI x2, oI (cI 0), oI (cI 9)] [] s) (fun q => evT f 411 35 [oR 549 0, oI x1, oI x2, oI x3, nn, nn, nn] (q.2 ++ []) q.1)) (fun _ => rfl) (rg_bd1 h fun v13 hc h => rg_call (q := cvP s v13) (T_fM_in hc) ?_)
  refine rg_step 1 (G' := fun f => if v13 = 0 then evT f 411 38 [oR 549 0, oI x1, oI x2, oI x3, nn, nn, nn] [] s else evT f 411 45 [oR 549 0, oI x1, oI x2, oI x3, nn, nn, nn] [] s) (fun _ => rfl) (rg_if h (fun h => ?_) fun h => ?_)
  · refine rg_step 3 (G' := fun f => ev_after (evT f 315 0 [oR 549 0, oI (cI (-102))] [] s) (fun q => evT f 411 44 [oR 549 0, oI x1, oI x2, oI x3, nn, nn, nn] (q.2 ++ []) q.1)) (fun _ => rfl) (rg_bd2 h fun s14 v15 hc h => rg_call (q := cvI (s14, v15)) (T_fM_no hc) ?_)
    exact rg_end 1 (fun _ => rfl) (by cases h; rfl)
  · refine rg_step 8 (G' := fun f => evT f 411 56 [oR 549 0, oI x1, oI x2, oI x3, oI (cI 0), oI (cI 0), oI ((cI 3) * x1)] [] s) (fun _ => rfl) (rg_ltI (P := fun v16 => RG (fun f => evT f 411 56 [oR 549 0, oI x1, oI x2, oI x3, oI (cI 0), oI (cI 0), oI v16] [] s) (cvI q)) h fun v16 h => ?_)
    exact (t_fM_doClerk_h56) h
theorem T_fM_doClerk {s : ev_M} {a1 : Int32} {a2 : Int32} {a3 : Int32} {q : ev_M × Int32} (h : fM_doClerk s a1 a2 a3 = some q) : RR 411 0 [oR 549 0, oI a1, oI a2, oI a3, nn, nn, nn] [] s (cvI q) := by
  refine rg_step 3 (G' := fun f => ev_after (evT f 342 0 [oR 549 0, oI a1] [] s) (fun q => evT f 411 5 [oR 549 0, oI a1, oI a2, oI a3, nn, nn, nn] (q.2 ++ []) q.1)) (fun _ => rfl) (rg_bd1 h fun v17 hc h => rg_call (q := cvP s v17) (T_fM_isItem hc) ?_)
  refine rg_step 1 (G' := fun f => if v17 = 0 then evT f 411 21 [oR 549 0, oI a1, oI a2, oI a3, nn, nn, nn] [] s else evT f 411 8 [oR 549 0, oI a1, oI a2, oI a3, nn, nn, nn] [] s) (fun _ => rfl) (rg_if h (fun h => ?_) fun h => ?_)
  · exact (t_fM_doClerk_b21) h
  · refine rg_step 3 (G' := fun f => if a3 = (cI (-1)) then evT f 411 28 [oR 549 0, oI a1, oI a2, oI a3, nn, nn, nn] [] s else evT f 411 13 [oR 549 0, oI a1, oI a2, oI a3, nn, nn, nn] [] s) (fun _ => rfl) (rg_if h (fun h => ?_) fun h => ?_)
    · exact (t_fM_doClerk_b28) h
    · refine rg_step 3 (G' := fun f => ev_after (evT f 341 0 [oR 549 0, oI a3] [] s) (fun q => evT f 411 18 [oR 549 0, oI a1, oI a2, oI a3, nn, nn, nn] (q.2 ++ []) q.1)) (fun _ => rfl) (rg_bd1 h fun v18 hc h => rg_call (q := cvP s v18) (T_fM_isPoint hc) ?_)
      refine rg_step 1 (G' := fun f => if v18 = 0 then evT f 411 21 [oR 549 0, oI a1, oI a2, oI a3, nn, nn, nn] [] s else evT f 411 28 [oR 549 0, oI a1, oI a2, oI a3, nn, nn, nn] [] s) (fun _ => rfl) (rg_if h (fun h => ?_) fun h => ?_)
      · exact (t_fM_doClerk_b21) h
      · exact (t_fM_doClerk_b28) h
theorem T_fM_isPlace {s : ev_M} {a1 : Int32} {q : Int32} (h : fM_isPlace s a1 = some q) : RR 343 0 [oR 549 0, oI a1] [] s (cvP s q) := by
  refine rg_step 7 (G' := fun f => ev_after (evT f 311 0 [oI a1, oI (cI 0), oI ((s.1 549 24) - (cI 1))] [] s) (fun q => evT f 343 11 [oR 549 0, oI a1] (q.2 ++ []) q.1)) (fun _ => rfl) (rg_bd1 h fun v1 hc h => rg_call (q := cvP s v1) (T_fM_in hc) ?_)
  exact rg_step 1 (G' := fun f => if bz v1 = true then some (s, [vI v1]) else none) (fun _ => rfl) (rg_gd h fun h => rg_end 0 (fun _ => rfl) (by cases h; rfl))
theorem T_fM_comesIn {s : ev_M} {a1 : Int32} {a2 : Int32} {q : ev_M} (h : fM_comesIn s a1 a2 = some q) : RR 353 0 [oR 549 0, oI a1, oI a2] [] s (cvV q) := by
  refine rg_step 3 (G' := fun f => ev_after (evT f 352 0 [oR 549 0, oI a1] [] s) (fun q => evT f 353 5 [oR 549 0, oI a1, oI a2] (q.2 ++ []) q.1)) (fun _ => rfl) (rg_bd1 h fun s1 hc h => rg_call (q := cvV s1) (T_fM_leaves hc) ?_)
  refine rg_step 5 (G' := fun f => if inb a1 300 = true then evT f 353 12 [oR 549 0, oI a1, oI a2] [] (wI s1 591 (ix a1) a2) else none) (fun _ => rfl) (rg_gd h fun h => rg_ltM h fun s2 h => ?_)
  refine rg_step 6 (G' := fun f => evT f 353 22 [oR 549 0, oI a1, oI a2] [] (wI s2 549 23 ((s2.1 549 23) + (cI 1)))) (fun _ => rfl) (rg_ltM h fun s3 h => ?_)
  refine rg_step 6 (G' := fun f => if inb a1 300 = true then evT f 353 32 [oR 549 0, oI a1, oI a2] [] (wI s3 592 (ix a1) (s3.1 549 23)) else none) (fun _ => rfl) (rg_gd h fun h => rg_ltM h fun s4 h => ?_)
  refine rg_step 4 (G' := fun f => ev_after (evT f 351 0 [oR 549 0, oI a1, oI (cI 1)] [] s4) (fun q => evT f 353 38 [oR 549 0, oI a1, oI a2] (q.2 ++ []) q.1)) (fun _ => rfl) (rg_bd1 h fun s5 hc h => rg_call (q := cvV s5) (T_fM_comes hc) ?_)
  exact rg_end 1 (fun _ => rfl) (by cases h; rfl)
theorem t_fM_doPost_b16 {s : ev_M} {j1 : Option ev_V} {j2 : Option ev_V} {q : ev_M × Int32} (h : fM_doPost_b16 s = some q) : RR 413 16 [oR 549 0, j1, j2] [] s (cvI q) := by
  refine rg_step 3 (G' := fun f => ev_after (evT f 315 0 [oR 549 0, oI (cI (-101))] [] s) (fun q => evT f 413 22 [oR 549 0, nn, nn] (q.2 ++ []) q.1)) (fun _ => rfl) (rg_bd2 h fun s1 v2 hc h => rg_call (q := cvI (s1, v2)) (T_fM_no hc) ?_)
  exact rg_end 1 (fun _ => rfl) (by cases h; rfl)
theorem T_fM_doPost {s : ev_M} {a1 : Int32} {a2 : Int32} {q : ev_M × Int32} (h : fM_doPost s a1 a2 = some q) : RR 413 0 [oR 549 0, oI a1, oI a2] [] s (cvI q) := by
  refine rg_step 3 (G' := fun f => ev_after (evT f 342 0 [oR 549 0, oI a1] [] s) (fun q => evT f 413 5 [oR 549 0, oI a1, oI a2] (q.2 ++ []) q.1)) (fun _ => rfl) (rg_bd1 h fun v3 hc h => rg_call (q := cvP s v3) (T_fM_isItem hc) ?_)
  refine rg_step 1 (G' := fun f => if v3 = 0 then evT f 413 16 [oR 549 0, oI a1, oI a2] [] s else evT f 413 8 [oR 549 0, oI a1, oI a2] [] s) (fun _ => rfl) (rg_if h (fun h => ?_) fun h => ?_)
  · exact (t_fM_doPost_b16) h
  · refine rg_step 3 (G' := fun f => ev_after (evT f 343 0 [oR 549 0, oI a2] [] s) (fun q => evT f 413 13 [oR 549 0, oI a1, oI a2] (q.2 ++ []) q.1)) (fun _ => rfl) (rg_bd1 h fun v4 hc h => rg_call (q := cvP s v4) (T_fM_isPlace hc) ?_)
    refine rg_step 1 (G' := fun f => if v4 = 0 then evT f 413 16 [oR 549 0, oI a1, oI a2] [] s else evT f 413 23 [oR 549 0, oI a1, oI a2] [] s) (fun _ => rfl) (rg_if h (fun h => ?_) fun h => ?_)
    · exact (t_fM_doPost_b16) h
    · refine rg_step 4 (G' := fun f => if inb a1 300 = true then evT f 413 29 [oR 549 0, oI a1, oI a2] [vI (s.1 583 (ix a1))] s else none) (fun _ => rfl) (rg_gd h fun h => ?_)
      refine rg_step 1 (G' := fun f => if (s.1 583 (ix a1)) = 0 then evT f 413 39 [oR 549 0, oI a1, oI a2] [] s else evT f 413 32 [oR 549 0, oI a1, oI a2] [] s) (fun _ => rfl) (rg_if h (fun h => ?_) fun h => ?_)
      · refine rg_step 2 (G' := fun f => ev_after (evT f 316 0 [oR 549 0, nn] [] s) (fun q => evT f 413 43 [oR 549 0, oI a1, oI a2] (q.2 ++ []) q.1)) (fun _ => rfl) (rg_bd1 h fun v5 hc h => rg_call (q := cvP s v5) (T_fM_full hc) ?_)
        refine rg_step 1 (G' := fun f => if v5 = 0 then evT f 413 53 [oR 549 0, oI a1, oI a2] [] s else evT f 413 46 [oR 549 0, oI a1, oI a2] [] s) (fun _ => rfl) (rg_if h (fun h => ?_) fun h => ?_)
        · refine rg_step 4 (G' := fun f => ev_after (evT f 353 0 [oR 549 0, oI a1, oI a2] [] s) (fun q => evT f 413 59 [oR 549 0, oI a1, oI a2] (q.2 ++ []) q.1)) (fun _ => rfl) (rg_bd1 h fun s6 hc h => rg_call (q := cvV s6) (T_fM_comesIn hc) ?_)
          exact rg_end 2 (fun _ => rfl) (by cases h; rfl)
        · refine rg_step 3 (G' := fun f => ev_after (evT f 315 0 [oR 549 0, oI (cI (-104))] [] s) (fun q => evT f 413 52 [oR 549 0, oI a1, oI a2] (q.2 ++ []) q.1)) (fun _ => rfl) (rg_bd2 h fun s7 v8 hc h => rg_call (q := cvI (s7, v8)) (T_fM_no hc) ?_)
          exact rg_end 1 (fun _ => rfl) (by cases h; rfl)
      · refine rg_step 3 (G' := fun f => ev_after (evT f 315 0 [oR 549 0, oI (cI (-103))] [] s) (fun q => evT f 413 38 [oR 549 0, oI a1, oI a2] (q.2 ++ []) q.1)) (fun _ => rfl) (rg_bd2 h fun s9 v10 hc h => rg_call (q := cvI (s9, v10)) (T_fM_no hc) ?_)
        exact rg_end 1 (fun _ => rfl) (by cases h; rfl)
theorem t_fM_doMachine_b44 {s : ev_M} {j1 : Option ev_V} {j2 : Option ev_V} {j3 : Option ev_V} {j4 : Option ev_V} {q : ev_M × Int32} (h : fM_doMachine_b44 s = some q) : RR 431 44 [oR 549 0, j1, j2, j3, j4] [] s (cvI q) := by
  refine rg_step 3 (G' := fun f => ev_after (evT f 315 0 [oR 549 0, oI (cI (-102))] [] s) (fun q => evT f 431 50 [oR 549 0, nn, nn, nn, nn] (q.2 ++ []) q.1)) (fun _ => rfl) (rg_bd2 h fun s1 v2 hc h => rg_call (q := cvI (s1, v2)) (T_fM_no hc) ?_)
  exact rg_end 1 (fun _ => rfl) (by cases h; rfl)
theorem T_fM_doMachine {s : ev_M} {a1 : Int32} {a2 : Int32} {a3 : Int32} {a4 : Int32} {q : ev_M × Int32} (h : fM_doMachine s a1 a2 a3 a4 = some q) : RR 431 0 [oR 549 0, oI a1, oI a2, oI a3, oI a4] [] s (cvI q) := by
  refine rg_step 4 (G' := fun f => ev_after (evT f 311 0 [oI a1, oI (cI 2), oI (cI 16)] [] s) (fun q => evT f 431 7 [oR 549 0, oI a1, oI a2, oI a3, oI a4] (q.2 ++ []) q.1)) (fun _ => rfl) (rg_bd1 h fun v3 hc h => rg_call (q := cvP s v3) (T_fM_in hc) ?_)
  refine rg_step 1 (G' := fun f => if v3 = 0 then evT f 431 44 [oR 549 0, oI a1, oI a2, oI a3, oI a4] [] s else evT f 431 10 [oR 549 0, oI a1, oI a2, oI a3, oI a4] [] s) (fun _ => rfl) (rg_if h (fun h => ?_) fun h => ?_)
  · exact (t_fM_doMachine_b44) h
  · refine rg_step 4 (G' := fun f => ev_after (evT f 311 0 [oI a2, oI (cI 1), oI (cI 2000)] [] s) (fun q => evT f 431 18 [oR 549 0, oI a1, oI a2, oI a3, oI a4] (q.2 ++ []) q.1)) (fun _ => rfl) (rg_bd1 h fun v4 hc h => rg_call (q := cvP s v4) (T_fM_in hc) ?_)
    refine rg_step 1 (G' := fun f => if v4 = 0 then evT f 431 44 [oR 549 0, oI a1, oI a2, oI a3, oI a4] [] s else evT f 431 21 [oR 549 0, oI a1, oI a2, oI a3, oI a4] [] s) (fun _ => rfl) (rg_if h (fun h => ?_) fun h => ?_)
    · exact (t_fM_doMachine_b44) h
    · refine rg_step 4 (G' := fun f => ev_after (evT f 311 0 [oI a3, oI (cI 1), oI (cI 500)] [] s) (fun q => evT f 431 29 [oR 549 0, oI a1, oI a2, oI a3, oI a4] (q.2 ++ []) q.1)) (fun _ => rfl) (rg_bd1 h fun v5 hc h => rg_call (q := cvP s v5) (T_fM_in hc) ?_)
      refine rg_step 1 (G' := fun f => if v5 = 0 then evT f 431 44 [oR 549 0, oI a1, oI a2, oI a3, oI a4] [] s else evT f 431 32 [oR 549 0, oI a1, oI a2, oI a3, oI a4] [] s) (fun _ => rfl) (rg_if h (fun h => ?_) fun h => ?_)
      · exact (t_fM_doMachine_b44) h
      · refine rg_step 4 (G' := fun f => ev_after (evT f 311 0 [oI a4, oI (cI 0), oI (cI 4000)] [] s) (fun q => evT f 431 41 [oR 549 0, oI a1, oI a2, oI a3, oI a4] (q.2 ++ []) q.1)) (fun _ => rfl) (rg_bd1 h fun v6 hc h => rg_call (q := cvP s v6) (T_fM_in hc) ?_)
        refine rg_step 1 (G' := fun f => if v6 = 0 then evT f 431 44 [oR 549 0, oI a1, oI a2, oI a3, oI a4] [] s else evT f 431 51 [oR 549 0, oI a1, oI a2, oI a3, oI a4] [] s) (fun _ => rfl) (rg_if h (fun h => ?_) fun h => ?_)
        · exact (t_fM_doMachine_b44) h
        · refine rg_step 2 (G' := fun f => ev_after (evT f 316 0 [oR 549 0, nn] [] s) (fun q => evT f 431 55 [oR 549 0, oI a1, oI a2, oI a3, oI a4] (q.2 ++ []) q.1)) (fun _ => rfl) (rg_bd1 h fun v7 hc h => rg_call (q := cvP s v7) (T_fM_full hc) ?_)
          refine rg_step 1 (G' := fun f => if v7 = 0 then evT f 431 65 [oR 549 0, oI a1, oI a2, oI a3, oI a4] [] s else evT f 431 58 [oR 549 0, oI a1, oI a2, oI a3, oI a4] [] s) (fun _ => rfl) (rg_if h (fun h => ?_) fun h => ?_)
          · refine rg_step 3 (G' := fun f => evT f 431 70 [oR 549 0, oI a1, oI a2, oI a3, oI a4] [] (wI s 549 83 a1)) (fun _ => rfl) (rg_ltM h fun s8 h => ?_)
            refine rg_step 3 (G' := fun f => evT f 431 75 [oR 549 0, oI a1, oI a2, oI a3, oI a4] [] (wI s8 549 84 a2)) (fun _ => rfl) (rg_ltM h fun s9 h => ?_)
            refine rg_step 3 (G' := fun f => evT f 431 80 [oR 549 0, oI a1, oI a2, oI a3, oI a4] [] (wI s9 549 85 a3)) (fun _ => rfl) (rg_ltM h fun s10 h => ?_)
            refine rg_step 3 (G' := fun f => evT f 431 86 [oR 549 0, oI a1, oI a2, oI a3, oI a4] [] (wI s10 549 86 a4)) (fun _ => rfl) (rg_ltM h fun s11 h => ?_)
            exact rg_end 2 (fun _ => rfl) (by cases h; rfl)
          · refine rg_step 3 (G' := fun f => ev_after (evT f 315 0 [oR 549 0, oI (cI (-104))] [] s) (fun q => evT f 431 64 [oR 549 0, oI a1, oI a2, oI a3, oI a4] (q.2 ++ []) q.1)) (fun _ => rfl) (rg_bd2 h fun s12 v13 hc h => rg_call (q := cvI (s12, v13)) (T_fM_no hc) ?_)
            exact rg_end 1 (fun _ => rfl) (by cases h; rfl)
theorem t_fM_doRound_b41 {s : ev_M} {j1 : Option ev_V} {j2 : Option ev_V} {j3 : Option ev_V} {q : ev_M × Int32} (h : fM_doRound_b41 s = some q) : RR 433 41 [oR 549 0, j1, j2, j3] [] s (cvI q) := by
  refine rg_step 3 (G' := fun f => ev_after (evT f 315 0 [oR 549 0, oI (cI (-102))] [] s) (fun q => evT f 433 47 [oR 549 0, nn, nn, nn] (q.2 ++ []) q.1)) (fun _ => rfl) (rg_bd2 h fun s1 v2 hc h => rg_call (q := cvI (s1, v2)) (T_fM_no hc) ?_)
  exact rg_end 1 (fun _ => rfl) (by cases h; rfl)
theorem t_fM_doRound_b64 {s : ev_M} {j1 : Option ev_V} {j2 : Option ev_V} {j3 : Option ev_V} {q : ev_M × Int32} (h : fM_doRound_b64 s = some q) : RR 433 64 [oR 549 0, j1, j2, j3] [] s (cvI q) := by
  refine rg_step 3 (G' := fun f => ev_after (evT f 315 0 [oR 549 0, oI (cI (-104))] [] s) (fun q => evT f 433 70 [oR 549 0, nn, nn, nn] (q.2 ++ []) q.1)) (fun _ => rfl) (rg_bd2 h fun s3 v4 hc h => rg_call (q := cvI (s3, v4)) (T_fM_no hc) ?_)
  exact rg_end 1 (fun _ => rfl) (by cases h; rfl)
theorem T_fM_doRound {s : ev_M} {a1 : Int32} {a2 : Int32} {a3 : Int32} {q : ev_M × Int32} (h : fM_doRound s a1 a2 a3 = some q) : RR 433 0 [oR 549 0, oI a1, oI a2, oI a3] [] s (cvI q) := by
  refine rg_step 3 (G' := fun f => ev_after (evT f 343 0 [oR 549 0, oI a1] [] s) (fun q => evT f 433 5 [oR 549 0, oI a1, oI a2, oI a3] (q.2 ++ []) q.1)) (fun _ => rfl) (rg_bd1 h fun v5 hc h => rg_call (q := cvP s v5) (T_fM_isPlace hc) ?_)
  refine rg_step 1 (G' := fun f => if v5 = 0 then evT f 433 8 [oR 549 0, oI a1, oI a2, oI a3] [] s else evT f 433 15 [oR 549 0, oI a1, oI a2, oI a3] [] s) (fun _ => rfl) (rg_if h (fun h => ?_) fun h => ?_)
  · refine rg_step 3 (G' := fun f => ev_after (evT f 315 0 [oR 549 0, oI (cI (-101))] [] s) (fun q => evT f 433 14 [oR 549 0, oI a1, oI a2, oI a3] (q.2 ++ []) q.1)) (fun _ => rfl) (rg_bd2 h fun s6 v7 hc h => rg_call (q := cvI (s6, v7)) (T_fM_no hc) ?_)
    exact rg_end 1 (fun _ => rfl) (by cases h; rfl)
  · refine rg_step 4 (G' := fun f => ev_after (evT f 311 0 [oI a2, oI (cI (-2000)), oI (cI 2000)] [] s) (fun q => evT f 433 25 [oR 549 0, oI a1, oI a2, oI a3] (q.2 ++ []) q.1)) (fun _ => rfl) (rg_bd1 h fun v8 hc h => rg_call (q := cvP s v8) (T_fM_in hc) ?_)
    refine rg_step 1 (G' := fun f => if v8 = 0 then evT f 433 41 [oR 549 0, oI a1, oI a2, oI a3] [] s else evT f 433 28 [oR 549 0, oI a1, oI a2, oI a3] [] s) (fun _ => rfl) (rg_if h (fun h => ?_) fun h => ?_)
    · exact (t_fM_doRound_b41) h
    · refine rg_step 4 (G' := fun f => ev_after (evT f 311 0 [oI a3, oI (cI (-2000)), oI (cI 2000)] [] s) (fun q => evT f 433 38 [oR 549 0, oI a1, oI a2, oI a3] (q.2 ++ []) q.1)) (fun _ => rfl) (rg_bd1 h fun v9 hc h => rg_call (q := cvP s v9) (T_fM_in hc) ?_)
      refine rg_step 1 (G' := fun f => if v9 = 0 then evT f 433 41 [oR 549 0, oI a1, oI a2, oI a3] [] s else evT f 433 48 [oR 549 0, oI a1, oI a2, oI a3] [] s) (fun _ => rfl) (rg_if h (fun h => ?_) fun h => ?_)
      · exact (t_fM_doRound_b41) h
      · refine rg_step 4 (G' := fun f => if (s.1 549 87) = (cI 12) then evT f 433 64 [oR 549 0, oI a1, oI a2, oI a3] [] s else evT f 433 57 [oR 549 0, oI a1, oI a2, oI a3] [] s) (fun _ => rfl) (rg_if h (fun h => ?_) fun h => ?_)
        · exact (t_fM_doRound_b64) h
        · refine rg_step 2 (G' := fun f => ev_after (evT f 316 0 [oR 549 0, nn] [] s) (fun q => evT f 433 61 [oR 549 0, oI a1, oI a2, oI a3] (q.2 ++ []) q.1)) (fun _ => rfl) (rg_bd1 h fun v10 hc h => rg_call (q := cvP s v10) (T_fM_full hc) ?_)
          refine rg_step 1 (G' := fun f => if v10 = 0 then evT f 433 71 [oR 549 0, oI a1, oI a2, oI a3] [] s else evT f 433 64 [oR 549 0, oI a1, oI a2, oI a3] [] s) (fun _ => rfl) (rg_if h (fun h => ?_) fun h => ?_)
          · refine rg_step 6 (G' := fun f => if inb (s.1 549 87) 12 = true then evT f 433 81 [oR 549 0, oI a1, oI a2, oI a3] [] (wI s 607 (ix (s.1 549 87)) a1) else none) (fun _ => rfl) (rg_gd h fun h => rg_ltM h fun s11 h => ?_)
            refine rg_step 6 (G' := fun f => if inb (s11.1 549 87) 12 = true then evT f 433 91 [oR 549 0, oI a1, oI a2, oI a3] [] (wI s11 608 (ix (s11.1 549 87)) a2) else none) (fun _ => rfl) (rg_gd h fun h => rg_ltM h fun s12 h => ?_)
            refine rg_step 6 (G' := fun f => if inb (s12.1 549 87) 12 = true then evT f 433 101 [oR 549 0, oI a1, oI a2, oI a3] [] (wI s12 609 (ix (s12.1 549 87)) a3) else none) (fun _ => rfl) (rg_gd h fun h => rg_ltM h fun s13 h => ?_)
            refine rg_step 6 (G' := fun f => evT f 433 111 [oR 549 0, oI a1, oI a2, oI a3] [] (wI s13 549 87 ((s13.1 549 87) + (cI 1)))) (fun _ => rfl) (rg_ltM h fun s14 h => ?_)
            exact rg_end 5 (fun _ => rfl) (by cases h; rfl)
          · exact (t_fM_doRound_b64) h
theorem T_fM_isRound {s : ev_M} {a1 : Int32} {q : Int32} (h : fM_isRound s a1 = some q) : RR 344 0 [oR 549 0, oI a1] [] s (cvP s q) := by
  refine rg_step 7 (G' := fun f => ev_after (evT f 311 0 [oI a1, oI (cI 0), oI ((s.1 549 87) - (cI 1))] [] s) (fun q => evT f 344 11 [oR 549 0, oI a1] (q.2 ++ []) q.1)) (fun _ => rfl) (rg_bd1 h fun v1 hc h => rg_call (q := cvP s v1) (T_fM_in hc) ?_)
  exact rg_step 1 (G' := fun f => if bz v1 = true then some (s, [vI v1]) else none) (fun _ => rfl) (rg_gd h fun h => rg_end 0 (fun _ => rfl) (by cases h; rfl))
theorem T_fM_placeOf {s : ev_M} {a1 : Int32} {q : Int32} (h : fM_placeOf s a1 = some q) : RR 348 0 [oR 549 0, oI a1] [] s (cvP s q) := by
  refine rg_step 6 (G' := fun f => if inb a1 120 = true then evT f 348 10 [oR 549 0, oI a1] [vI (s.1 569 (ix a1)), vR 560 0] s else none) (fun _ => rfl) (rg_gd h fun h => ?_)
  refine rg_step 1 (G' := fun f => if inb (s.1 569 (ix a1)) 30 = true then evT f 348 11 [oR 549 0, oI a1] [vI (s.1 560 (ix (s.1 569 (ix a1))))] s else none) (fun _ => rfl) (rg_gd h fun h => ?_)
  exact rg_end 1 (fun _ => rfl) (by cases h; rfl)
theorem t_fM_pointsOf_b29 {s : ev_M} {k4 : Int32 → Int32 → Int32 → Option Int32} (hk4 : ∀ {x1 : Int32} {x2 : Int32} {x3 : Int32} {q : Int32}, k4 x1 x2 x3 = some q → RR 435 4 [oR 549 0, oI x1, oI x2, oI x3] [] s (cvP s q)) {x1 : Int32} {x3 : Int32} {y0 : Int32} {j2 : Option ev_V} {q : Int32} (h : fM_pointsOf_b29 s k4 x1 x3 y0 = some q) : RR 435 29 [oR 549 0, oI x1, j2, oI x3] [vI y0] s (cvP s q) := by
  exact rg_step 3 (G' := fun f => evT f 435 4 [oR 549 0, oI x1, oI y0, oI (x3 + cI 1)] [] s) (fun _ => rfl) (hk4 h)
theorem ti_fM_pointsOf_h4 {s : ev_M} : ∀ (n : Nat) (x1 : Int32) (x2 : Int32) (x3 : Int32) (q : Int32), fM_pointsOf_h4 s n x1 x2 x3 = some q → RR 435 4 [oR 549 0, oI x1, oI x2, oI x3] [] s (cvP s q) := by
  intro n
  induction n with
  | zero => intro x1 x2 x3 q h; cases h
  | succ n ih =>
    have hk4 : ∀ {x1 : Int32} {x2 : Int32} {x3 : Int32} {q : Int32}, fM_pointsOf_h4 s n x1 x2 x3 = some q → RR 435 4 [oR 549 0, oI x1, oI x2, oI x3] [] s (cvP s q) := fun h => ih _ _ _ _ h
    intro x1 x2 x3 q h
    refine rg_step 4 (G' := fun f => if x3 < (s.1 549 38) then evT f 435 12 [oR 549 0, oI x1, oI x2, oI x3] [] s else evT f 435 36 [oR 549 0, oI x1, oI x2, oI x3] [] s) (fun _ => rfl) (rg_if h (fun h => ?_) fun h => ?_)
    · refine rg_step 4 (G' := fun f => if inb x3 120 = true then evT f 435 18 [oR 549 0, oI x1, oI x2, oI x3] [vI (s.1 571 (ix x3))] s else none) (fun _ => rfl) (rg_gd h fun h => ?_)
      refine rg_step 2 (G' := fun f => if (s.1 571 (ix x3)) = x1 then evT f 435 22 [oR 549 0, oI x1, oI x2, oI x3] [] s else evT f 435 28 [oR 549 0, oI x1, oI x2, oI x3] [] s) (fun _ => rfl) (rg_if h (fun h => ?_) fun h => ?_)
      · exact rg_step 4 (G' := fun f => evT f 435 29 [oR 549 0, oI x1, oI x2, oI x3] [vI (x2 + (cI 1))] s) (fun _ => rfl) ((t_fM_pointsOf_b29 hk4) h)
      · exact rg_step 1 (G' := fun f => evT f 435 29 [oR 549 0, oI x1, oI x2, oI x3] [vI x2] s) (fun _ => rfl) ((t_fM_pointsOf_b29 hk4) h)
    · exact rg_end 2 (fun _ => rfl) (by cases h; rfl)
theorem t_fM_pointsOf_h4 {s : ev_M} {n : Nat} {x1 : Int32} {x2 : Int32} {x3 : Int32} {q : Int32} (h : fM_pointsOf_h4 s n x1 x2 x3 = some q) : RR 435 4 [oR 549 0, oI x1, oI x2, oI x3] [] s (cvP s q) := ti_fM_pointsOf_h4 n x1 x2 x3 q h
theorem T_fM_pointsOf {s : ev_M} {a1 : Int32} {q : Int32} (h : fM_pointsOf s a1 = some q) : RR 435 0 [oR 549 0, oI a1, nn, nn] [] s (cvP s q) := by
  exact rg_step 4 (G' := fun f => evT f 435 4 [oR 549 0, oI a1, oI (cI 0), oI (cI 0)] [] s) (fun _ => rfl) ((t_fM_pointsOf_h4) h)
theorem t_fM_doAssign_b16 {s : ev_M} {j1 : Option ev_V} {j2 : Option ev_V} {j3 : Option ev_V} {q : ev_M × Int32} (h : fM_doAssign_b16 s = some q) : RR 436 16 [oR 549 0, j1, j2, j3] [] s (cvI q) := by
  refine rg_step 3 (G' := fun f => ev_after (evT f 315 0 [oR 549 0, oI (cI (-101))] [] s) (fun q => evT f 436 22 [oR 549 0, nn, nn, nn] (q.2 ++ []) q.1)) (fun _ => rfl) (rg_bd2 h fun s1 v2 hc h => rg_call (q := cvI (s1, v2)) (T_fM_no hc) ?_)
  exact rg_end 1 (fun _ => rfl) (by cases h; rfl)
theorem t_fM_doAssign_b47 {s : ev_M} {j1 : Option ev_V} {j2 : Option ev_V} {j3 : Option ev_V} {q : ev_M × Int32} (h : fM_doAssign_b47 s = some q) : RR 436 47 [oR 549 0, j1, j2, j3] [] s (cvI q) := by
  refine rg_step 3 (G' := fun f => ev_after (evT f 315 0 [oR 549 0, oI (cI (-103))] [] s) (fun q => evT f 436 53 [oR 549 0, nn, nn, nn] (q.2 ++ []) q.1)) (fun _ => rfl) (rg_bd2 h fun s3 v4 hc h => rg_call (q := cvI (s3, v4)) (T_fM_no hc) ?_)
  exact rg_end 1 (fun _ => rfl) (by cases h; rfl)
theorem t_fM_doAssign_b73 {s : ev_M} {j1 : Option ev_V} {j2 : Option ev_V} {j3 : Option ev_V} {q : ev_M × Int32} (h : fM_doAssign_b73 s = some q) : RR 436 73 [oR 549 0, j1, j2, j3] [] s (cvI q) := by
  refine rg_step 3 (G' := fun f => ev_after (evT f 315 0 [oR 549 0, oI (cI (-104))] [] s) (fun q => evT f 436 79 [oR 549 0, nn, nn, nn] (q.2 ++ []) q.1)) (fun _ => rfl) (rg_bd2 h fun s5 v6 hc h => rg_call (q := cvI (s5, v6)) (T_fM_no hc) ?_)
  exact rg_end 1 (fun _ => rfl) (by cases h; rfl)
theorem T_fM_doAssign {s : ev_M} {a1 : Int32} {a2 : Int32} {q : ev_M × Int32} (h : fM_doAssign s a1 a2 = some q) : RR 436 0 [oR 549 0, oI a1, oI a2, nn] [] s (cvI q) := by
  refine rg_step 3 (G' := fun f => ev_after (evT f 341 0 [oR 549 0, oI a1] [] s) (fun q => evT f 436 5 [oR 549 0, oI a1, oI a2, nn] (q.2 ++ []) q.1)) (fun _ => rfl) (rg_bd1 h fun v7 hc h => rg_call (q := cvP s v7) (T_fM_isPoint hc) ?_)
  refine rg_step 1 (G' := fun f => if v7 = 0 then evT f 436 16 [oR 549 0, oI a1, oI a2, nn] [] s else evT f 436 8 [oR 549 0, oI a1, oI a2, nn] [] s) (fun _ => rfl) (rg_if h (fun h => ?_) fun h => ?_)
  · exact (t_fM_doAssign_b16) h
  · refine rg_step 3 (G' := fun f => ev_after (evT f 344 0 [oR 549 0, oI a2] [] s) (fun q => evT f 436 13 [oR 549 0, oI a1, oI a2, nn] (q.2 ++ []) q.1)) (fun _ => rfl) (rg_bd1 h fun v8 hc h => rg_call (q := cvP s v8) (T_fM_isRound hc) ?_)
    refine rg_step 1 (G' := fun f => if v8 = 0 then evT f 436 16 [oR 549 0, oI a1, oI a2, nn] [] s else evT f 436 23 [oR 549 0, oI a1, oI a2, nn] [] s) (fun _ => rfl) (rg_if h (fun h => ?_) fun h => ?_)
    · exact (t_fM_doAssign_b16) h
    · refine rg_step 3 (G' := fun f => ev_after (evT f 348 0 [oR 549 0, oI a1] [] s) (fun q => evT f 436 28 [oR 549 0, oI a1, oI a2, nn] (q.2 ++ []) q.1)) (fun _ => rfl) (rg_bd1 h fun v9 hc h => rg_call (q := cvP s v9) (T_fM_placeOf hc) ?_)
      refine rg_step 4 (G' := fun f => if inb a2 12 = true then evT f 436 34 [oR 549 0, oI a1, oI a2, nn] [vI (s.1 607 (ix a2)), vI v9] s else none) (fun _ => rfl) (rg_gd h fun h => ?_)
      refine rg_step 1 (G' := fun f => if v9 = (s.1 607 (ix a2)) then evT f 436 37 [oR 549 0, oI a1, oI a2, nn] [] s else evT f 436 47 [oR 549 0, oI a1, oI a2, nn] [] s) (fun _ => rfl) (rg_if h (fun h => ?_) fun h => ?_)
      · refine rg_step 4 (G' := fun f => if inb a1 120 = true then evT f 436 43 [oR 549 0, oI a1, oI a2, nn] [vI (s.1 571 (ix a1))] s else none) (fun _ => rfl) (rg_gd h fun h => ?_)
        refine rg_step 2 (G' := fun f => if (s.1 571 (ix a1)) = (cI (-1)) then evT f 436 54 [oR 549 0, oI a1, oI a2, nn] [] s else evT f 436 47 [oR 549 0, oI a1, oI a2, nn] [] s) (fun _ => rfl) (rg_if h (fun h => ?_) fun h => ?_)
        · refine rg_step 3 (G' := fun f => ev_after (evT f 435 0 [oR 549 0, oI a2, nn, nn] [] s) (fun q => evT f 436 59 [oR 549 0, oI a1, oI a2, nn] (q.2 ++ []) q.1)) (fun _ => rfl) (rg_bd1 h fun v10 hc h => rg_call (q := cvP s v10) (T_fM_pointsOf hc) ?_)
          refine rg_step 4 (G' := fun f => if v10 = (cI 20) then evT f 436 73 [oR 549 0, oI a1, oI a2, oI v10] [] s else evT f 436 66 [oR 549 0, oI a1, oI a2, oI v10] [] s) (fun _ => rfl) (rg_if h (fun h => ?_) fun h => ?_)
          · exact (t_fM_doAssign_b73) h
          · refine rg_step 2 (G' := fun f => ev_after (evT f 316 0 [oR 549 0, nn] [] s) (fun q => evT f 436 70 [oR 549 0, oI a1, oI a2, oI v10] (q.2 ++ []) q.1)) (fun _ => rfl) (rg_bd1 h fun v11 hc h => rg_call (q := cvP s v11) (T_fM_full hc) ?_)
            refine rg_step 1 (G' := fun f => if v11 = 0 then evT f 436 80 [oR 549 0, oI a1, oI a2, oI v10] [] s else evT f 436 73 [oR 549 0, oI a1, oI a2, oI v10] [] s) (fun _ => rfl) (rg_if h (fun h => ?_) fun h => ?_)
            · refine rg_step 5 (G' := fun f => if inb a1 120 = true then evT f 436 87 [oR 549 0, oI a1, oI a2, oI v10] [] (wI s 571 (ix a1) a2) else none) (fun _ => rfl) (rg_gd h fun h => rg_ltM h fun s12 h => ?_)
              refine rg_step 5 (G' := fun f => if inb a1 120 = true then evT f 436 94 [oR 549 0, oI a1, oI a2, oI v10] [] (wI s12 572 (ix a1) v10) else none) (fun _ => rfl) (rg_gd h fun h => rg_ltM h fun s13 h => ?_)
              exact rg_end 4 (fun _ => rfl) (by cases h; rfl)
            · exact (t_fM_doAssign_b73) h
        · exact (t_fM_doAssign_b47) h
      · exact (t_fM_doAssign_b47) h
theorem t_fM_xOf_b49 {s : ev_M} {y0 : Int32} {y1 : Int32} {j0 : Option ev_V} {j1 : Option ev_V} {j2 : Option ev_V} {j3 : Option ev_V} {q : Int32} (h : fM_xOf_b49 s y0 y1 = some q) : RR 380 49 [j0, j1, j2, j3] [vI y1, vI y0] s (cvP s q) := by
  exact rg_end 2 (fun _ => rfl) (by cases h; rfl)
theorem T_fM_xOf {s : ev_M} {a1 : Int32} {q : Int32} (h : fM_xOf s a1 = some q) : RR 380 0 [oR 549 0, oI a1, nn, nn] [] s (cvP s q) := by
  refine rg_step 4 (G' := fun f => if inb a1 120 = true then evT f 380 6 [oR 549 0, oI a1, nn, nn] [vI (s.1 569 (ix a1))] s else none) (fun _ => rfl) (rg_gd h fun h => ?_)
  refine rg_step 1 (G' := fun f => evT f 380 7 [oR 549 0, oI a1, oI (s.1 569 (ix a1)), nn] [] s) (fun _ => rfl) (rg_ltI (P := fun v1 => RG (fun f => evT f 380 7 [oR 549 0, oI a1, oI v1, nn] [] s) (cvP s q)) h fun v1 h => ?_)
  refine rg_step 4 (G' := fun f => if inb v1 30 = true then evT f 380 13 [oR 549 0, oI a1, oI v1, nn] [vI (s.1 564 (ix v1))] s else none) (fun _ => rfl) (rg_gd h fun h => ?_)
  refine rg_step 1 (G' := fun f => evT f 380 14 [oR 549 0, oI a1, oI v1, oI (s.1 564 (ix v1))] [] s) (fun _ => rfl) (rg_ltI (P := fun v2 => RG (fun f => evT f 380 14 [oR 549 0, oI a1, oI v1, oI v2] [] s) (cvP s q)) h fun v2 h => ?_)
  refine rg_step 4 (G' := fun f => if inb v1 30 = true then evT f 380 20 [oR 549 0, oI a1, oI v1, oI v2] [vI (s.1 562 (ix v1))] s else none) (fun _ => rfl) (rg_gd h fun h => ?_)
  refine rg_step 2 (G' := fun f => if v2 = 0 then evT f 380 24 [oR 549 0, oI a1, oI v1, oI v2] [vI (s.1 562 (ix v1))] s else evT f 380 33 [oR 549 0, oI a1, oI v1, oI v2] [vI (s.1 562 (ix v1))] s) (fun _ => rfl) (rg_if h (fun h => ?_) fun h => ?_)
  · refine rg_step 4 (G' := fun f => if inb a1 120 = true then evT f 380 30 [oR 549 0, oI a1, oI v1, oI v2] [vI (s.1 570 (ix a1)), vI (s.1 562 (ix v1))] s else none) (fun _ => rfl) (rg_gd h fun h => ?_)
    exact rg_step 1 (G' := fun f => evT f 380 49 [oR 549 0, oI a1, oI v1, oI v2] [vI (s.1 570 (ix a1)), vI (s.1 562 (ix v1))] s) (fun _ => rfl) ((t_fM_xOf_b49) h)
  · refine rg_step 3 (G' := fun f => if v2 = (cI 2) then evT f 380 38 [oR 549 0, oI a1, oI v1, oI v2] [vI (s.1 562 (ix v1))] s else evT f 380 48 [oR 549 0, oI a1, oI v1, oI v2] [vI (s.1 562 (ix v1))] s) (fun _ => rfl) (rg_if h (fun h => ?_) fun h => ?_)
    · refine rg_step 4 (G' := fun f => if inb a1 120 = true then evT f 380 44 [oR 549 0, oI a1, oI v1, oI v2] [vI (s.1 570 (ix a1)), vI (s.1 562 (ix v1))] s else none) (fun _ => rfl) (rg_gd h fun h => ?_)
      exact rg_step 2 (G' := fun f => evT f 380 49 [oR 549 0, oI a1, oI v1, oI v2] [vI (-(s.1 570 (ix a1))), vI (s.1 562 (ix v1))] s) (fun _ => rfl) ((t_fM_xOf_b49) h)
    · exact rg_step 1 (G' := fun f => evT f 380 49 [oR 549 0, oI a1, oI v1, oI v2] [vI (cI 0), vI (s.1 562 (ix v1))] s) (fun _ => rfl) ((t_fM_xOf_b49) h)
theorem t_fM_yOf_b50 {s : ev_M} {y0 : Int32} {y1 : Int32} {j0 : Option ev_V} {j1 : Option ev_V} {j2 : Option ev_V} {j3 : Option ev_V} {q : Int32} (h : fM_yOf_b50 s y0 y1 = some q) : RR 381 50 [j0, j1, j2, j3] [vI y1, vI y0] s (cvP s q) := by
  exact rg_end 2 (fun _ => rfl) (by cases h; rfl)
theorem T_fM_yOf {s : ev_M} {a1 : Int32} {q : Int32} (h : fM_yOf s a1 = some q) : RR 381 0 [oR 549 0, oI a1, nn, nn] [] s (cvP s q) := by
  refine rg_step 4 (G' := fun f => if inb a1 120 = true then evT f 381 6 [oR 549 0, oI a1, nn, nn] [vI (s.1 569 (ix a1))] s else none) (fun _ => rfl) (rg_gd h fun h => ?_)
  refine rg_step 1 (G' := fun f => evT f 381 7 [oR 549 0, oI a1, oI (s.1 569 (ix a1)), nn] [] s) (fun _ => rfl) (rg_ltI (P := fun v1 => RG (fun f => evT f 381 7 [oR 549 0, oI a1, oI v1, nn] [] s) (cvP s q)) h fun v1 h => ?_)
  refine rg_step 4 (G' := fun f => if inb v1 30 = true then evT f 381 13 [oR 549 0, oI a1, oI v1, nn] [vI (s.1 564 (ix v1))] s else none) (fun _ => rfl) (rg_gd h fun h => ?_)
  refine rg_step 1 (G' := fun f => evT f 381 14 [oR 549 0, oI a1, oI v1, oI (s.1 564 (ix v1))] [] s) (fun _ => rfl) (rg_ltI (P := fun v2 => RG (fun f => evT f 381 14 [oR 549 0, oI a1, oI v1, oI v2] [] s) (cvP s q)) h fun v2 h => ?_)
  refine rg_step 4 (G' := fun f => if inb v1 30 = true then evT f 381 20 [oR 549 0, oI a1, oI v1, oI v2] [vI (s.1 563 (ix v1))] s else none) (fun _ => rfl) (rg_gd h fun h => ?_)
  refine rg_step 3 (G' := fun f => if v2 = (cI 1) then evT f 381 25 [oR 549 0, oI a1, oI v1, oI v2] [vI (s.1 563 (ix v1))] s else evT f 381 34 [oR 549 0, oI a1, oI v1, oI v2] [vI (s.1 563 (ix v1))] s) (fun _ => rfl) (rg_if h (fun h => ?_) fun h => ?_)
  · refine rg_step 4 (G' := fun f => if inb a1 120 = true then evT f 381 31 [oR 549 0, oI a1, oI v1, oI v2] [vI (s.1 570 (ix a1)), vI (s.1 563 (ix v1))] s else none) (fun _ => rfl) (rg_gd h fun h => ?_)
    exact rg_step 1 (G' := fun f => evT f 381 50 [oR 549 0, oI a1, oI v1, oI v2] [vI (s.1 570 (ix a1)), vI (s.1 563 (ix v1))] s) (fun _ => rfl) ((t_fM_yOf_b50) h)
  · refine rg_step 3 (G' := fun f => if v2 = (cI 3) then evT f 381 39 [oR 549 0, oI a1, oI v1, oI v2] [vI (s.1 563 (ix v1))] s else evT f 381 49 [oR 549 0, oI a1, oI v1, oI v2] [vI (s.1 563 (ix v1))] s) (fun _ => rfl) (rg_if h (fun h => ?_) fun h => ?_)
    · refine rg_step 4 (G' := fun f => if inb a1 120 = true then evT f 381 45 [oR 549 0, oI a1, oI v1, oI v2] [vI (s.1 570 (ix a1)), vI (s.1 563 (ix v1))] s else none) (fun _ => rfl) (rg_gd h fun h => ?_)
      exact rg_step 2 (G' := fun f => evT f 381 50 [oR 549 0, oI a1, oI v1, oI v2] [vI (-(s.1 570 (ix a1))), vI (s.1 563 (ix v1))] s) (fun _ => rfl) ((t_fM_yOf_b50) h)
    · exact rg_step 1 (G' := fun f => evT f 381 50 [oR 549 0, oI a1, oI v1, oI v2] [vI (cI 0), vI (s.1 563 (ix v1))] s) (fun _ => rfl) ((t_fM_yOf_b50) h)
theorem T_fM_size {s : ev_M} {a0 : Int32} {q : Int32} (h : fM_size s a0 = some q) : RR 438 0 [oI a0] [] s (cvP s q) := by
  refine rg_step 2 (G' := fun f => if a0 < 0 then evT f 438 4 [oI a0] [] s else evT f 438 9 [oI a0] [] s) (fun _ => rfl) (rg_if h (fun h => ?_) fun h => ?_)
  · exact rg_end 4 (fun _ => rfl) (by cases h; rfl)
  · exact rg_end 2 (fun _ => rfl) (by cases h; rfl)
theorem T_fM_far {s : ev_M} {a1 : Int32} {a2 : Int32} {q : Int32} (h : fM_far s a1 a2 = some q) : RR 439 0 [oR 549 0, oI a1, oI a2] [] s (cvP s q) := by
  refine rg_step 4 (G' := fun f => if inb a1 21 = true then evT f 439 6 [oR 549 0, oI a1, oI a2] [vI (s.1 665 (ix a1))] s else none) (fun _ => rfl) (rg_gd h fun h => ?_)
  refine rg_step 4 (G' := fun f => if inb a2 21 = true then evT f 439 12 [oR 549 0, oI a1, oI a2] [vI (s.1 665 (ix a2)), vI (s.1 665 (ix a1))] s else none) (fun _ => rfl) (rg_gd h fun h => ?_)
  refine rg_step 2 (G' := fun f => ev_after (evT f 438 0 [oI ((s.1 665 (ix a1)) - (s.1 665 (ix a2)))] [] s) (fun q => evT f 439 16 [oR 549 0, oI a1, oI a2] (q.2 ++ []) q.1)) (fun _ => rfl) (rg_bd1 h fun v1 hc h => rg_call (q := cvP s v1) (T_fM_size hc) ?_)
  refine rg_step 4 (G' := fun f => if inb a1 21 = true then evT f 439 22 [oR 549 0, oI a1, oI a2] [vI (s.1 666 (ix a1)), vI v1] s else none) (fun _ => rfl) (rg_gd h fun h => ?_)
  refine rg_step 4 (G' := fun f => if inb a2 21 = true then evT f 439 28 [oR 549 0, oI a1, oI a2] [vI (s.1 666 (ix a2)), vI (s.1 666 (ix a1)), vI v1] s else none) (fun _ => rfl) (rg_gd h fun h => ?_)
  refine rg_step 2 (G' := fun f => ev_after (evT f 438 0 [oI ((s.1 666 (ix a1)) - (s.1 666 (ix a2)))] [] s) (fun q => evT f 439 32 [oR 549 0, oI a1, oI a2] (q.2 ++ [vI v1]) q.1)) (fun _ => rfl) (rg_bd1 h fun v2 hc h => rg_call (q := cvP s v2) (T_fM_size hc) ?_)
  exact rg_end 2 (fun _ => rfl) (by cases h; rfl)
theorem t_fM_arrangeExactly_b106 {k8 : ev_M → Int32 → Int32 → Int32 → Option (ev_M × Int32)} {k15 : ev_M → Int32 → Int32 → Int32 → Int32 → Option (ev_M × Int32)} {k44 : ev_M → Int32 → Int32 → Int32 → Int32 → Int32 → Int32 → Option (ev_M × Int32)} (hk8 : ∀ {s : ev_M} {x1 : Int32} {x2 : Int32} {x3 : Int32} {j4 : Option ev_V} {j5 : Option ev_V} {j6 : Option ev_V} {j7 : Option ev_V} {j8 : Option ev_V} {j9 : Option ev_V} {j10 : Option ev_V} {q : ev_M × Int32}, k8 s x1 x2 x3 = some q → RR 440 8 [oR 549 0, oI x1, oI x2, oI x3, j4, j5, j6, j7, j8, j9, j10] [] s (cvI q)) (hk15 : ∀ {s : ev_M} {x1 : Int32} {x2 : Int32} {x3 : Int32} {x4 : Int32} {j5 : Option ev_V} {j6 : Option ev_V} {j7 : Option ev_V} {j8 : Option ev_V} {j9 : Option ev_V} {j10 : Option ev_V} {q : ev_M × Int32}, k15 s x1 x2 x3 x4 = some q → RR 440 15 [oR 549 0, oI x1, oI x2, oI x3, oI x4, j5, j6, j7, j8, j9, j10] [] s (cvI q)) (hk44 : ∀ {s : ev_M} {x1 : Int32} {x2 : Int32} {x3 : Int32} {x4 : Int32} {x5 : Int32} {x6 : Int32} {j7 : Option ev_V} {j8 : Option ev_V} {j9 : Option ev_V} {j10 : Option ev_V} {q : ev_M × Int32}, k44 s x1 x2 x3 x4 x5 x6 = some q → RR 440 44 [oR 549 0, oI x1, oI x2, oI x3, oI x4, oI x5, oI x6, j7, j8, j9, j10] [] s (cvI q)) {s : ev_M} {x1 : Int32} {x2 : Int32} {x3 : Int32} {x4 : Int32} {x6 : Int32} {y0 : Int32} {j5 : Option ev_V} {j7 : Option ev_V} {j8 : Option ev_V} {j9 : Option ev_V} {j10 : Option ev_V} {q : ev_M × Int32} (h : fM_arrangeExactly_b106 k8 k15 k44 s x1 x2 x3 x4 x6 y0 = some q) : RR 440 106 [oR 549 0, oI x1, oI x2, oI x3, oI x4, j5, oI x6, j7, j8, j9, j10] [vI y0] s (cvI q) := by
  exact rg_step 3 (G' := fun f => evT f 440 44 [oR 549 0, oI x1, oI x2, oI x3, oI x4, oI y0, oI (x6 + cI 1), nn, nn, nn, nn] [] s) (fun _ => rfl) (hk44 h)
theorem t_fM_arrangeExactly_b90 {k8 : ev_M → Int32 → Int32 → Int32 → Option (ev_M × Int32)} {k15 : ev_M → Int32 → Int32 → Int32 → Int32 → Option (ev_M × Int32)} {k44 : ev_M → Int32 → Int32 → Int32 → Int32 → Int32 → Int32 → Option (ev_M × Int32)} (hk8 : ∀ {s : ev_M} {x1 : Int32} {x2 : Int32} {x3 : Int32} {j4 : Option ev_V} {j5 : Option ev_V} {j6 : Option ev_V} {j7 : Option ev_V} {j8 : Option ev_V} {j9 : Option ev_V} {j10 : Option ev_V} {q : ev_M × Int32}, k8 s x1 x2 x3 = some q → RR 440 8 [oR 549 0, oI x1, oI x2, oI x3, j4, j5, j6, j7, j8, j9, j10] [] s (cvI q)) (hk15 : ∀ {s : ev_M} {x1 : Int32} {x2 : Int32} {x3 : Int32} {x4 : Int32} {j5 : Option ev_V} {j6 : Option ev_V} {j7 : Option ev_V} {j8 : Option ev_V} {j9 : Option ev_V} {j10 : Option ev_V} {q : ev_M × Int32}, k15 s x1 x2 x3 x4 = some q → RR 440 15 [oR 549 0, oI x1, oI x2, oI x3, oI x4, j5, j6, j7, j8, j9, j10] [] s (cvI q)) (hk44 : ∀ {s : ev_M} {x1 : Int32} {x2 : Int32} {x3 : Int32} {x4 : Int32} {x5 : Int32} {x6 : Int32} {j7 : Option ev_V} {j8 : Option ev_V} {j9 : Option ev_V} {j10 : Option ev_V} {q : ev_M × Int32}, k44 s x1 x2 x3 x4 x5 x6 = some q → RR 440 44 [oR 549 0, oI x1, oI x2, oI x3, oI x4, oI x5, oI x6, j7, j8, j9, j10] [] s (cvI q)) {s : ev_M} {x1 : Int32} {x2 : Int32} {x3 : Int32} {x4 : Int32} {x5 : Int32} {x6 : Int32} {y0 : Int32} {j7 : Option ev_V} {j8 : Option ev_V} {j9 : Option ev_V} {j10 : Option ev_V} {q : ev_M × Int32} (h : fM_arrangeExactly_b90 k8 k15 k44 s x1 x2 x3 x4 x5 x6 y0 = some q) : RR 440 90 [oR 549 0, oI x1, oI x2, oI x3, oI x4, oI x5, oI x6, j7, j8, j9, j10] [vI y0] s (cvI q) := by
  refine rg_step 4 (G' := fun f => if y0 < x5 then evT f 440 99 [oR 549 0, oI x1, oI x2, oI x3, oI x4, oI x5, oI x6, oI y0, nn, nn, nn] [] s else evT f 440 104 [oR 549 0, oI x1, oI x2, oI x3, oI x4, oI x5, oI x6, oI y0, nn, nn, nn] [] s) (fun _ => rfl) (rg_if h (fun h => ?_) fun h => ?_)
  · exact rg_step 2 (G' := fun f => evT f 440 106 [oR 549 0, oI x1, oI x2, oI x3, oI x4, oI x5, oI x6, oI y0, nn, nn, nn] [vI y0] s) (fun _ => rfl) ((t_fM_arrangeExactly_b106 hk8 hk15 hk44) h)
  · exact rg_step 1 (G' := fun f => evT f 440 106 [oR 549 0, oI x1, oI x2, oI x3, oI x4, oI x5, oI x6, oI y0, nn, nn, nn] [vI x5] s) (fun _ => rfl) ((t_fM_arrangeExactly_b106 hk8 hk15 hk44) h)
theorem ti_fM_arrangeExactly_h44 {k8 : ev_M → Int32 → Int32 → Int32 → Option (ev_M × Int32)} {k15 : ev_M → Int32 → Int32 → Int32 → Int32 → Option (ev_M × Int32)} (hk8 : ∀ {s : ev_M} {x1 : Int32} {x2 : Int32} {x3 : Int32} {j4 : Option ev_V} {j5 : Option ev_V} {j6 : Option ev_V} {j7 : Option ev_V} {j8 : Option ev_V} {j9 : Option ev_V} {j10 : Option ev_V} {q : ev_M × Int32}, k8 s x1 x2 x3 = some q → RR 440 8 [oR 549 0, oI x1, oI x2, oI x3, j4, j5, j6, j7, j8, j9, j10] [] s (cvI q)) (hk15 : ∀ {s : ev_M} {x1 : Int32} {x2 : Int32} {x3 : Int32} {x4 : Int32} {j5 : Option ev_V} {j6 : Option ev_V} {j7 : Option ev_V} {j8 : Option ev_V} {j9 : Option ev_V} {j10 : Option ev_V} {q : ev_M × Int32}, k15 s x1 x2 x3 x4 = some q → RR 440 15 [oR 549 0, oI x1, oI x2, oI x3, oI x4, j5, j6, j7, j8, j9, j10] [] s (cvI q)) : ∀ (n : Nat) (s : ev_M) (x1 : Int32) (x2 : Int32) (x3 : Int32) (x4 : Int32) (x5 : Int32) (x6 : Int32) (j7 : Option ev_V) (j8 : Option ev_V) (j9 : Option ev_V) (j10 : Option ev_V) (q : ev_M × Int32), fM_arrangeExactly_h44 k8 k15 n s x1 x2 x3 x4 x5 x6 = some q → RR 440 44 [oR 549 0, oI x1, oI x2, oI x3, oI x4, oI x5, oI x6, j7, j8, j9, j10] [] s (cvI q) := by
  intro n
  induction n with
  | zero => intro s x1 x2 x3 x4 x5 x6 j7 j8 j9 j10 q h; cases h
  | succ n ih =>
    have hk44 : ∀ {s : ev_M} {x1 : Int32} {x2 : Int32} {x3 : Int32} {x4 : Int32} {x5 : Int32} {x6 : Int32} {j7 : Option ev_V} {j8 : Option ev_V} {j9 : Option ev_V} {j10 : Option ev_V} {q : ev_M × Int32}, fM_arrangeExactly_h44 k8 k15 n s x1 x2 x3 x4 x5 x6 = some q → RR 440 44 [oR 549 0, oI x1, oI x2, oI x3, oI x4, oI x5, oI x6, j7, j8, j9, j10] [] s (cvI q) := fun h => ih _ _ _ _ _ _ _ _ _ _ _ _ h
    intro s x1 x2 x3 x4 x5 x6 j7 j8 j9 j10 q h
    refine rg_step 3 (G' := fun f => if x6 < x1 then evT f 440 50 [oR 549 0, oI x1, oI x2, oI x3, oI x4, oI x5, oI x6, nn, nn, nn, nn] [] s else evT f 440 114 [oR 549 0, oI x1, oI x2, oI x3, oI x4, oI x5, oI x6, nn, nn, nn, nn] [] s) (fun _ => rfl) (rg_if h (fun h => ?_) fun h => ?_)
    · refine rg_step 6 (G' := fun f => if ((x3 >>> (x6 &&& 31)) &&& (cI 1)) = 0 then evT f 440 59 [oR 549 0, oI x1, oI x2, oI x3, oI x4, oI x5, oI x6, nn, nn, nn, nn] [] s else evT f 440 88 [oR 549 0, oI x1, oI x2, oI x3, oI x4, oI x5, oI x6, nn, nn, nn, nn] [] s) (fun _ => rfl) (rg_if h (fun h => ?_) fun h => ?_)
      · refine rg_step 4 (G' := fun f => ev_after (evT f 439 0 [oR 549 0, oI x4, oI x6] [] s) (fun q => evT f 440 67 [oR 549 0, oI x1, oI x2, oI x3, oI x4, oI x5, oI x6, nn, nn, nn, nn] (q.2 ++ []) q.1)) (fun _ => rfl) (rg_bd1 h fun v1 hc h => rg_call (q := cvP s v1) (T_fM_far hc) ?_)
        refine rg_step 12 (G' := fun f => if inb (((cI 8) * (x3 ||| ((cI 1) <<< (x6 &&& 31)))) + x6) 2048 = true then evT f 440 84 [oR 549 0, oI x1, oI x2, oI x3, oI x4, oI x5, oI x6, nn, nn, nn, nn] [vI (s.1 667 (ix (((cI 8) * (x3 ||| ((cI 1) <<< (x6 &&& 31)))) + x6))), vI v1] s else none) (fun _ => rfl) (rg_gd h fun h => ?_)
        exact rg_step 2 (G' := fun f => evT f 440 90 [oR 549 0, oI x1, oI x2, oI x3, oI x4, oI x5, oI x6, nn, nn, nn, nn] [vI (v1 + (s.1 667 (ix (((cI 8) * (x3 ||| ((cI 1) <<< (x6 &&& 31)))) + x6))))] s) (fun _ => rfl) ((t_fM_arrangeExactly_b90 hk8 hk15 hk44) h)
      · exact rg_step 1 (G' := fun f => evT f 440 90 [oR 549 0, oI x1, oI x2, oI x3, oI x4, oI x5, oI x6, nn, nn, nn, nn] [vI x5] s) (fun _ => rfl) ((t_fM_arrangeExactly_b90 hk8 hk15 hk44) h)
    · refine rg_step 9 (G' := fun f => if inb (((cI 8) * x3) + x4) 2048 = true then evT f 440 128 [oR 549 0, oI x1, oI x2, oI x3, oI x4, oI x5, oI x6, nn, nn, nn, nn] [] (wI s 667 (ix (((cI 8) * x3) + x4)) x5) else none) (fun _ => rfl) (rg_gd h fun h => rg_ltM h fun s2 h => ?_)
      exact rg_step 2 (G' := fun f => evT f 440 15 [oR 549 0, oI x1, oI x2, oI x3, oI (x4 + cI 1), oI x5, oI x6, nn, nn, nn, nn] [] s2) (fun _ => rfl) (hk15 h)
theorem t_fM_arrangeExactly_h44 {k8 : ev_M → Int32 → Int32 → Int32 → Option (ev_M × Int32)} {k15 : ev_M → Int32 → Int32 → Int32 → Int32 → Option (ev_M × Int32)} (hk8 : ∀ {s : ev_M} {x1 : Int32} {x2 : Int32} {x3 : Int32} {j4 : Option ev_V} {j5 : Option ev_V} {j6 : Option ev_V} {j7 : Option ev_V} {j8 : Option ev_V} {j9 : Option ev_V} {j10 : Option ev_V} {q : ev_M × Int32}, k8 s x1 x2 x3 = some q → RR 440 8 [oR 549 0, oI x1, oI x2, oI x3, j4, j5, j6, j7, j8, j9, j10] [] s (cvI q)) (hk15 : ∀ {s : ev_M} {x1 : Int32} {x2 : Int32} {x3 : Int32} {x4 : Int32} {j5 : Option ev_V} {j6 : Option ev_V} {j7 : Option ev_V} {j8 : Option ev_V} {j9 : Option ev_V} {j10 : Option ev_V} {q : ev_M × Int32}, k15 s x1 x2 x3 x4 = some q → RR 440 15 [oR 549 0, oI x1, oI x2, oI x3, oI x4, j5, j6, j7, j8, j9, j10] [] s (cvI q)) {n : Nat} {s : ev_M} {x1 : Int32} {x2 : Int32} {x3 : Int32} {x4 : Int32} {x5 : Int32} {x6 : Int32} {j7 : Option ev_V} {j8 : Option ev_V} {j9 : Option ev_V} {j10 : Option ev_V} {q : ev_M × Int32} (h : fM_arrangeExactly_h44 k8 k15 n s x1 x2 x3 x4 x5 x6 = some q) : RR 440 44 [oR 549 0, oI x1, oI x2, oI x3, oI x4, oI x5, oI x6, j7, j8, j9, j10] [] s (cvI q) := ti_fM_arrangeExactly_h44 hk8 hk15 n s x1 x2 x3 x4 x5 x6 j7 j8 j9 j10 q h
theorem t_fM_arrangeExactly_b39 {k8 : ev_M → Int32 → Int32 → Int32 → Option (ev_M × Int32)} {k15 : ev_M → Int32 → Int32 → Int32 → Int32 → Option (ev_M × Int32)} (hk8 : ∀ {s : ev_M} {x1 : Int32} {x2 : Int32} {x3 : Int32} {j4 : Option ev_V} {j5 : Option ev_V} {j6 : Option ev_V} {j7 : Option ev_V} {j8 : Option ev_V} {j9 : Option ev_V} {j10 : Option ev_V} {q : ev_M × Int32}, k8 s x1 x2 x3 = some q → RR 440 8 [oR 549 0, oI x1, oI x2, oI x3, j4, j5, j6, j7, j8, j9, j10] [] s (cvI q)) (hk15 : ∀ {s : ev_M} {x1 : Int32} {x2 : Int32} {x3 : Int32} {x4 : Int32} {j5 : Option ev_V} {j6 : Option ev_V} {j7 : Option ev_V} {j8 : Option ev_V} {j9 : Option ev_V} {j10 : Option ev_V} {q : ev_M × Int32}, k15 s x1 x2 x3 x4 = some q → RR 440 15 [oR 549 0, oI x1, oI x2, oI x3, oI x4, j5, j6, j7, j8, j9, j10] [] s (cvI q)) {s : ev_M} {x1 : Int32} {x2 : Int32} {x3 : Int32} {x4 : Int32} {y0 : Int32} {j5 : Option ev_V} {j6 : Option ev_V} {j7 : Option ev_V} {j8 : Option ev_V} {j9 : Option ev_V} {j10 : Option ev_V} {q : ev_M × Int32} (h : fM_arrangeExactly_b39 k8 k15 s x1 x2 x3 x4 y0 = some q) : RR 440 39 [oR 549 0, oI x1, oI x2, oI x3, oI x4, j5, j6, j7, j8, j9, j10] [vI y0] s (cvI q) := by
  exact rg_step 3 (G' := fun f => evT f 440 44 [oR 549 0, oI x1, oI x2, oI x3, oI x4, oI y0, oI (cI 0), nn, nn, nn, nn] [] s) (fun _ => rfl) ((t_fM_arrangeExactly_h44 hk8 hk15) h)
theorem ti_fM_arrangeExactly_h15 {k8 : ev_M → Int32 → Int32 → Int32 → Option (ev_M × Int32)} (hk8 : ∀ {s : ev_M} {x1 : Int32} {x2 : Int32} {x3 : Int32} {j4 : Option ev_V} {j5 : Option ev_V} {j6 : Option ev_V} {j7 : Option ev_V} {j8 : Option ev_V} {j9 : Option ev_V} {j10 : Option ev_V} {q : ev_M × Int32}, k8 s x1 x2 x3 = some q → RR 440 8 [oR 549 0, oI x1, oI x2, oI x3, j4, j5, j6, j7, j8, j9, j10] [] s (cvI q)) : ∀ (n : Nat) (s : ev_M) (x1 : Int32) (x2 : Int32) (x3 : Int32) (x4 : Int32) (j5 : Option ev_V) (j6 : Option ev_V) (j7 : Option ev_V) (j8 : Option ev_V) (j9 : Option ev_V) (j10 : Option ev_V) (q : ev_M × Int32), fM_arrangeExactly_h15 k8 n s x1 x2 x3 x4 = some q → RR 440 15 [oR 549 0, oI x1, oI x2, oI x3, oI x4, j5, j6, j7, j8, j9, j10] [] s (cvI q) := by
  intro n
  induction n with
  | zero => intro s x1 x2 x3 x4 j5 j6 j7 j8 j9 j10 q h; cases h
  | succ n ih =>
    have hk15 : ∀ {s : ev_M} {x1 : Int32} {x2 : Int32} {x3 : Int32} {x4 : Int32} {j5 : Option ev_V} {j6 : Option ev_V} {j7 : Option ev_V} {j8 : Option ev_V} {j9 : Option ev_V} {j10 : Option ev_V} {q : ev_M × Int32}, fM_arrangeExactly_h15 k8 n s x1 x2 x3 x4 = some q → RR 440 15 [oR 549 0, oI x1, oI x2, oI x3, oI x4, j5, j6, j7, j8, j9, j10] [] s (cvI q) := fun h => ih _ _ _ _ _ _ _ _ _ _ _ _ h
    intro s x1 x2 x3 x4 j5 j6 j7 j8 j9 j10 q h
    refine rg_step 3 (G' := fun f => if x4 < x1 then evT f 440 21 [oR 549 0, oI x1, oI x2, oI x3, oI x4, nn, nn, nn, nn, nn, nn] [] s else evT f 440 134 [oR 549 0, oI x1, oI x2, oI x3, oI x4, nn, nn, nn, nn, nn, nn] [] s) (fun _ => rfl) (rg_if h (fun h => ?_) fun h => ?_)
    · refine rg_step 3 (G' := fun f => if x3 = x2 then evT f 440 26 [oR 549 0, oI x1, oI x2, oI x3, oI x4, nn, nn, nn, nn, nn, nn] [] s else evT f 440 36 [oR 549 0, oI x1, oI x2, oI x3, oI x4, nn, nn, nn, nn, nn, nn] [] s) (fun _ => rfl) (rg_if h (fun h => ?_) fun h => ?_)
      · refine rg_step 4 (G' := fun f => ev_after (evT f 439 0 [oR 549 0, oI x4, oI x1] [] s) (fun q => evT f 440 33 [oR 549 0, oI x1, oI x2, oI x3, oI x4, nn, nn, nn, nn, nn, nn] (q.2 ++ []) q.1)) (fun _ => rfl) (rg_bd1 h fun v3 hc h => rg_call (q := cvP s v3) (T_fM_far hc) ?_)
        exact rg_step 1 (G' := fun f => evT f 440 39 [oR 549 0, oI x1, oI x2, oI x3, oI x4, nn, nn, nn, nn, nn, nn] [vI v3] s) (fun _ => rfl) ((t_fM_arrangeExactly_b39 hk8 hk15) h)
      · exact rg_step 1 (G' := fun f => evT f 440 39 [oR 549 0, oI x1, oI x2, oI x3, oI x4, nn, nn, nn, nn, nn, nn] [vI (cI 100000000)] s) (fun _ => rfl) ((t_fM_arrangeExactly_b39 hk8 hk15) h)
    · exact rg_step 2 (G' := fun f => evT f 440 8 [oR 549 0, oI x1, oI x2, oI (x3 + cI (-1)), oI x4, nn, nn, nn, nn, nn, nn] [] s) (fun f => Eq.trans (b := evT (f + 1 + 1) 440 134 [oR 549 0, oI x1, oI x2, oI x3, oI x4, nn, nn, nn, nn, nn, nn] [] s) rfl ((ev_inc (f := f + 1) (M := 440) (pc := 134) (i := 3) (n := 3) (c := (-1)) (r := 0) (dl := []) (L := [oR 549 0, oI x1, oI x2, oI x3, oI x4, nn, nn, nn, nn, nn, nn]) (L' := [oR 549 0, oI x1, oI x2, oI (x3 + cI (-1)), oI x4, nn, nn, nn, nn, nn, nn]) (s := s) (y := x3) rfl rfl rfl).trans rfl)) (hk8 h)
theorem t_fM_arrangeExactly_h15 {k8 : ev_M → Int32 → Int32 → Int32 → Option (ev_M × Int32)} (hk8 : ∀ {s : ev_M} {x1 : Int32} {x2 : Int32} {x3 : Int32} {j4 : Option ev_V} {j5 : Option ev_V} {j6 : Option ev_V} {j7 : Option ev_V} {j8 : Option ev_V} {j9 : Option ev_V} {j10 : Option ev_V} {q : ev_M × Int32}, k8 s x1 x2 x3 = some q → RR 440 8 [oR 549 0, oI x1, oI x2, oI x3, j4, j5, j6, j7, j8, j9, j10] [] s (cvI q)) {n : Nat} {s : ev_M} {x1 : Int32} {x2 : Int32} {x3 : Int32} {x4 : Int32} {j5 : Option ev_V} {j6 : Option ev_V} {j7 : Option ev_V} {j8 : Option ev_V} {j9 : Option ev_V} {j10 : Option ev_V} {q : ev_M × Int32} (h : fM_arrangeExactly_h15 k8 n s x1 x2 x3 x4 = some q) : RR 440 15 [oR 549 0, oI x1, oI x2, oI x3, oI x4, j5, j6, j7, j8, j9, j10] [] s (cvI q) := ti_fM_arrangeExactly_h15 hk8 n s x1 x2 x3 x4 j5 j6 j7 j8 j9 j10 q h
theorem t_fM_arrangeExactly_b190 {k147 : ev_M → Int32 → Int32 → Int32 → Option (ev_M × Int32)} (hk147 : ∀ {s : ev_M} {x1 : Int32} {x3 : Int32} {x4 : Int32} {j2 : Option ev_V} {j5 : Option ev_V} {j6 : Option ev_V} {j7 : Option ev_V} {j8 : Option ev_V} {j9 : Option ev_V} {j10 : Option ev_V} {q : ev_M × Int32}, k147 s x1 x3 x4 = some q → RR 440 147 [oR 549 0, oI x1, j2, oI x3, oI x4, j5, j6, j7, j8, j9, j10] [] s (cvI q)) {s : ev_M} {x1 : Int32} {x4 : Int32} {y0 : Int32} {j2 : Option ev_V} {j3 : Option ev_V} {j5 : Option ev_V} {j6 : Option ev_V} {j7 : Option ev_V} {j8 : Option ev_V} {j9 : Option ev_V} {j10 : Option ev_V} {q : ev_M × Int32} (h : fM_arrangeExactly_b190 k147 s x1 x4 y0 = some q) : RR 440 190 [oR 549 0, oI x1, j2, j3, oI x4, j5, j6, j7, j8, j9, j10] [vI y0] s (cvI q) := by
  exact rg_step 3 (G' := fun f => evT f 440 147 [oR 549 0, oI x1, nn, oI y0, oI (x4 + cI 1), nn, nn, nn, nn, nn, nn] [] s) (fun _ => rfl) (hk147 h)
theorem t_fM_arrangeExactly_b289 {k209 : ev_M → Int32 → Int32 → Int32 → Int32 → Int32 → Int32 → Option (ev_M × Int32)} {k223 : ev_M → Int32 → Int32 → Int32 → Int32 → Int32 → Int32 → Int32 → Int32 → Option (ev_M × Int32)} (hk209 : ∀ {s : ev_M} {x1 : Int32} {x3 : Int32} {x4 : Int32} {x5 : Int32} {x6 : Int32} {x7 : Int32} {j2 : Option ev_V} {j8 : Option ev_V} {j9 : Option ev_V} {j10 : Option ev_V} {q : ev_M × Int32}, k209 s x1 x3 x4 x5 x6 x7 = some q → RR 440 209 [oR 549 0, oI x1, j2, oI x3, oI x4, oI x5, oI x6, oI x7, j8, j9, j10] [] s (cvI q)) (hk223 : ∀ {s : ev_M} {x1 : Int32} {x3 : Int32} {x4 : Int32} {x5 : Int32} {x6 : Int32} {x7 : Int32} {x8 : Int32} {x9 : Int32} {j2 : Option ev_V} {j10 : Option ev_V} {q : ev_M × Int32}, k223 s x1 x3 x4 x5 x6 x7 x8 x9 = some q → RR 440 223 [oR 549 0, oI x1, j2, oI x3, oI x4, oI x5, oI x6, oI x7, oI x8, oI x9, j10] [] s (cvI q)) {s : ev_M} {x1 : Int32} {x3 : Int32} {x4 : Int32} {x5 : Int32} {x6 : Int32} {x7 : Int32} {x9 : Int32} {y0 : Int32} {j2 : Option ev_V} {j8 : Option ev_V} {j10 : Option ev_V} {q : ev_M × Int32} (h : fM_arrangeExactly_b289 k209 k223 s x1 x3 x4 x5 x6 x7 x9 y0 = some q) : RR 440 289 [oR 549 0, oI x1, j2, oI x3, oI x4, oI x5, oI x6, oI x7, j8, oI x9, j10] [vI y0] s (cvI q) := by
  exact rg_step 3 (G' := fun f => evT f 440 223 [oR 549 0, oI x1, nn, oI x3, oI x4, oI x5, oI x6, oI x7, oI y0, oI (x9 + cI (-1)), nn] [] s) (fun f => Eq.trans (b := evT (f + 1 + 1) 440 291 [oR 549 0, oI x1, nn, oI x3, oI x4, oI x5, oI x6, oI x7, oI y0, oI x9, nn] [] s) rfl ((ev_inc (f := f + 1) (M := 440) (pc := 291) (i := 9) (n := 3) (c := (-1)) (r := 0) (dl := []) (L := [oR 549 0, oI x1, nn, oI x3, oI x4, oI x5, oI x6, oI x7, oI y0, oI x9, nn]) (L' := [oR 549 0, oI x1, nn, oI x3, oI x4, oI x5, oI x6, oI x7, oI y0, oI (x9 + cI (-1)), nn]) (s := s) (y := x9) rfl rfl rfl).trans rfl)) (hk223 h)
theorem t_fM_arrangeExactly_b287 {k209 : ev_M → Int32 → Int32 → Int32 → Int32 → Int32 → Int32 → Option (ev_M × Int32)} {k223 : ev_M → Int32 → Int32 → Int32 → Int32 → Int32 → Int32 → Int32 → Int32 → Option (ev_M × Int32)} (hk209 : ∀ {s : ev_M} {x1 : Int32} {x3 : Int32} {x4 : Int32} {x5 : Int32} {x6 : Int32} {x7 : Int32} {j2 : Option ev_V} {j8 : Option ev_V} {j9 : Option ev_V} {j10 : Option ev_V} {q : ev_M × Int32}, k209 s x1 x3 x4 x5 x6 x7 = some q → RR 440 209 [oR 549 0, oI x1, j2, oI x3, oI x4, oI x5, oI x6, oI x7, j8, j9, j10] [] s (cvI q)) (hk223 : ∀ {s : ev_M} {x1 : Int32} {x3 : Int32} {x4 : Int32} {x5 : Int32} {x6 : Int32} {x7 : Int32} {x8 : Int32} {x9 : Int32} {j2 : Option ev_V} {j10 : Option ev_V} {q : ev_M × Int32}, k223 s x1 x3 x4 x5 x6 x7 x8 x9 = some q → RR 440 223 [oR 549 0, oI x1, j2, oI x3, oI x4, oI x5, oI x6, oI x7, oI x8, oI x9, j10] [] s (cvI q)) {s : ev_M} {x1 : Int32} {x3 : Int32} {x4 : Int32} {x5 : Int32} {x6 : Int32} {x7 : Int32} {x8 : Int32} {x9 : Int32} {j2 : Option ev_V} {j10 : Option ev_V} {q : ev_M × Int32} (h : fM_arrangeExactly_b287 k209 k223 s x1 x3 x4 x5 x6 x7 x8 x9 = some q) : RR 440 287 [oR 549 0, oI x1, j2, oI x3, oI x4, oI x5, oI x6, oI x7, oI x8, oI x9, j10] [] s (cvI q) := by
  exact rg_step 1 (G' := fun f => evT f 440 289 [oR 549 0, oI x1, nn, oI x3, oI x4, oI x5, oI x6, oI x7, oI x8, oI x9, nn] [vI x8] s) (fun _ => rfl) ((t_fM_arrangeExactly_b289 hk209 hk223) h)
theorem t_fM_arrangeExactly_b243 {k209 : ev_M → Int32 → Int32 → Int32 → Int32 → Int32 → Int32 → Option (ev_M × Int32)} {k223 : ev_M → Int32 → Int32 → Int32 → Int32 → Int32 → Int32 → Int32 → Int32 → Option (ev_M × Int32)} (hk209 : ∀ {s : ev_M} {x1 : Int32} {x3 : Int32} {x4 : Int32} {x5 : Int32} {x6 : Int32} {x7 : Int32} {j2 : Option ev_V} {j8 : Option ev_V} {j9 : Option ev_V} {j10 : Option ev_V} {q : ev_M × Int32}, k209 s x1 x3 x4 x5 x6 x7 = some q → RR 440 209 [oR 549 0, oI x1, j2, oI x3, oI x4, oI x5, oI x6, oI x7, j8, j9, j10] [] s (cvI q)) (hk223 : ∀ {s : ev_M} {x1 : Int32} {x3 : Int32} {x4 : Int32} {x5 : Int32} {x6 : Int32} {x7 : Int32} {x8 : Int32} {x9 : Int32} {j2 : Option ev_V} {j10 : Option ev_V} {q : ev_M × Int32}, k223 s x1 x3 x4 x5 x6 x7 x8 x9 = some q → RR 440 223 [oR 549 0, oI x1, j2, oI x3, oI x4, oI x5, oI x6, oI x7, oI x8, oI x9, j10] [] s (cvI q)) {s : ev_M} {x1 : Int32} {x3 : Int32} {x4 : Int32} {x5 : Int32} {x6 : Int32} {x7 : Int32} {x8 : Int32} {x9 : Int32} {y0 : Int32} {j2 : Option ev_V} {j10 : Option ev_V} {q : ev_M × Int32} (h : fM_arrangeExactly_b243 k209 k223 s x1 x3 x4 x5 x6 x7 x8 x9 y0 = some q) : RR 440 243 [oR 549 0, oI x1, j2, oI x3, oI x4, oI x5, oI x6, oI x7, oI x8, oI x9, j10] [vI y0] s (cvI q) := by
  refine rg_step 3 (G' := fun f => if y0 = 0 then evT f 440 287 [oR 549 0, oI x1, nn, oI x3, oI x4, oI x5, oI x6, oI x7, oI x8, oI x9, oI y0] [] s else evT f 440 250 [oR 549 0, oI x1, nn, oI x3, oI x4, oI x5, oI x6, oI x7, oI x8, oI x9, oI y0] [] s) (fun _ => rfl) (rg_if h (fun h => ?_) fun h => ?_)
  · exact (t_fM_arrangeExactly_b287 hk209 hk223) h
  · refine rg_step 4 (G' := fun f => ev_after (evT f 439 0 [oR 549 0, oI x5, oI x9] [] s) (fun q => evT f 440 258 [oR 549 0, oI x1, nn, oI x3, oI x4, oI x5, oI x6, oI x7, oI x8, oI x9, oI y0] (q.2 ++ []) q.1)) (fun _ => rfl) (rg_bd1 h fun v4 hc h => rg_call (q := cvP s v4) (T_fM_far hc) ?_)
    refine rg_step 12 (G' := fun f => if inb (((cI 8) * (x4 ||| ((cI 1) <<< (x9 &&& 31)))) + x9) 2048 = true then evT f 440 276 [oR 549 0, oI x1, nn, oI x3, oI x4, oI x5, oI x6, oI x7, oI x8, oI x9, oI y0] [vI (s.1 667 (ix (((cI 8) * (x4 ||| ((cI 1) <<< (x9 &&& 31)))) + x9))), vI v4] s else none) (fun _ => rfl) (rg_gd h fun h => ?_)
    refine rg_step 3 (G' := fun f => if (v4 + (s.1 667 (ix (((cI 8) * (x4 ||| ((cI 1) <<< (x9 &&& 31)))) + x9)))) = x6 then evT f 440 282 [oR 549 0, oI x1, nn, oI x3, oI x4, oI x5, oI x6, oI x7, oI x8, oI x9, oI y0] [] s else evT f 440 287 [oR 549 0, oI x1, nn, oI x3, oI x4, oI x5, oI x6, oI x7, oI x8, oI x9, oI y0] [] s) (fun _ => rfl) (rg_if h (fun h => ?_) fun h => ?_)
    · exact rg_step 2 (G' := fun f => evT f 440 289 [oR 549 0, oI x1, nn, oI x3, oI x4, oI x5, oI x6, oI x7, oI x8, oI x9, oI y0] [vI x9] s) (fun _ => rfl) ((t_fM_arrangeExactly_b289 hk209 hk223) h)
    · exact (t_fM_arrangeExactly_b287 hk209 hk223) h
theorem ti_fM_arrangeExactly_h223 {k209 : ev_M → Int32 → Int32 → Int32 → Int32 → Int32 → Int32 → Option (ev_M × Int32)} (hk209 : ∀ {s : ev_M} {x1 : Int32} {x3 : Int32} {x4 : Int32} {x5 : Int32} {x6 : Int32} {x7 : Int32} {j2 : Option ev_V} {j8 : Option ev_V} {j9 : Option ev_V} {j10 : Option ev_V} {q : ev_M × Int32}, k209 s x1 x3 x4 x5 x6 x7 = some q → RR 440 209 [oR 549 0, oI x1, j2, oI x3, oI x4, oI x5, oI x6, oI x7, j8, j9, j10] [] s (cvI q)) : ∀ (n : Nat) (s : ev_M) (x1 : Int32) (x3 : Int32) (x4 : Int32) (x5 : Int32) (x6 : Int32) (x7 : Int32) (x8 : Int32) (x9 : Int32) (j2 : Option ev_V) (j10 : Option ev_V) (q : ev_M × Int32), fM_arrangeExactly_h223 k209 n s x1 x3 x4 x5 x6 x7 x8 x9 = some q → RR 440 223 [oR 549 0, oI x1, j2, oI x3, oI x4, oI x5, oI x6, oI x7, oI x8, oI x9, j10] [] s (cvI q) := by
  intro n
  induction n with
  | zero => intro s x1 x3 x4 x5 x6 x7 x8 x9 j2 j10 q h; cases h
  | succ n ih =>
    have hk223 : ∀ {s : ev_M} {x1 : Int32} {x3 : Int32} {x4 : Int32} {x5 : Int32} {x6 : Int32} {x7 : Int32} {x8 : Int32} {x9 : Int32} {j2 : Option ev_V} {j10 : Option ev_V} {q : ev_M × Int32}, fM_arrangeExactly_h223 k209 n s x1 x3 x4 x5 x6 x7 x8 x9 = some q → RR 440 223 [oR 549 0, oI x1, j2, oI x3, oI x4, oI x5, oI x6, oI x7, oI x8, oI x9, j10] [] s (cvI q) := fun h => ih _ _ _ _ _ _ _ _ _ _ _ _ h
    intro s x1 x3 x4 x5 x6 x7 x8 x9 j2 j10 q h
    refine rg_step 2 (G' := fun f => if x9 < 0 then evT f 440 297 [oR 549 0, oI x1, nn, oI x3, oI x4, oI x5, oI x6, oI x7, oI x8, oI x9, nn] [] s else evT f 440 228 [oR 549 0, oI x1, nn, oI x3, oI x4, oI x5, oI x6, oI x7, oI x8, oI x9, nn] [] s) (fun _ => rfl) (rg_if h (fun h => ?_) fun h => ?_)
    · refine rg_step 5 (G' := fun f => ev_after (evT f 439 0 [oR 549 0, oI x5, oI x8] [] s) (fun q => evT f 440 307 [oR 549 0, oI x1, nn, oI x3, oI x4, oI x5, oI x6, oI x7, oI x8, oI x9, nn] (q.2 ++ [vI x6]) q.1)) (fun _ => rfl) (rg_bd1 h fun v5 hc h => rg_call (q := cvP s v5) (T_fM_far hc) ?_)
      refine rg_step 2 (G' := fun f => evT f 440 310 [oR 549 0, oI x1, nn, oI x3, oI x4, oI x5, oI (x6 - v5), oI x7, oI x8, oI x9, nn] [] s) (fun _ => rfl) (rg_ltI (P := fun v6 => RG (fun f => evT f 440 310 [oR 549 0, oI x1, nn, oI x3, oI x4, oI x5, oI v6, oI x7, oI x8, oI x9, nn] [] s) (cvI q)) h fun v6 h => ?_)
      refine rg_step 6 (G' := fun f => evT f 440 319 [oR 549 0, oI x1, nn, oI x3, oI (x4 ||| ((cI 1) <<< (x8 &&& 31))), oI x5, oI v6, oI x7, oI x8, oI x9, nn] [] s) (fun _ => rfl) (rg_ltI (P := fun v7 => RG (fun f => evT f 440 319 [oR 549 0, oI x1, nn, oI x3, oI v7, oI x5, oI v6, oI x7, oI x8, oI x9, nn] [] s) (cvI q)) h fun v7 h => ?_)
      refine rg_step 8 (G' := fun f => if inb x8 21 = true then evT f 440 334 [oR 549 0, oI x1, nn, oI x3, oI v7, oI x8, oI v6, oI x7, oI x8, oI x9, nn] [vI (s.1 664 (ix x8)), vR 572 0] s else none) (fun _ => rfl) (rg_gd h fun h => ?_)
      refine rg_step 2 (G' := fun f => if inb (s.1 664 (ix x8)) 120 = true then evT f 440 337 [oR 549 0, oI x1, nn, oI x3, oI v7, oI x8, oI v6, oI x7, oI x8, oI x9, nn] [] (wI s 572 (ix (s.1 664 (ix x8))) x7) else none) (fun _ => rfl) (rg_gd h fun h => rg_ltM h fun s8 h => ?_)
      exact rg_step 2 (G' := fun f => evT f 440 209 [oR 549 0, oI x1, nn, oI x3, oI v7, oI x8, oI v6, oI (x7 + cI 1), oI x8, oI x9, nn] [] s8) (fun _ => rfl) (hk209 h)
    · refine rg_step 6 (G' := fun f => if ((x4 >>> (x9 &&& 31)) &&& (cI 1)) = 0 then evT f 440 238 [oR 549 0, oI x1, nn, oI x3, oI x4, oI x5, oI x6, oI x7, oI x8, oI x9, nn] [] s else evT f 440 242 [oR 549 0, oI x1, nn, oI x3, oI x4, oI x5, oI x6, oI x7, oI x8, oI x9, nn] [] s) (fun _ => rfl) (rg_if h (fun h => ?_) fun h => ?_)
      · exact rg_step 2 (G' := fun f => evT f 440 243 [oR 549 0, oI x1, nn, oI x3, oI x4, oI x5, oI x6, oI x7, oI x8, oI x9, nn] [vI (cI 1)] s) (fun _ => rfl) ((t_fM_arrangeExactly_b243 hk209 hk223) h)
      · exact rg_step 1 (G' := fun f => evT f 440 243 [oR 549 0, oI x1, nn, oI x3, oI x4, oI x5, oI x6, oI x7, oI x8, oI x9, nn] [vI (cI 0)] s) (fun _ => rfl) ((t_fM_arrangeExactly_b243 hk209 hk223) h)
theorem t_fM_arrangeExactly_h223 {k209 : ev_M → Int32 → Int32 → Int32 → Int32 → Int32 → Int32 → Option (ev_M × Int32)} (hk209 : ∀ {s : ev_M} {x1 : Int32} {x3 : Int32} {x4 : Int32} {x5 : Int32} {x6 : Int32} {x7 : Int32} {j2 : Option ev_V} {j8 : Option ev_V} {j9 : Option ev_V} {j10 : Option ev_V} {q : ev_M × Int32}, k209 s x1 x3 x4 x5 x6 x7 = some q → RR 440 209 [oR 549 0, oI x1, j2, oI x3, oI x4, oI x5, oI x6, oI x7, j8, j9, j10] [] s (cvI q)) {n : Nat} {s : ev_M} {x1 : Int32} {x3 : Int32} {x4 : Int32} {x5 : Int32} {x6 : Int32} {x7 : Int32} {x8 : Int32} {x9 : Int32} {j2 : Option ev_V} {j10 : Option ev_V} {q : ev_M × Int32} (h : fM_arrangeExactly_h223 k209 n s x1 x3 x4 x5 x6 x7 x8 x9 = some q) : RR 440 223 [oR 549 0, oI x1, j2, oI x3, oI x4, oI x5, oI x6, oI x7, oI x8, oI x9, j10] [] s (cvI q) := ti_fM_arrangeExactly_h223 hk209 n s x1 x3 x4 x5 x6 x7 x8 x9 j2 j10 q h
theorem ti_fM_arrangeExactly_h209 : ∀ (n : Nat) (s : ev_M) (x1 : Int32) (x3 : Int32) (x4 : Int32) (x5 : Int32) (x6 : Int32) (x7 : Int32) (j2 : Option ev_V) (j8 : Option ev_V) (j9 : Option ev_V) (j10 : Option ev_V) (q : ev_M × Int32), fM_arrangeExactly_h209 n s x1 x3 x4 x5 x6 x7 = some q → RR 440 209 [oR 549 0, oI x1, j2, oI x3, oI x4, oI x5, oI x6, oI x7, j8, j9, j10] [] s (cvI q) := by
  intro n
  induction n with
  | zero => intro s x1 x3 x4 x5 x6 x7 j2 j8 j9 j10 q h; cases h
  | succ n ih =>
    have hk209 : ∀ {s : ev_M} {x1 : Int32} {x3 : Int32} {x4 : Int32} {x5 : Int32} {x6 : Int32} {x7 : Int32} {j2 : Option ev_V} {j8 : Option ev_V} {j9 : Option ev_V} {j10 : Option ev_V} {q : ev_M × Int32}, fM_arrangeExactly_h209 n s x1 x3 x4 x5 x6 x7 = some q → RR 440 209 [oR 549 0, oI x1, j2, oI x3, oI x4, oI x5, oI x6, oI x7, j8, j9, j10] [] s (cvI q) := fun h => ih _ _ _ _ _ _ _ _ _ _ _ _ h
    intro s x1 x3 x4 x5 x6 x7 j2 j8 j9 j10 q h
    refine rg_step 3 (G' := fun f => if x7 < x1 then evT f 440 215 [oR 549 0, oI x1, nn, oI x3, oI x4, oI x5, oI x6, oI x7, nn, nn, nn] [] s else evT f 440 343 [oR 549 0, oI x1, nn, oI x3, oI x4, oI x5, oI x6, oI x7, nn, nn, nn] [] s) (fun _ => rfl) (rg_if h (fun h => ?_) fun h => ?_)
    · refine rg_step 6 (G' := fun f => evT f 440 223 [oR 549 0, oI x1, nn, oI x3, oI x4, oI x5, oI x6, oI x7, oI x1, oI (x1 - (cI 1)), nn] [] s) (fun _ => rfl) (rg_ltI (P := fun v9 => RG (fun f => evT f 440 223 [oR 549 0, oI x1, nn, oI x3, oI x4, oI x5, oI x6, oI x7, oI x1, oI v9, nn] [] s) (cvI q)) h fun v9 h => ?_)
      exact (t_fM_arrangeExactly_h223 hk209) h
    · exact rg_end 2 (fun _ => rfl) (by cases h; rfl)
theorem t_fM_arrangeExactly_h209 {n : Nat} {s : ev_M} {x1 : Int32} {x3 : Int32} {x4 : Int32} {x5 : Int32} {x6 : Int32} {x7 : Int32} {j2 : Option ev_V} {j8 : Option ev_V} {j9 : Option ev_V} {j10 : Option ev_V} {q : ev_M × Int32} (h : fM_arrangeExactly_h209 n s x1 x3 x4 x5 x6 x7 = some q) : RR 440 209 [oR 549 0, oI x1, j2, oI x3, oI x4, oI x5, oI x6, oI x7, j8, j9, j10] [] s (cvI q) := ti_fM_arrangeExactly_h209 n s x1 x3 x4 x5 x6 x7 j2 j8 j9 j10 q h
theorem ti_fM_arrangeExactly_h147 : ∀ (n : Nat) (s : ev_M) (x1 : Int32) (x3 : Int32) (x4 : Int32) (j2 : Option ev_V) (j5 : Option ev_V) (j6 : Option ev_V) (j7 : Option ev_V) (j8 : Option ev_V) (j9 : Option ev_V) (j10 : Option ev_V) (q : ev_M × Int32), fM_arrangeExactly_h147 n s x1 x3 x4 = some q → RR 440 147 [oR 549 0, oI x1, j2, oI x3, oI x4, j5, j6, j7, j8, j9, j10] [] s (cvI q) := by
  intro n
  induction n with
  | zero => intro s x1 x3 x4 j2 j5 j6 j7 j8 j9 j10 q h; cases h
  | succ n ih =>
    have hk147 : ∀ {s : ev_M} {x1 : Int32} {x3 : Int32} {x4 : Int32} {j2 : Option ev_V} {j5 : Option ev_V} {j6 : Option ev_V} {j7 : Option ev_V} {j8 : Option ev_V} {j9 : Option ev_V} {j10 : Option ev_V} {q : ev_M × Int32}, fM_arrangeExactly_h147 n s x1 x3 x4 = some q → RR 440 147 [oR 549 0, oI x1, j2, oI x3, oI x4, j5, j6, j7, j8, j9, j10] [] s (cvI q) := fun h => ih _ _ _ _ _ _ _ _ _ _ _ _ h
    intro s x1 x3 x4 j2 j5 j6 j7 j8 j9 j10 q h
    refine rg_step 3 (G' := fun f => if x4 < x1 then evT f 440 153 [oR 549 0, oI x1, nn, oI x3, oI x4, nn, nn, nn, nn, nn, nn] [] s else evT f 440 197 [oR 549 0, oI x1, nn, oI x3, oI x4, nn, nn, nn, nn, nn, nn] [] s) (fun _ => rfl) (rg_if h (fun h => ?_) fun h => ?_)
    · refine rg_step 4 (G' := fun f => ev_after (evT f 439 0 [oR 549 0, oI x1, oI x4] [] s) (fun q => evT f 440 160 [oR 549 0, oI x1, nn, oI x3, oI x4, nn, nn, nn, nn, nn, nn] (q.2 ++ []) q.1)) (fun _ => rfl) (rg_bd1 h fun v10 hc h => rg_call (q := cvP s v10) (T_fM_far hc) ?_)
      refine rg_step 10 (G' := fun f => if inb (((cI 8) * ((cI 1) <<< (x4 &&& 31))) + x4) 2048 = true then evT f 440 175 [oR 549 0, oI x1, nn, oI x3, oI x4, nn, nn, nn, nn, nn, nn] [vI (s.1 667 (ix (((cI 8) * ((cI 1) <<< (x4 &&& 31))) + x4))), vI v10] s else none) (fun _ => rfl) (rg_gd h fun h => ?_)
      refine rg_step 2 (G' := fun f => evT f 440 178 [oR 549 0, oI x1, nn, oI x3, oI x4, oI (v10 + (s.1 667 (ix (((cI 8) * ((cI 1) <<< (x4 &&& 31))) + x4)))), nn, nn, nn, nn, nn] [] s) (fun _ => rfl) (rg_ltI (P := fun v11 => RG (fun f => evT f 440 178 [oR 549 0, oI x1, nn, oI x3, oI x4, oI v11, nn, nn, nn, nn, nn] [] s) (cvI q)) h fun v11 h => ?_)
      refine rg_step 3 (G' := fun f => if v11 < x3 then evT f 440 184 [oR 549 0, oI x1, nn, oI x3, oI x4, oI v11, nn, nn, nn, nn, nn] [] s else evT f 440 189 [oR 549 0, oI x1, nn, oI x3, oI x4, oI v11, nn, nn, nn, nn, nn] [] s) (fun _ => rfl) (rg_if h (fun h => ?_) fun h => ?_)
      · exact rg_step 2 (G' := fun f => evT f 440 190 [oR 549 0, oI x1, nn, oI x3, oI x4, oI v11, nn, nn, nn, nn, nn] [vI v11] s) (fun _ => rfl) ((t_fM_arrangeExactly_b190 hk147) h)
      · exact rg_step 1 (G' := fun f => evT f 440 190 [oR 549 0, oI x1, nn, oI x3, oI x4, oI v11, nn, nn, nn, nn, nn] [vI x3] s) (fun _ => rfl) ((t_fM_arrangeExactly_b190 hk147) h)
    · exact rg_step 8 (G' := fun f => evT f 440 209 [oR 549 0, oI x1, nn, oI x3, oI (cI 0), oI x1, oI x3, oI (cI 0), nn, nn, nn] [] s) (fun _ => rfl) ((t_fM_arrangeExactly_h209) h)
theorem t_fM_arrangeExactly_h147 {n : Nat} {s : ev_M} {x1 : Int32} {x3 : Int32} {x4 : Int32} {j2 : Option ev_V} {j5 : Option ev_V} {j6 : Option ev_V} {j7 : Option ev_V} {j8 : Option ev_V} {j9 : Option ev_V} {j10 : Option ev_V} {q : ev_M × Int32} (h : fM_arrangeExactly_h147 n s x1 x3 x4 = some q) : RR 440 147 [oR 549 0, oI x1, j2, oI x3, oI x4, j5, j6, j7, j8, j9, j10] [] s (cvI q) := ti_fM_arrangeExactly_h147 n s x1 x3 x4 j2 j5 j6 j7 j8 j9 j10 q h
theorem ti_fM_arrangeExactly_h8 : ∀ (n : Nat) (s : ev_M) (x1 : Int32) (x2 : Int32) (x3 : Int32) (j4 : Option ev_V) (j5 : Option ev_V) (j6 : Option ev_V) (j7 : Option ev_V) (j8 : Option ev_V) (j9 : Option ev_V) (j10 : Option ev_V) (q : ev_M × Int32), fM_arrangeExactly_h8 n s x1 x2 x3 = some q → RR 440 8 [oR 549 0, oI x1, oI x2, oI x3, j4, j5, j6, j7, j8, j9, j10] [] s (cvI q) := by
  intro n
  induction n with
  | zero => intro s x1 x2 x3 j4 j5 j6 j7 j8 j9 j10 q h; cases h
  | succ n ih =>
    have hk8 : ∀ {s : ev_M} {x1 : Int32} {x2 : Int32} {x3 : Int32} {j4 : Option ev_V} {j5 : Option ev_V} {j6 : Option ev_V} {j7 : Option ev_V} {j8 : Option ev_V} {j9 : Option ev_V} {j10 : Option ev_V} {q : ev_M × Int32}, fM_arrangeExactly_h8 n s x1 x2 x3 = some q → RR 440 8 [oR 549 0, oI x1, oI x2, oI x3, j4, j5, j6, j7, j8, j9, j10] [] s (cvI q) := fun h => ih _ _ _ _ _ _ _ _ _ _ _ _ h
    intro s x1 x2 x3 j4 j5 j6 j7 j8 j9 j10 q h
    refine rg_step 2 (G' := fun f => if x3 ≤ 0 then evT f 440 140 [oR 549 0, oI x1, oI x2, oI x3, nn, nn, nn, nn, nn, nn, nn] [] s else evT f 440 12 [oR 549 0, oI x1, oI x2, oI x3, nn, nn, nn, nn, nn, nn, nn] [] s) (fun _ => rfl) (rg_if h (fun h => ?_) fun h => ?_)
    · exact rg_step 4 (G' := fun f => evT f 440 147 [oR 549 0, oI x1, oI x2, oI (cI 100000000), oI (cI 0), nn, nn, nn, nn, nn, nn] [] s) (fun _ => rfl) ((t_fM_arrangeExactly_h147) h)
    · exact rg_step 2 (G' := fun f => evT f 440 15 [oR 549 0, oI x1, oI x2, oI x3, oI (cI 0), nn, nn, nn, nn, nn, nn] [] s) (fun _ => rfl) ((t_fM_arrangeExactly_h15 hk8) h)
theorem t_fM_arrangeExactly_h8 {n : Nat} {s : ev_M} {x1 : Int32} {x2 : Int32} {x3 : Int32} {j4 : Option ev_V} {j5 : Option ev_V} {j6 : Option ev_V} {j7 : Option ev_V} {j8 : Option ev_V} {j9 : Option ev_V} {j10 : Option ev_V} {q : ev_M × Int32} (h : fM_arrangeExactly_h8 n s x1 x2 x3 = some q) : RR 440 8 [oR 549 0, oI x1, oI x2, oI x3, j4, j5, j6, j7, j8, j9, j10] [] s (cvI q) := ti_fM_arrangeExactly_h8 n s x1 x2 x3 j4 j5 j6 j7 j8 j9 j10 q h
theorem T_fM_arrangeExactly {s : ev_M} {a1 : Int32} {q : ev_M × Int32} (h : fM_arrangeExactly s a1 = some q) : RR 440 0 [oR 549 0, oI a1, nn, nn, nn, nn, nn, nn, nn, nn, nn] [] s (cvI q) := by
  refine rg_step 6 (G' := fun f => evT f 440 6 [oR 549 0, oI a1, oI (((cI 1) <<< (a1 &&& 31)) - (cI 1)), nn, nn, nn, nn, nn, nn, nn, nn] [] s) (fun _ => rfl) (rg_ltI (P := fun v12 => RG (fun f => evT f 440 6 [oR 549 0, oI a1, oI v12, nn, nn, nn, nn, nn, nn, nn, nn] [] s) (cvI q)) h fun v12 h => ?_)
  exact rg_step 2 (G' := fun f => evT f 440 8 [oR 549 0, oI a1, oI v12, oI v12, nn, nn, nn, nn, nn, nn, nn] [] s) (fun _ => rfl) ((t_fM_arrangeExactly_h8) h)
theorem t_fM_arrangeByNearest_b80 {k10 : ev_M → Int32 → Int32 → Int32 → Int32 → Int32 → Option (ev_M × Int32)} {k22 : ev_M → Int32 → Int32 → Int32 → Int32 → Int32 → Int32 → Int32 → Option (ev_M × Int32)} (hk10 : ∀ {s : ev_M} {x1 : Int32} {x2 : Int32} {x3 : Int32} {x4 : Int32} {x5 : Int32} {j6 : Option ev_V} {j7 : Option ev_V} {j8 : Option ev_V} {q : ev_M × Int32}, k10 s x1 x2 x3 x4 x5 = some q → RR 441 10 [oR 549 0, oI x1, oI x2, oI x3, oI x4, oI x5, j6, j7, j8] [] s (cvI q)) (hk22 : ∀ {s : ev_M} {x1 : Int32} {x2 : Int32} {x3 : Int32} {x4 : Int32} {x5 : Int32} {x6 : Int32} {x7 : Int32} {j8 : Option ev_V} {q : ev_M × Int32}, k22 s x1 x2 x3 x4 x5 x6 x7 = some q → RR 441 22 [oR 549 0, oI x1, oI x2, oI x3, oI x4, oI x5, oI x6, oI x7, j8] [] s (cvI q)) {s : ev_M} {x1 : Int32} {x2 : Int32} {x3 : Int32} {x4 : Int32} {x5 : Int32} {x7 : Int32} {y0 : Int32} {j6 : Option ev_V} {j8 : Option ev_V} {q : ev_M × Int32} (h : fM_arrangeByNearest_b80 k10 k22 s x1 x2 x3 x4 x5 x7 y0 = some q) : RR 441 80 [oR 549 0, oI x1, oI x2, oI x3, oI x4, oI x5, j6, oI x7, j8] [vI y0] s (cvI q) := by
  exact rg_step 3 (G' := fun f => evT f 441 22 [oR 549 0, oI x1, oI x2, oI x3, oI x4, oI x5, oI y0, oI (x7 + cI 1), nn] [] s) (fun _ => rfl) (hk22 h)
theorem t_fM_arrangeByNearest_b73 {k10 : ev_M → Int32 → Int32 → Int32 → Int32 → Int32 → Option (ev_M × Int32)} {k22 : ev_M → Int32 → Int32 → Int32 → Int32 → Int32 → Int32 → Int32 → Option (ev_M × Int32)} (hk10 : ∀ {s : ev_M} {x1 : Int32} {x2 : Int32} {x3 : Int32} {x4 : Int32} {x5 : Int32} {j6 : Option ev_V} {j7 : Option ev_V} {j8 : Option ev_V} {q : ev_M × Int32}, k10 s x1 x2 x3 x4 x5 = some q → RR 441 10 [oR 549 0, oI x1, oI x2, oI x3, oI x4, oI x5, j6, j7, j8] [] s (cvI q)) (hk22 : ∀ {s : ev_M} {x1 : Int32} {x2 : Int32} {x3 : Int32} {x4 : Int32} {x5 : Int32} {x6 : Int32} {x7 : Int32} {j8 : Option ev_V} {q : ev_M × Int32}, k22 s x1 x2 x3 x4 x5 x6 x7 = some q → RR 441 22 [oR 549 0, oI x1, oI x2, oI x3, oI x4, oI x5, oI x6, oI x7, j8] [] s (cvI q)) {s : ev_M} {x1 : Int32} {x2 : Int32} {x3 : Int32} {x4 : Int32} {x5 : Int32} {x7 : Int32} {j6 : Option ev_V} {j8 : Option ev_V} {q : ev_M × Int32} (h : fM_arrangeByNearest_b73 k10 k22 s x1 x2 x3 x4 x5 x7 = some q) : RR 441 73 [oR 549 0, oI x1, oI x2, oI x3, oI x4, oI x5, j6, oI x7, j8] [] s (cvI q) := by
  exact rg_step 2 (G' := fun f => evT f 441 80 [oR 549 0, oI x1, oI x2, oI x3, oI x4, oI x5, nn, oI x7, nn] [vI x7] s) (fun _ => rfl) ((t_fM_arrangeByNearest_b80 hk10 hk22) h)
theorem t_fM_arrangeByNearest_b78 {k10 : ev_M → Int32 → Int32 → Int32 → Int32 → Int32 → Option (ev_M × Int32)} {k22 : ev_M → Int32 → Int32 → Int32 → Int32 → Int32 → Int32 → Int32 → Option (ev_M × Int32)} (hk10 : ∀ {s : ev_M} {x1 : Int32} {x2 : Int32} {x3 : Int32} {x4 : Int32} {x5 : Int32} {j6 : Option ev_V} {j7 : Option ev_V} {j8 : Option ev_V} {q : ev_M × Int32}, k10 s x1 x2 x3 x4 x5 = some q → RR 441 10 [oR 549 0, oI x1, oI x2, oI x3, oI x4, oI x5, j6, j7, j8] [] s (cvI q)) (hk22 : ∀ {s : ev_M} {x1 : Int32} {x2 : Int32} {x3 : Int32} {x4 : Int32} {x5 : Int32} {x6 : Int32} {x7 : Int32} {j8 : Option ev_V} {q : ev_M × Int32}, k22 s x1 x2 x3 x4 x5 x6 x7 = some q → RR 441 22 [oR 549 0, oI x1, oI x2, oI x3, oI x4, oI x5, oI x6, oI x7, j8] [] s (cvI q)) {s : ev_M} {x1 : Int32} {x2 : Int32} {x3 : Int32} {x4 : Int32} {x5 : Int32} {x6 : Int32} {x7 : Int32} {j8 : Option ev_V} {q : ev_M × Int32} (h : fM_arrangeByNearest_b78 k10 k22 s x1 x2 x3 x4 x5 x6 x7 = some q) : RR 441 78 [oR 549 0, oI x1, oI x2, oI x3, oI x4, oI x5, oI x6, oI x7, j8] [] s (cvI q) := by
  exact rg_step 1 (G' := fun f => evT f 441 80 [oR 549 0, oI x1, oI x2, oI x3, oI x4, oI x5, oI x6, oI x7, nn] [vI x6] s) (fun _ => rfl) ((t_fM_arrangeByNearest_b80 hk10 hk22) h)
theorem t_fM_arrangeByNearest_b43 {k10 : ev_M → Int32 → Int32 → Int32 → Int32 → Int32 → Option (ev_M × Int32)} {k22 : ev_M → Int32 → Int32 → Int32 → Int32 → Int32 → Int32 → Int32 → Option (ev_M × Int32)} (hk10 : ∀ {s : ev_M} {x1 : Int32} {x2 : Int32} {x3 : Int32} {x4 : Int32} {x5 : Int32} {j6 : Option ev_V} {j7 : Option ev_V} {j8 : Option ev_V} {q : ev_M × Int32}, k10 s x1 x2 x3 x4 x5 = some q → RR 441 10 [oR 549 0, oI x1, oI x2, oI x3, oI x4, oI x5, j6, j7, j8] [] s (cvI q)) (hk22 : ∀ {s : ev_M} {x1 : Int32} {x2 : Int32} {x3 : Int32} {x4 : Int32} {x5 : Int32} {x6 : Int32} {x7 : Int32} {j8 : Option ev_V} {q : ev_M × Int32}, k22 s x1 x2 x3 x4 x5 x6 x7 = some q → RR 441 22 [oR 549 0, oI x1, oI x2, oI x3, oI x4, oI x5, oI x6, oI x7, j8] [] s (cvI q)) {s : ev_M} {x1 : Int32} {x2 : Int32} {x3 : Int32} {x4 : Int32} {x5 : Int32} {x6 : Int32} {x7 : Int32} {y0 : Int32} {j8 : Option ev_V} {q : ev_M × Int32} (h : fM_arrangeByNearest_b43 k10 k22 s x1 x2 x3 x4 x5 x6 x7 y0 = some q) : RR 441 43 [oR 549 0, oI x1, oI x2, oI x3, oI x4, oI x5, oI x6, oI x7, j8] [vI y0] s (cvI q) := by
  refine rg_step 3 (G' := fun f => if y0 = 0 then evT f 441 78 [oR 549 0, oI x1, oI x2, oI x3, oI x4, oI x5, oI x6, oI x7, oI y0] [] s else evT f 441 50 [oR 549 0, oI x1, oI x2, oI x3, oI x4, oI x5, oI x6, oI x7, oI y0] [] s) (fun _ => rfl) (rg_if h (fun h => ?_) fun h => ?_)
  · exact (t_fM_arrangeByNearest_b78 hk10 hk22) h
  · refine rg_step 3 (G' := fun f => if x6 = (cI (-1)) then evT f 441 73 [oR 549 0, oI x1, oI x2, oI x3, oI x4, oI x5, oI x6, oI x7, oI y0] [] s else evT f 441 56 [oR 549 0, oI x1, oI x2, oI x3, oI x4, oI x5, oI x6, oI x7, oI y0] [] s) (fun _ => rfl) (rg_if h (fun h => ?_) fun h => ?_)
    · exact (t_fM_arrangeByNearest_b73 hk10 hk22) h
    · refine rg_step 4 (G' := fun f => ev_after (evT f 439 0 [oR 549 0, oI x3, oI x7] [] s) (fun q => evT f 441 63 [oR 549 0, oI x1, oI x2, oI x3, oI x4, oI x5, oI x6, oI x7, oI y0] (q.2 ++ []) q.1)) (fun _ => rfl) (rg_bd1 h fun v1 hc h => rg_call (q := cvP s v1) (T_fM_far hc) ?_)
      refine rg_step 4 (G' := fun f => ev_after (evT f 439 0 [oR 549 0, oI x3, oI x6] [] s) (fun q => evT f 441 70 [oR 549 0, oI x1, oI x2, oI x3, oI x4, oI x5, oI x6, oI x7, oI y0] (q.2 ++ [vI v1]) q.1)) (fun _ => rfl) (rg_bd1 h fun v2 hc h => rg_call (q := cvP s v2) (T_fM_far hc) ?_)
      refine rg_step 1 (G' := fun f => if v1 < v2 then evT f 441 73 [oR 549 0, oI x1, oI x2, oI x3, oI x4, oI x5, oI x6, oI x7, oI y0] [] s else evT f 441 78 [oR 549 0, oI x1, oI x2, oI x3, oI x4, oI x5, oI x6, oI x7, oI y0] [] s) (fun _ => rfl) (rg_if h (fun h => ?_) fun h => ?_)
      · exact (t_fM_arrangeByNearest_b73 hk10 hk22) h
      · exact (t_fM_arrangeByNearest_b78 hk10 hk22) h
theorem ti_fM_arrangeByNearest_h22 {k10 : ev_M → Int32 → Int32 → Int32 → Int32 → Int32 → Option (ev_M × Int32)} (hk10 : ∀ {s : ev_M} {x1 : Int32} {x2 : Int32} {x3 : Int32} {x4 : Int32} {x5 : Int32} {j6 : Option ev_V} {j7 : Option ev_V} {j8 : Option ev_V} {q : ev_M × Int32}, k10 s x1 x2 x3 x4 x5 = some q → RR 441 10 [oR 549 0, oI x1, oI x2, oI x3, oI x4, oI x5, j6, j7, j8] [] s (cvI q)) : ∀ (n : Nat) (s : ev_M) (x1 : Int32) (x2 : Int32) (x3 : Int32) (x4 : Int32) (x5 : Int32) (x6 : Int32) (x7 : Int32) (j8 : Option ev_V) (q : ev_M × Int32), fM_arrangeByNearest_h22 k10 n s x1 x2 x3 x4 x5 x6 x7 = some q → RR 441 22 [oR 549 0, oI x1, oI x2, oI x3, oI x4, oI x5, oI x6, oI x7, j8] [] s (cvI q) := by
  intro n
  induction n with
  | zero => intro s x1 x2 x3 x4 x5 x6 x7 j8 q h; cases h
  | succ n ih =>
    have hk22 : ∀ {s : ev_M} {x1 : Int32} {x2 : Int32} {x3 : Int32} {x4 : Int32} {x5 : Int32} {x6 : Int32} {x7 : Int32} {j8 : Option ev_V} {q : ev_M × Int32}, fM_arrangeByNearest_h22 k10 n s x1 x2 x3 x4 x5 x6 x7 = some q → RR 441 22 [oR 549 0, oI x1, oI x2, oI x3, oI x4, oI x5, oI x6, oI x7, j8] [] s (cvI q) := fun h => ih _ _ _ _ _ _ _ _ _ _ h
    intro s x1 x2 x3 x4 x5 x6 x7 j8 q h
    refine rg_step 3 (G' := fun f => if x7 < x1 then evT f 441 28 [oR 549 0, oI x1, oI x2, oI x3, oI x4, oI x5, oI x6, oI x7, nn] [] s else evT f 441 88 [oR 549 0, oI x1, oI x2, oI x3, oI x4, oI x5, oI x6, oI x7, nn] [] s) (fun _ => rfl) (rg_if h (fun h => ?_) fun h => ?_)
    · refine rg_step 6 (G' := fun f => if ((x4 >>> (x7 &&& 31)) &&& (cI 1)) = 0 then evT f 441 38 [oR 549 0, oI x1, oI x2, oI x3, oI x4, oI x5, oI x6, oI x7, nn] [] s else evT f 441 42 [oR 549 0, oI x1, oI x2, oI x3, oI x4, oI x5, oI x6, oI x7, nn] [] s) (fun _ => rfl) (rg_if h (fun h => ?_) fun h => ?_)
      · exact rg_step 2 (G' := fun f => evT f 441 43 [oR 549 0, oI x1, oI x2, oI x3, oI x4, oI x5, oI x6, oI x7, nn] [vI (cI 1)] s) (fun _ => rfl) ((t_fM_arrangeByNearest_b43 hk10 hk22) h)
      · exact rg_step 1 (G' := fun f => evT f 441 43 [oR 549 0, oI x1, oI x2, oI x3, oI x4, oI x5, oI x6, oI x7, nn] [vI (cI 0)] s) (fun _ => rfl) ((t_fM_arrangeByNearest_b43 hk10 hk22) h)
    · refine rg_step 5 (G' := fun f => ev_after (evT f 439 0 [oR 549 0, oI x3, oI x6] [] s) (fun q => evT f 441 96 [oR 549 0, oI x1, oI x2, oI x3, oI x4, oI x5, oI x6, oI x7, nn] (q.2 ++ [vI x2]) q.1)) (fun _ => rfl) (rg_bd1 h fun v3 hc h => rg_call (q := cvP s v3) (T_fM_far hc) ?_)
      refine rg_step 2 (G' := fun f => evT f 441 98 [oR 549 0, oI x1, oI (x2 + v3), oI x3, oI x4, oI x5, oI x6, oI x7, nn] [] s) (fun _ => rfl) (rg_ltI (P := fun v4 => RG (fun f => evT f 441 98 [oR 549 0, oI x1, oI v4, oI x3, oI x4, oI x5, oI x6, oI x7, nn] [] s) (cvI q)) h fun v4 h => ?_)
      refine rg_step 6 (G' := fun f => evT f 441 107 [oR 549 0, oI x1, oI v4, oI x3, oI (x4 ||| ((cI 1) <<< (x6 &&& 31))), oI x5, oI x6, oI x7, nn] [] s) (fun _ => rfl) (rg_ltI (P := fun v5 => RG (fun f => evT f 441 107 [oR 549 0, oI x1, oI v4, oI x3, oI v5, oI x5, oI x6, oI x7, nn] [] s) (cvI q)) h fun v5 h => ?_)
      refine rg_step 8 (G' := fun f => if inb x6 21 = true then evT f 441 121 [oR 549 0, oI x1, oI v4, oI x6, oI v5, oI x5, oI x6, oI x7, nn] [vI (s.1 664 (ix x6)), vR 572 0] s else none) (fun _ => rfl) (rg_gd h fun h => ?_)
      refine rg_step 2 (G' := fun f => if inb (s.1 664 (ix x6)) 120 = true then evT f 441 124 [oR 549 0, oI x1, oI v4, oI x6, oI v5, oI x5, oI x6, oI x7, nn] [] (wI s 572 (ix (s.1 664 (ix x6))) x5) else none) (fun _ => rfl) (rg_gd h fun h => rg_ltM h fun s6 h => ?_)
      exact rg_step 2 (G' := fun f => evT f 441 10 [oR 549 0, oI x1, oI v4, oI x6, oI v5, oI (x5 + cI 1), oI x6, oI x7, nn] [] s6) (fun _ => rfl) (hk10 h)
theorem t_fM_arrangeByNearest_h22 {k10 : ev_M → Int32 → Int32 → Int32 → Int32 → Int32 → Option (ev_M × Int32)} (hk10 : ∀ {s : ev_M} {x1 : Int32} {x2 : Int32} {x3 : Int32} {x4 : Int32} {x5 : Int32} {j6 : Option ev_V} {j7 : Option ev_V} {j8 : Option ev_V} {q : ev_M × Int32}, k10 s x1 x2 x3 x4 x5 = some q → RR 441 10 [oR 549 0, oI x1, oI x2, oI x3, oI x4, oI x5, j6, j7, j8] [] s (cvI q)) {n : Nat} {s : ev_M} {x1 : Int32} {x2 : Int32} {x3 : Int32} {x4 : Int32} {x5 : Int32} {x6 : Int32} {x7 : Int32} {j8 : Option ev_V} {q : ev_M × Int32} (h : fM_arrangeByNearest_h22 k10 n s x1 x2 x3 x4 x5 x6 x7 = some q) : RR 441 22 [oR 549 0, oI x1, oI x2, oI x3, oI x4, oI x5, oI x6, oI x7, j8] [] s (cvI q) := ti_fM_arrangeByNearest_h22 hk10 n s x1 x2 x3 x4 x5 x6 x7 j8 q h
theorem ti_fM_arrangeByNearest_h10 : ∀ (n : Nat) (s : ev_M) (x1 : Int32) (x2 : Int32) (x3 : Int32) (x4 : Int32) (x5 : Int32) (j6 : Option ev_V) (j7 : Option ev_V) (j8 : Option ev_V) (q : ev_M × Int32), fM_arrangeByNearest_h10 n s x1 x2 x3 x4 x5 = some q → RR 441 10 [oR 549 0, oI x1, oI x2, oI x3, oI x4, oI x5, j6, j7, j8] [] s (cvI q) := by
  intro n
  induction n with
  | zero => intro s x1 x2 x3 x4 x5 j6 j7 j8 q h; cases h
  | succ n ih =>
    have hk10 : ∀ {s : ev_M} {x1 : Int32} {x2 : Int32} {x3 : Int32} {x4 : Int32} {x5 : Int32} {j6 : Option ev_V} {j7 : Option ev_V} {j8 : Option ev_V} {q : ev_M × Int32}, fM_arrangeByNearest_h10 n s x1 x2 x3 x4 x5 = some q → RR 441 10 [oR 549 0, oI x1, oI x2, oI x3, oI x4, oI x5, j6, j7, j8] [] s (cvI q) := fun h => ih _ _ _ _ _ _ _ _ _ _ h
    intro s x1 x2 x3 x4 x5 j6 j7 j8 q h
    refine rg_step 3 (G' := fun f => if x5 < x1 then evT f 441 16 [oR 549 0, oI x1, oI x2, oI x3, oI x4, oI x5, nn, nn, nn] [] s else evT f 441 130 [oR 549 0, oI x1, oI x2, oI x3, oI x4, oI x5, nn, nn, nn] [] s) (fun _ => rfl) (rg_if h (fun h => ?_) fun h => ?_)
    · exact rg_step 4 (G' := fun f => evT f 441 22 [oR 549 0, oI x1, oI x2, oI x3, oI x4, oI x5, oI (cI (-1)), oI (cI 0), nn] [] s) (fun _ => rfl) ((t_fM_arrangeByNearest_h22 hk10) h)
    · refine rg_step 5 (G' := fun f => ev_after (evT f 439 0 [oR 549 0, oI x3, oI x1] [] s) (fun q => evT f 441 137 [oR 549 0, oI x1, oI x2, oI x3, oI x4, oI x5, nn, nn, nn] (q.2 ++ [vI x2]) q.1)) (fun _ => rfl) (rg_bd1 h fun v7 hc h => rg_call (q := cvP s v7) (T_fM_far hc) ?_)
      exact rg_end 2 (fun _ => rfl) (by cases h; rfl)
theorem t_fM_arrangeByNearest_h10 {n : Nat} {s : ev_M} {x1 : Int32} {x2 : Int32} {x3 : Int32} {x4 : Int32} {x5 : Int32} {j6 : Option ev_V} {j7 : Option ev_V} {j8 : Option ev_V} {q : ev_M × Int32} (h : fM_arrangeByNearest_h10 n s x1 x2 x3 x4 x5 = some q) : RR 441 10 [oR 549 0, oI x1, oI x2, oI x3, oI x4, oI x5, j6, j7, j8] [] s (cvI q) := ti_fM_arrangeByNearest_h10 n s x1 x2 x3 x4 x5 j6 j7 j8 q h
theorem T_fM_arrangeByNearest {s : ev_M} {a1 : Int32} {q : ev_M × Int32} (h : fM_arrangeByNearest s a1 = some q) : RR 441 0 [oR 549 0, oI a1, nn, nn, nn, nn, nn, nn, nn] [] s (cvI q) := by
  exact rg_step 8 (G' := fun f => evT f 441 10 [oR 549 0, oI a1, oI (cI 0), oI a1, oI (cI 0), oI (cI 0), nn, nn, nn] [] s) (fun _ => rfl) ((t_fM_arrangeByNearest_h10) h)
theorem t_fM_doArrange_b83 {k33 : ev_M → Int32 → Int32 → Int32 → Option (ev_M × Int32)} (hk33 : ∀ {s : ev_M} {x1 : Int32} {x2 : Int32} {x3 : Int32} {q : ev_M × Int32}, k33 s x1 x2 x3 = some q → RR 442 33 [oR 549 0, oI x1, oI x2, oI x3] [] s (cvI q)) {s : ev_M} {x1 : Int32} {x2 : Int32} {x3 : Int32} {q : ev_M × Int32} (h : fM_doArrange_b83 k33 s x1 x2 x3 = some q) : RR 442 83 [oR 549 0, oI x1, oI x2, oI x3] [] s (cvI q) := by
  exact rg_step 2 (G' := fun f => evT f 442 33 [oR 549 0, oI x1, oI x2, oI (x3 + cI 1)] [] s) (fun _ => rfl) (hk33 h)
theorem ti_fM_doArrange_h33 : ∀ (n : Nat) (s : ev_M) (x1 : Int32) (x2 : Int32) (x3 : Int32) (q : ev_M × Int32), fM_doArrange_h33 n s x1 x2 x3 = some q → RR 442 33 [oR 549 0, oI x1, oI x2, oI x3] [] s (cvI q) := by
  intro n
  induction n with
  | zero => intro s x1 x2 x3 q h; cases h
  | succ n ih =>
    have hk33 : ∀ {s : ev_M} {x1 : Int32} {x2 : Int32} {x3 : Int32} {q : ev_M × Int32}, fM_doArrange_h33 n s x1 x2 x3 = some q → RR 442 33 [oR 549 0, oI x1, oI x2, oI x3] [] s (cvI q) := fun h => ih _ _ _ _ _ h
    intro s x1 x2 x3 q h
    refine rg_step 4 (G' := fun f => if x3 < (s.1 549 38) then evT f 442 41 [oR 549 0, oI x1, oI x2, oI x3] [] s else evT f 442 89 [oR 549 0, oI x1, oI x2, oI x3] [] s) (fun _ => rfl) (rg_if h (fun h => ?_) fun h => ?_)
    · refine rg_step 4 (G' := fun f => if inb x3 120 = true then evT f 442 47 [oR 549 0, oI x1, oI x2, oI x3] [vI (s.1 571 (ix x3))] s else none) (fun _ => rfl) (rg_gd h fun h => ?_)
      refine rg_step 2 (G' := fun f => if (s.1 571 (ix x3)) = x1 then evT f 442 51 [oR 549 0, oI x1, oI x2, oI x3] [] s else evT f 442 83 [oR 549 0, oI x1, oI x2, oI x3] [] s) (fun _ => rfl) (rg_if h (fun h => ?_) fun h => ?_)
      · refine rg_step 5 (G' := fun f => if inb x2 21 = true then evT f 442 58 [oR 549 0, oI x1, oI x2, oI x3] [] (wI s 664 (ix x2) x3) else none) (fun _ => rfl) (rg_gd h fun h => rg_ltM h fun s1 h => ?_)
        refine rg_step 6 (G' := fun f => ev_after (evT f 380 0 [oR 549 0, oI x3, nn, nn] [] s1) (fun q => evT f 442 68 [oR 549 0, oI x1, oI x2, oI x3] (q.2 ++ [vI x2, vR 665 0]) q.1)) (fun _ => rfl) (rg_bd1 h fun v2 hc h => rg_call (q := cvP s1 v2) (T_fM_xOf hc) ?_)
        refine rg_step 1 (G' := fun f => if inb x2 21 = true then evT f 442 69 [oR 549 0, oI x1, oI x2, oI x3] [] (wI s1 665 (ix x2) v2) else none) (fun _ => rfl) (rg_gd h fun h => rg_ltM h fun s3 h => ?_)
        refine rg_step 6 (G' := fun f => ev_after (evT f 381 0 [oR 549 0, oI x3, nn, nn] [] s3) (fun q => evT f 442 79 [oR 549 0, oI x1, oI x2, oI x3] (q.2 ++ [vI x2, vR 666 0]) q.1)) (fun _ => rfl) (rg_bd1 h fun v4 hc h => rg_call (q := cvP s3 v4) (T_fM_yOf hc) ?_)
        refine rg_step 1 (G' := fun f => if inb x2 21 = true then evT f 442 80 [oR 549 0, oI x1, oI x2, oI x3] [] (wI s3 666 (ix x2) v4) else none) (fun _ => rfl) (rg_gd h fun h => rg_ltM h fun s5 h => ?_)
        exact rg_step 1 (G' := fun f => evT f 442 83 [oR 549 0, oI x1, oI (x2 + cI 1), oI x3] [] s5) (fun _ => rfl) ((t_fM_doArrange_b83 hk33) h)
      · exact (t_fM_doArrange_b83 hk33) h
    · refine rg_step 7 (G' := fun f => if inb x1 12 = true then evT f 442 100 [oR 549 0, oI x1, oI x2, oI x3] [vI (s.1 608 (ix x1)), vI x2, vR 665 0] s else none) (fun _ => rfl) (rg_gd h fun h => ?_)
      refine rg_step 1 (G' := fun f => if inb x2 21 = true then evT f 442 101 [oR 549 0, oI x1, oI x2, oI x3] [] (wI s 665 (ix x2) (s.1 608 (ix x1))) else none) (fun _ => rfl) (rg_gd h fun h => rg_ltM h fun s6 h => ?_)
      refine rg_step 7 (G' := fun f => if inb x1 12 = true then evT f 442 112 [oR 549 0, oI x1, oI x2, oI x3] [vI (s6.1 609 (ix x1)), vI x2, vR 666 0] s6 else none) (fun _ => rfl) (rg_gd h fun h => ?_)
      refine rg_step 1 (G' := fun f => if inb x2 21 = true then evT f 442 113 [oR 549 0, oI x1, oI x2, oI x3] [] (wI s6 666 (ix x2) (s6.1 609 (ix x1))) else none) (fun _ => rfl) (rg_gd h fun h => rg_ltM h fun s7 h => ?_)
      refine rg_step 2 (G' := fun f => if x2 = 0 then evT f 442 117 [oR 549 0, oI x1, oI x2, oI x3] [] s7 else evT f 442 121 [oR 549 0, oI x1, oI x2, oI x3] [] s7) (fun _ => rfl) (rg_if h (fun h => ?_) fun h => ?_)
      · exact rg_end 3 (fun _ => rfl) (by cases h; rfl)
      · refine rg_step 3 (G' := fun f => if x2 ≤ (cI 8) then evT f 442 127 [oR 549 0, oI x1, oI x2, oI x3] [] s7 else evT f 442 135 [oR 549 0, oI x1, oI x2, oI x3] [] s7) (fun _ => rfl) (rg_if h (fun h => ?_) fun h => ?_)
        · refine rg_step 3 (G' := fun f => ev_after (evT f 440 0 [oR 549 0, oI x2, nn, nn, nn, nn, nn, nn, nn, nn, nn] [] s7) (fun q => evT f 442 132 [oR 549 0, oI x1, oI x2, oI x3] (q.2 ++ []) q.1)) (fun _ => rfl) (rg_bd2 h fun s8 v9 hc h => rg_call (q := cvI (s8, v9)) (T_fM_arrangeExactly hc) ?_)
          exact rg_end 2 (fun _ => rfl) (by cases h; rfl)
        · refine rg_step 3 (G' := fun f => ev_after (evT f 441 0 [oR 549 0, oI x2, nn, nn, nn, nn, nn, nn, nn] [] s7) (fun q => evT f 442 140 [oR 549 0, oI x1, oI x2, oI x3] (q.2 ++ []) q.1)) (fun _ => rfl) (rg_bd2 h fun s10 v11 hc h => rg_call (q := cvI (s10, v11)) (T_fM_arrangeByNearest hc) ?_)
          exact rg_end 1 (fun _ => rfl) (by cases h; rfl)
theorem t_fM_doArrange_h33 {n : Nat} {s : ev_M} {x1 : Int32} {x2 : Int32} {x3 : Int32} {q : ev_M × Int32} (h : fM_doArrange_h33 n s x1 x2 x3 = some q) : RR 442 33 [oR 549 0, oI x1, oI x2, oI x3] [] s (cvI q) := ti_fM_doArrange_h33 n s x1 x2 x3 q h
theorem T_fM_doArrange {s : ev_M} {a1 : Int32} {q : ev_M × Int32} (h : fM_doArrange s a1 = some q) : RR 442 0 [oR 549 0, oI a1, nn, nn] [] s (cvI q) := by
  refine rg_step 3 (G' := fun f => ev_after (evT f 344 0 [oR 549 0, oI a1] [] s) (fun q => evT f 442 5 [oR 549 0, oI a1, nn, nn] (q.2 ++ []) q.1)) (fun _ => rfl) (rg_bd1 h fun v12 hc h => rg_call (q := cvP s v12) (T_fM_isRound hc) ?_)
  refine rg_step 1 (G' := fun f => if v12 = 0 then evT f 442 8 [oR 549 0, oI a1, nn, nn] [] s else evT f 442 15 [oR 549 0, oI a1, nn, nn] [] s) (fun _ => rfl) (rg_if h (fun h => ?_) fun h => ?_)
  · refine rg_step 3 (G' := fun f => ev_after (evT f 315 0 [oR 549 0, oI (cI (-101))] [] s) (fun q => evT f 442 14 [oR 549 0, oI a1, nn, nn] (q.2 ++ []) q.1)) (fun _ => rfl) (rg_bd2 h fun s13 v14 hc h => rg_call (q := cvI (s13, v14)) (T_fM_no hc) ?_)
    exact rg_end 1 (fun _ => rfl) (by cases h; rfl)
  · refine rg_step 2 (G' := fun f => ev_after (evT f 316 0 [oR 549 0, nn] [] s) (fun q => evT f 442 19 [oR 549 0, oI a1, nn, nn] (q.2 ++ []) q.1)) (fun _ => rfl) (rg_bd1 h fun v15 hc h => rg_call (q := cvP s v15) (T_fM_full hc) ?_)
    refine rg_step 1 (G' := fun f => if v15 = 0 then evT f 442 29 [oR 549 0, oI a1, nn, nn] [] s else evT f 442 22 [oR 549 0, oI a1, nn, nn] [] s) (fun _ => rfl) (rg_if h (fun h => ?_) fun h => ?_)
    · exact rg_step 4 (G' := fun f => evT f 442 33 [oR 549 0, oI a1, oI (cI 0), oI (cI 0)] [] s) (fun _ => rfl) ((t_fM_doArrange_h33) h)
    · refine rg_step 3 (G' := fun f => ev_after (evT f 315 0 [oR 549 0, oI (cI (-104))] [] s) (fun q => evT f 442 28 [oR 549 0, oI a1, nn, nn] (q.2 ++ []) q.1)) (fun _ => rfl) (rg_bd2 h fun s16 v17 hc h => rg_call (q := cvI (s16, v17)) (T_fM_no hc) ?_)
      exact rg_end 1 (fun _ => rfl) (by cases h; rfl)
theorem t_fM_gates_b91 {k2 : ev_M → Int32 → Int32 → Int32 → Option (ev_M × Int32)} (hk2 : ∀ {s : ev_M} {x1 : Int32} {x2 : Int32} {x3 : Int32} {j4 : Option ev_V} {j5 : Option ev_V} {q : ev_M × Int32}, k2 s x1 x2 x3 = some q → RR 447 2 [oR 549 0, oI x1, oI x2, oI x3, j4, j5] [] s (cvI q)) {s : ev_M} {x1 : Int32} {x2 : Int32} {x3 : Int32} {y1 : Int32} {y2 : Int32} {j4 : Option ev_V} {j5 : Option ev_V} {q : ev_M × Int32} (h : fM_gates_b91 k2 s x1 x2 x3 y1 y2 = some q) : RR 447 91 [oR 549 0, oI x1, oI x2, oI x3, j4, j5] [vI y2, vI y1, vR 673 0] s (cvI q) := by
  refine rg_step 1 (G' := fun f => if inb y1 16 = true then evT f 447 92 [oR 549 0, oI x1, oI x2, oI x3, nn, nn] [] (wI s 673 (ix y1) (y2 &&& 1)) else none) (fun _ => rfl) (rg_gd h fun h => rg_ltM h fun s1 h => ?_)
  refine rg_step 5 (G' := fun f => if inb x3 16 = true then evT f 447 99 [oR 549 0, oI x1, oI x2, oI x3, nn, nn] [] (wI s1 674 (ix x3) x1) else none) (fun _ => rfl) (rg_gd h fun h => rg_ltM h fun s2 h => ?_)
  refine rg_step 4 (G' := fun f => if inb x3 16 = true then evT f 447 105 [oR 549 0, oI x1, oI x2, oI x3, nn, nn] [vI (s2.1 673 (ix x3))] s2 else none) (fun _ => rfl) (rg_gd h fun h => ?_)
  refine rg_step 1 (G' := fun f => if (s2.1 673 (ix x3)) = 0 then evT f 447 110 [oR 549 0, oI x1, oI x2, oI x3, nn, nn] [] s2 else evT f 447 108 [oR 549 0, oI x1, oI x2, oI x3, nn, nn] [] s2) (fun _ => rfl) (rg_if h (fun h => ?_) fun h => ?_)
  · exact rg_step 2 (G' := fun f => evT f 447 2 [oR 549 0, oI x1, oI x2, oI (x3 + cI 1), nn, nn] [] s2) (fun _ => rfl) (hk2 h)
  · exact rg_end 2 (fun _ => rfl) (by cases h; rfl)
theorem t_fM_gates_b68 {k2 : ev_M → Int32 → Int32 → Int32 → Option (ev_M × Int32)} (hk2 : ∀ {s : ev_M} {x1 : Int32} {x2 : Int32} {x3 : Int32} {j4 : Option ev_V} {j5 : Option ev_V} {q : ev_M × Int32}, k2 s x1 x2 x3 = some q → RR 447 2 [oR 549 0, oI x1, oI x2, oI x3, j4, j5] [] s (cvI q)) {s : ev_M} {x1 : Int32} {x2 : Int32} {x3 : Int32} {x4 : Int32} {y0 : Int32} {j5 : Option ev_V} {q : ev_M × Int32} (h : fM_gates_b68 k2 s x1 x2 x3 x4 y0 = some q) : RR 447 68 [oR 549 0, oI x1, oI x2, oI x3, oI x4, j5] [vI y0] s (cvI q) := by
  refine rg_step 6 (G' := fun f => if y0 = 0 then evT f 447 89 [oR 549 0, oI x1, oI x2, oI x3, oI x4, oI y0] [vI x3, vR 673 0] s else evT f 447 80 [oR 549 0, oI x1, oI x2, oI x3, oI x4, oI y0] [vI x3, vR 673 0] s) (fun _ => rfl) (rg_if h (fun h => ?_) fun h => ?_)
  · exact rg_step 1 (G' := fun f => evT f 447 91 [oR 549 0, oI x1, oI x2, oI x3, oI x4, oI y0] [vI x4, vI x3, vR 673 0] s) (fun _ => rfl) ((t_fM_gates_b91 hk2) h)
  · refine rg_step 4 (G' := fun f => if inb x3 16 = true then evT f 447 86 [oR 549 0, oI x1, oI x2, oI x3, oI x4, oI y0] [vI (s.1 673 (ix x3)), vI x3, vR 673 0] s else none) (fun _ => rfl) (rg_gd h fun h => ?_)
    exact rg_step 1 (G' := fun f => evT f 447 91 [oR 549 0, oI x1, oI x2, oI x3, oI x4, oI y0] [vI (s.1 673 (ix x3)), vI x3, vR 673 0] s) (fun _ => rfl) ((t_fM_gates_b91 hk2) h)
theorem t_fM_gates_b67 {k2 : ev_M → Int32 → Int32 → Int32 → Option (ev_M × Int32)} (hk2 : ∀ {s : ev_M} {x1 : Int32} {x2 : Int32} {x3 : Int32} {j4 : Option ev_V} {j5 : Option ev_V} {q : ev_M × Int32}, k2 s x1 x2 x3 = some q → RR 447 2 [oR 549 0, oI x1, oI x2, oI x3, j4, j5] [] s (cvI q)) {s : ev_M} {x1 : Int32} {x2 : Int32} {x3 : Int32} {x4 : Int32} {j5 : Option ev_V} {q : ev_M × Int32} (h : fM_gates_b67 k2 s x1 x2 x3 x4 = some q) : RR 447 67 [oR 549 0, oI x1, oI x2, oI x3, oI x4, j5] [] s (cvI q) := by
  exact rg_step 1 (G' := fun f => evT f 447 68 [oR 549 0, oI x1, oI x2, oI x3, oI x4, nn] [vI (cI 0)] s) (fun _ => rfl) ((t_fM_gates_b68 hk2) h)
theorem t_fM_gates_b20 {k2 : ev_M → Int32 → Int32 → Int32 → Option (ev_M × Int32)} (hk2 : ∀ {s : ev_M} {x1 : Int32} {x2 : Int32} {x3 : Int32} {j4 : Option ev_V} {j5 : Option ev_V} {q : ev_M × Int32}, k2 s x1 x2 x3 = some q → RR 447 2 [oR 549 0, oI x1, oI x2, oI x3, j4, j5] [] s (cvI q)) {s : ev_M} {x1 : Int32} {x2 : Int32} {x3 : Int32} {y0 : Int32} {j4 : Option ev_V} {j5 : Option ev_V} {q : ev_M × Int32} (h : fM_gates_b20 k2 s x1 x2 x3 y0 = some q) : RR 447 20 [oR 549 0, oI x1, oI x2, oI x3, j4, j5] [vI y0] s (cvI q) := by
  refine rg_step 5 (G' := fun f => if inb x3 16 = true then evT f 447 28 [oR 549 0, oI x1, oI x2, oI x3, oI y0, nn] [vI (s.1 674 (ix x3))] s else none) (fun _ => rfl) (rg_gd h fun h => ?_)
  refine rg_step 2 (G' := fun f => if (s.1 674 (ix x3)) = (cI (-1)) then evT f 447 67 [oR 549 0, oI x1, oI x2, oI x3, oI y0, nn] [] s else evT f 447 32 [oR 549 0, oI x1, oI x2, oI x3, oI y0, nn] [] s) (fun _ => rfl) (rg_if h (fun h => ?_) fun h => ?_)
  · exact (t_fM_gates_b67 hk2) h
  · refine rg_step 5 (G' := fun f => if inb x3 16 = true then evT f 447 40 [oR 549 0, oI x1, oI x2, oI x3, oI y0, nn] [vI (s.1 673 (ix x3)), vI y0] s else none) (fun _ => rfl) (rg_gd h fun h => ?_)
    refine rg_step 1 (G' := fun f => if y0 = (s.1 673 (ix x3)) then evT f 447 67 [oR 549 0, oI x1, oI x2, oI x3, oI y0, nn] [] s else evT f 447 43 [oR 549 0, oI x1, oI x2, oI x3, oI y0, nn] [] s) (fun _ => rfl) (rg_if h (fun h => ?_) fun h => ?_)
    · exact (t_fM_gates_b67 hk2) h
    · refine rg_step 5 (G' := fun f => if inb x3 16 = true then evT f 447 50 [oR 549 0, oI x1, oI x2, oI x3, oI y0, nn] [vI (s.1 674 (ix x3)), vI x1] s else none) (fun _ => rfl) (rg_gd h fun h => ?_)
      refine rg_step 7 (G' := fun f => if ((x1 - (s.1 674 (ix x3))) * (s.1 549 84)) < (s.1 549 86) then evT f 447 63 [oR 549 0, oI x1, oI x2, oI x3, oI y0, nn] [] s else evT f 447 67 [oR 549 0, oI x1, oI x2, oI x3, oI y0, nn] [] s) (fun _ => rfl) (rg_if h (fun h => ?_) fun h => ?_)
      · exact rg_step 2 (G' := fun f => evT f 447 68 [oR 549 0, oI x1, oI x2, oI x3, oI y0, nn] [vI (cI 1)] s) (fun _ => rfl) ((t_fM_gates_b68 hk2) h)
      · exact (t_fM_gates_b67 hk2) h
theorem ti_fM_gates_h2 : ∀ (n : Nat) (s : ev_M) (x1 : Int32) (x2 : Int32) (x3 : Int32) (j4 : Option ev_V) (j5 : Option ev_V) (q : ev_M × Int32), fM_gates_h2 n s x1 x2 x3 = some q → RR 447 2 [oR 549 0, oI x1, oI x2, oI x3, j4, j5] [] s (cvI q) := by
  intro n
  induction n with
  | zero => intro s x1 x2 x3 j4 j5 q h; cases h
  | succ n ih =>
    have hk2 : ∀ {s : ev_M} {x1 : Int32} {x2 : Int32} {x3 : Int32} {j4 : Option ev_V} {j5 : Option ev_V} {q : ev_M × Int32}, fM_gates_h2 n s x1 x2 x3 = some q → RR 447 2 [oR 549 0, oI x1, oI x2, oI x3, j4, j5] [] s (cvI q) := fun h => ih _ _ _ _ _ _ _ h
    intro s x1 x2 x3 j4 j5 q h
    refine rg_step 4 (G' := fun f => if x3 < (s.1 549 83) then evT f 447 10 [oR 549 0, oI x1, oI x2, oI x3, nn, nn] [] s else evT f 447 116 [oR 549 0, oI x1, oI x2, oI x3, nn, nn] [] s) (fun _ => rfl) (rg_if h (fun h => ?_) fun h => ?_)
    · refine rg_step 3 (G' := fun f => if x3 = x2 then evT f 447 15 [oR 549 0, oI x1, oI x2, oI x3, nn, nn] [] s else evT f 447 19 [oR 549 0, oI x1, oI x2, oI x3, nn, nn] [] s) (fun _ => rfl) (rg_if h (fun h => ?_) fun h => ?_)
      · exact rg_step 2 (G' := fun f => evT f 447 20 [oR 549 0, oI x1, oI x2, oI x3, nn, nn] [vI (cI 1)] s) (fun _ => rfl) ((t_fM_gates_b20 hk2) h)
      · exact rg_step 1 (G' := fun f => evT f 447 20 [oR 549 0, oI x1, oI x2, oI x3, nn, nn] [vI (cI 0)] s) (fun _ => rfl) ((t_fM_gates_b20 hk2) h)
    · exact rg_end 3 (fun _ => rfl) (by cases h; rfl)
theorem t_fM_gates_h2 {n : Nat} {s : ev_M} {x1 : Int32} {x2 : Int32} {x3 : Int32} {j4 : Option ev_V} {j5 : Option ev_V} {q : ev_M × Int32} (h : fM_gates_h2 n s x1 x2 x3 = some q) : RR 447 2 [oR 549 0, oI x1, oI x2, oI x3, j4, j5] [] s (cvI q) := ti_fM_gates_h2 n s x1 x2 x3 j4 j5 q h
theorem T_fM_gates {s : ev_M} {a1 : Int32} {a2 : Int32} {q : ev_M × Int32} (h : fM_gates s a1 a2 = some q) : RR 447 0 [oR 549 0, oI a1, oI a2, nn, nn, nn] [] s (cvI q) := by
  exact rg_step 2 (G' := fun f => evT f 447 2 [oR 549 0, oI a1, oI a2, oI (cI 0), nn, nn] [] s) (fun _ => rfl) ((t_fM_gates_h2) h)
theorem t_fM_pass_b110 {k32 : ev_M → Int32 → Int32 → Option ev_M} (hk32 : ∀ {s : ev_M} {x1 : Int32} {x2 : Int32} {j3 : Option ev_V} {j4 : Option ev_V} {q : ev_M}, k32 s x1 x2 = some q → RR 448 32 [oR 549 0, oI x1, oI x2, j3, j4] [] s (cvV q)) {s : ev_M} {x1 : Int32} {x2 : Int32} {y1 : Int32} {y2 : Int32} {j3 : Option ev_V} {j4 : Option ev_V} {q : ev_M} (h : fM_pass_b110 k32 s x1 x2 y1 y2 = some q) : RR 448 110 [oR 549 0, oI x1, oI x2, j3, j4] [vI y2, vI y1, vR 610 0] s (cvV q) := by
  refine rg_step 1 (G' := fun f => if inb y1 300 = true then evT f 448 111 [oR 549 0, oI x1, oI x2, nn, nn] [] (wI s 610 (ix y1) (y2 &&& 1)) else none) (fun _ => rfl) (rg_gd h fun h => rg_ltM h fun s1 h => ?_)
  exact rg_step 2 (G' := fun f => evT f 448 32 [oR 549 0, oI x1, oI (x2 + cI 1), nn, nn] [] s1) (fun _ => rfl) (hk32 h)
theorem t_fM_pass_b105 {k32 : ev_M → Int32 → Int32 → Option ev_M} (hk32 : ∀ {s : ev_M} {x1 : Int32} {x2 : Int32} {j3 : Option ev_V} {j4 : Option ev_V} {q : ev_M}, k32 s x1 x2 = some q → RR 448 32 [oR 549 0, oI x1, oI x2, j3, j4] [] s (cvV q)) {s : ev_M} {x1 : Int32} {x2 : Int32} {y1 : Int32} {j3 : Option ev_V} {j4 : Option ev_V} {q : ev_M} (h : fM_pass_b105 k32 s x1 x2 y1 = some q) : RR 448 105 [oR 549 0, oI x1, oI x2, j3, j4] [vI y1, vR 610 0] s (cvV q) := by
  exact rg_step 2 (G' := fun f => evT f 448 110 [oR 549 0, oI x1, oI x2, nn, nn] [vI (cI 1), vI y1, vR 610 0] s) (fun _ => rfl) ((t_fM_pass_b110 hk32) h)
theorem t_fM_pass_b168 {k121 : ev_M → Int32 → Int32 → Option ev_M} {k132 : ev_M → Int32 → Int32 → Int32 → Option ev_M} (hk121 : ∀ {s : ev_M} {x2 : Int32} {x3 : Int32} {j1 : Option ev_V} {j4 : Option ev_V} {q : ev_M}, k121 s x2 x3 = some q → RR 448 121 [oR 549 0, j1, oI x2, oI x3, j4] [] s (cvV q)) (hk132 : ∀ {s : ev_M} {x2 : Int32} {x3 : Int32} {x4 : Int32} {j1 : Option ev_V} {q : ev_M}, k132 s x2 x3 x4 = some q → RR 448 132 [oR 549 0, j1, oI x2, oI x3, oI x4] [] s (cvV q)) {s : ev_M} {x2 : Int32} {x3 : Int32} {x4 : Int32} {j1 : Option ev_V} {q : ev_M} (h : fM_pass_b168 k121 k132 s x2 x3 x4 = some q) : RR 448 168 [oR 549 0, j1, oI x2, oI x3, oI x4] [] s (cvV q) := by
  exact rg_step 2 (G' := fun f => evT f 448 132 [oR 549 0, nn, oI x2, oI x3, oI (x4 + cI 1)] [] s) (fun _ => rfl) (hk132 h)
theorem ti_fM_pass_h132 {k121 : ev_M → Int32 → Int32 → Option ev_M} (hk121 : ∀ {s : ev_M} {x2 : Int32} {x3 : Int32} {j1 : Option ev_V} {j4 : Option ev_V} {q : ev_M}, k121 s x2 x3 = some q → RR 448 121 [oR 549 0, j1, oI x2, oI x3, j4] [] s (cvV q)) : ∀ (n : Nat) (s : ev_M) (x2 : Int32) (x3 : Int32) (x4 : Int32) (j1 : Option ev_V) (q : ev_M), fM_pass_h132 k121 n s x2 x3 x4 = some q → RR 448 132 [oR 549 0, j1, oI x2, oI x3, oI x4] [] s (cvV q) := by
  intro n
  induction n with
  | zero => intro s x2 x3 x4 j1 q h; cases h
  | succ n ih =>
    have hk132 : ∀ {s : ev_M} {x2 : Int32} {x3 : Int32} {x4 : Int32} {j1 : Option ev_V} {q : ev_M}, fM_pass_h132 k121 n s x2 x3 x4 = some q → RR 448 132 [oR 549 0, j1, oI x2, oI x3, oI x4] [] s (cvV q) := fun h => ih _ _ _ _ _ _ h
    intro s x2 x3 x4 j1 q h
    refine rg_step 4 (G' := fun f => if x4 < (s.1 549 166) then evT f 448 141 [oR 549 0, nn, oI x2, oI x3, oI x4] [] s else evT f 448 174 [oR 549 0, nn, oI x2, oI x3, oI x4] [] s) (fun _ => rfl) (rg_if h (fun h => ?_) fun h => ?_)
    · refine rg_step 4 (G' := fun f => if inb x4 300 = true then evT f 448 148 [oR 549 0, nn, oI x2, oI x3, oI x4] [vI (s.1 672 (ix x4))] s else none) (fun _ => rfl) (rg_gd h fun h => ?_)
      refine rg_step 2 (G' := fun f => if (s.1 672 (ix x4)) = x3 then evT f 448 152 [oR 549 0, nn, oI x2, oI x3, oI x4] [] s else evT f 448 168 [oR 549 0, nn, oI x2, oI x3, oI x4] [] s) (fun _ => rfl) (rg_if h (fun h => ?_) fun h => ?_)
      · refine rg_step 7 (G' := fun f => if inb x4 300 = true then evT f 448 164 [oR 549 0, nn, oI x2, oI x3, oI x4] [vI (s.1 668 (ix x4)), vI x2, vR 669 0] s else none) (fun _ => rfl) (rg_gd h fun h => ?_)
        refine rg_step 1 (G' := fun f => if inb x2 300 = true then evT f 448 165 [oR 549 0, nn, oI x2, oI x3, oI x4] [] (wI s 669 (ix x2) (s.1 668 (ix x4))) else none) (fun _ => rfl) (rg_gd h fun h => rg_ltM h fun s2 h => ?_)
        exact rg_step 1 (G' := fun f => evT f 448 168 [oR 549 0, nn, oI (x2 + cI 1), oI x3, oI x4] [] s2) (fun _ => rfl) ((t_fM_pass_b168 hk121 hk132) h)
      · exact (t_fM_pass_b168 hk121 hk132) h
    · exact rg_step 2 (G' := fun f => evT f 448 121 [oR 549 0, nn, oI x2, oI (x3 + cI 1), oI x4] [] s) (fun _ => rfl) (hk121 h)
theorem t_fM_pass_h132 {k121 : ev_M → Int32 → Int32 → Option ev_M} (hk121 : ∀ {s : ev_M} {x2 : Int32} {x3 : Int32} {j1 : Option ev_V} {j4 : Option ev_V} {q : ev_M}, k121 s x2 x3 = some q → RR 448 121 [oR 549 0, j1, oI x2, oI x3, j4] [] s (cvV q)) {n : Nat} {s : ev_M} {x2 : Int32} {x3 : Int32} {x4 : Int32} {j1 : Option ev_V} {q : ev_M} (h : fM_pass_h132 k121 n s x2 x3 x4 = some q) : RR 448 132 [oR 549 0, j1, oI x2, oI x3, oI x4] [] s (cvV q) := ti_fM_pass_h132 hk121 n s x2 x3 x4 j1 q h
theorem ti_fM_pass_h182 : ∀ (n : Nat) (s : ev_M) (x3 : Int32) (j1 : Option ev_V) (j2 : Option ev_V) (j4 : Option ev_V) (q : ev_M), fM_pass_h182 n s x3 = some q → RR 448 182 [oR 549 0, j1, j2, oI x3, j4] [] s (cvV q) := by
  intro n
  induction n with
  | zero => intro s x3 j1 j2 j4 q h; cases h
  | succ n ih =>
    have hk182 : ∀ {s : ev_M} {x3 : Int32} {j1 : Option ev_V} {j2 : Option ev_V} {j4 : Option ev_V} {q : ev_M}, fM_pass_h182 n s x3 = some q → RR 448 182 [oR 549 0, j1, j2, oI x3, j4] [] s (cvV q) := fun h => ih _ _ _ _ _ _ h
    intro s x3 j1 j2 j4 q h
    refine rg_step 4 (G' := fun f => if x3 < (s.1 549 166) then evT f 448 190 [oR 549 0, nn, nn, oI x3, nn] [] s else evT f 448 208 [oR 549 0, nn, nn, oI x3, nn] [] s) (fun _ => rfl) (rg_if h (fun h => ?_) fun h => ?_)
    · refine rg_step 7 (G' := fun f => if inb x3 300 = true then evT f 448 201 [oR 549 0, nn, nn, oI x3, nn] [vI (s.1 669 (ix x3)), vI x3, vR 668 0] s else none) (fun _ => rfl) (rg_gd h fun h => ?_)
      refine rg_step 1 (G' := fun f => if inb x3 300 = true then evT f 448 202 [oR 549 0, nn, nn, oI x3, nn] [] (wI s 668 (ix x3) (s.1 669 (ix x3))) else none) (fun _ => rfl) (rg_gd h fun h => rg_ltM h fun s3 h => ?_)
      exact rg_step 2 (G' := fun f => evT f 448 182 [oR 549 0, nn, nn, oI (x3 + cI 1), nn] [] s3) (fun _ => rfl) (hk182 h)
    · exact rg_end 1 (fun _ => rfl) (by cases h; rfl)
theorem t_fM_pass_h182 {n : Nat} {s : ev_M} {x3 : Int32} {j1 : Option ev_V} {j2 : Option ev_V} {j4 : Option ev_V} {q : ev_M} (h : fM_pass_h182 n s x3 = some q) : RR 448 182 [oR 549 0, j1, j2, oI x3, j4] [] s (cvV q) := ti_fM_pass_h182 n s x3 j1 j2 j4 q h
theorem ti_fM_pass_h121 : ∀ (n : Nat) (s : ev_M) (x2 : Int32) (x3 : Int32) (j1 : Option ev_V) (j4 : Option ev_V) (q : ev_M), fM_pass_h121 n s x2 x3 = some q → RR 448 121 [oR 549 0, j1, oI x2, oI x3, j4] [] s (cvV q) := by
  intro n
  induction n with
  | zero => intro s x2 x3 j1 j4 q h; cases h
  | succ n ih =>
    have hk121 : ∀ {s : ev_M} {x2 : Int32} {x3 : Int32} {j1 : Option ev_V} {j4 : Option ev_V} {q : ev_M}, fM_pass_h121 n s x2 x3 = some q → RR 448 121 [oR 549 0, j1, oI x2, oI x3, j4] [] s (cvV q) := fun h => ih _ _ _ _ _ _ h
    intro s x2 x3 j1 j4 q h
    refine rg_step 4 (G' := fun f => if x3 ≤ (s.1 549 83) then evT f 448 129 [oR 549 0, nn, oI x2, oI x3, nn] [] s else evT f 448 180 [oR 549 0, nn, oI x2, oI x3, nn] [] s) (fun _ => rfl) (rg_if h (fun h => ?_) fun h => ?_)
    · exact rg_step 2 (G' := fun f => evT f 448 132 [oR 549 0, nn, oI x2, oI x3, oI (cI 0)] [] s) (fun _ => rfl) ((t_fM_pass_h132 hk121) h)
    · exact rg_step 2 (G' := fun f => evT f 448 182 [oR 549 0, nn, oI x2, oI (cI 0), nn] [] s) (fun _ => rfl) ((t_fM_pass_h182) h)
theorem t_fM_pass_h121 {n : Nat} {s : ev_M} {x2 : Int32} {x3 : Int32} {j1 : Option ev_V} {j4 : Option ev_V} {q : ev_M} (h : fM_pass_h121 n s x2 x3 = some q) : RR 448 121 [oR 549 0, j1, oI x2, oI x3, j4] [] s (cvV q) := ti_fM_pass_h121 n s x2 x3 j1 j4 q h
theorem ti_fM_pass_h32 : ∀ (n : Nat) (s : ev_M) (x1 : Int32) (x2 : Int32) (j3 : Option ev_V) (j4 : Option ev_V) (q : ev_M), fM_pass_h32 n s x1 x2 = some q → RR 448 32 [oR 549 0, oI x1, oI x2, j3, j4] [] s (cvV q) := by
  intro n
  induction n with
  | zero => intro s x1 x2 j3 j4 q h; cases h
  | succ n ih =>
    have hk32 : ∀ {s : ev_M} {x1 : Int32} {x2 : Int32} {j3 : Option ev_V} {j4 : Option ev_V} {q : ev_M}, fM_pass_h32 n s x1 x2 = some q → RR 448 32 [oR 549 0, oI x1, oI x2, j3, j4] [] s (cvV q) := fun h => ih _ _ _ _ _ _ h
    intro s x1 x2 j3 j4 q h
    refine rg_step 4 (G' := fun f => if x2 < (s.1 549 166) then evT f 448 40 [oR 549 0, oI x1, oI x2, nn, nn] [] s else evT f 448 117 [oR 549 0, oI x1, oI x2, nn, nn] [] s) (fun _ => rfl) (rg_if h (fun h => ?_) fun h => ?_)
    · refine rg_step 6 (G' := fun f => if inb x2 300 = true then evT f 448 50 [oR 549 0, oI x1, oI x2, nn, nn] [vI (s.1 668 (ix x2)), vR 671 0] s else none) (fun _ => rfl) (rg_gd h fun h => ?_)
      refine rg_step 1 (G' := fun f => if inb (s.1 668 (ix x2)) 300 = true then evT f 448 51 [oR 549 0, oI x1, oI x2, nn, nn] [vI (s.1 671 (ix (s.1 668 (ix x2))))] s else none) (fun _ => rfl) (rg_gd h fun h => ?_)
      refine rg_step 2 (G' := fun f => if x1 = 0 then none else evT f 448 53 [oR 549 0, oI x1, oI x2, nn, nn] [vI ((s.1 671 (ix (s.1 668 (ix x2)))) / x1)] s) (fun _ => rfl) (rg_dv h fun h => ?_)
      refine rg_step 3 (G' := fun f => if (s.1 549 83) = 0 then none else evT f 448 58 [oR 549 0, oI x1, oI x2, nn, nn] [vI (irem ((s.1 671 (ix (s.1 668 (ix x2)))) / x1) (s.1 549 83))] s) (fun _ => rfl) (rg_dv h fun h => ?_)
      refine rg_step 1 (G' := fun f => evT f 448 59 [oR 549 0, oI x1, oI x2, oI (irem ((s.1 671 (ix (s.1 668 (ix x2)))) / x1) (s.1 549 83)), nn] [] s) (fun _ => rfl) (rg_ltI (P := fun v4 => RG (fun f => evT f 448 59 [oR 549 0, oI x1, oI x2, oI v4, nn] [] s) (cvV q)) h fun v4 h => ?_)
      refine rg_step 7 (G' := fun f => ev_after (evT f 447 0 [oR 549 0, oI x2, oI v4, nn, nn, nn] [] s) (fun q => evT f 448 70 [oR 549 0, oI x1, oI x2, oI v4, nn] (q.2 ++ [vI x2, vR 672 0]) q.1)) (fun _ => rfl) (rg_bd2 h fun s5 v6 hc h => rg_call (q := cvI (s5, v6)) (T_fM_gates hc) ?_)
      refine rg_step 1 (G' := fun f => if inb x2 300 = true then evT f 448 71 [oR 549 0, oI x1, oI x2, oI v4, nn] [] (wI s5 672 (ix x2) v6) else none) (fun _ => rfl) (rg_gd h fun h => rg_ltM h fun s7 h => ?_)
      refine rg_step 6 (G' := fun f => if inb x2 300 = true then evT f 448 81 [oR 549 0, oI x1, oI x2, oI v4, nn] [vI (s7.1 668 (ix x2)), vR 610 0] s7 else none) (fun _ => rfl) (rg_gd h fun h => ?_)
      refine rg_step 6 (G' := fun f => if inb x2 300 = true then evT f 448 91 [oR 549 0, oI x1, oI x2, oI v4, nn] [vI (s7.1 668 (ix x2)), vR 610 0, vI (s7.1 668 (ix x2)), vR 610 0] s7 else none) (fun _ => rfl) (rg_gd h fun h => ?_)
      refine rg_step 1 (G' := fun f => if inb (s7.1 668 (ix x2)) 300 = true then evT f 448 92 [oR 549 0, oI x1, oI x2, oI v4, nn] [vI (s7.1 610 (ix (s7.1 668 (ix x2)))), vI (s7.1 668 (ix x2)), vR 610 0] s7 else none) (fun _ => rfl) (rg_gd h fun h => ?_)
      refine rg_step 1 (G' := fun f => if (s7.1 610 (ix (s7.1 668 (ix x2)))) = 0 then evT f 448 95 [oR 549 0, oI x1, oI x2, oI v4, nn] [vI (s7.1 668 (ix x2)), vR 610 0] s7 else evT f 448 105 [oR 549 0, oI x1, oI x2, oI v4, nn] [vI (s7.1 668 (ix x2)), vR 610 0] s7) (fun _ => rfl) (rg_if h (fun h => ?_) fun h => ?_)
      · refine rg_step 4 (G' := fun f => if inb x2 300 = true then evT f 448 101 [oR 549 0, oI x1, oI x2, oI v4, nn] [vI (s7.1 672 (ix x2)), vI (s7.1 668 (ix x2)), vR 610 0] s7 else none) (fun _ => rfl) (rg_gd h fun h => ?_)
        refine rg_step 2 (G' := fun f => if (s7.1 672 (ix x2)) = v4 then evT f 448 109 [oR 549 0, oI x1, oI x2, oI v4, nn] [vI (s7.1 668 (ix x2)), vR 610 0] s7 else evT f 448 105 [oR 549 0, oI x1, oI x2, oI v4, nn] [vI (s7.1 668 (ix x2)), vR 610 0] s7) (fun _ => rfl) (rg_if h (fun h => ?_) fun h => ?_)
        · exact rg_step 1 (G' := fun f => evT f 448 110 [oR 549 0, oI x1, oI x2, oI v4, nn] [vI (cI 0), vI (s7.1 668 (ix x2)), vR 610 0] s7) (fun _ => rfl) ((t_fM_pass_b110 hk32) h)
        · exact (t_fM_pass_b105 hk32) h
      · exact (t_fM_pass_b105 hk32) h
    · exact rg_step 4 (G' := fun f => evT f 448 121 [oR 549 0, oI x1, oI (cI 0), oI (cI 0), nn] [] s) (fun _ => rfl) ((t_fM_pass_h121) h)
theorem t_fM_pass_h32 {n : Nat} {s : ev_M} {x1 : Int32} {x2 : Int32} {j3 : Option ev_V} {j4 : Option ev_V} {q : ev_M} (h : fM_pass_h32 n s x1 x2 = some q) : RR 448 32 [oR 549 0, oI x1, oI x2, j3, j4] [] s (cvV q) := ti_fM_pass_h32 n s x1 x2 j3 j4 q h
theorem ti_fM_pass_h2 : ∀ (n : Nat) (s : ev_M) (x1 : Int32) (x2 : Int32) (j3 : Option ev_V) (j4 : Option ev_V) (q : ev_M), fM_pass_h2 n s x1 x2 = some q → RR 448 2 [oR 549 0, oI x1, oI x2, j3, j4] [] s (cvV q) := by
  intro n
  induction n with
  | zero => intro s x1 x2 j3 j4 q h; cases h
  | succ n ih =>
    have hk2 : ∀ {s : ev_M} {x1 : Int32} {x2 : Int32} {j3 : Option ev_V} {j4 : Option ev_V} {q : ev_M}, fM_pass_h2 n s x1 x2 = some q → RR 448 2 [oR 549 0, oI x1, oI x2, j3, j4] [] s (cvV q) := fun h => ih _ _ _ _ _ _ h
    intro s x1 x2 j3 j4 q h
    refine rg_step 4 (G' := fun f => if x2 < (s.1 549 83) then evT f 448 10 [oR 549 0, oI x1, oI x2, nn, nn] [] s else evT f 448 30 [oR 549 0, oI x1, oI x2, nn, nn] [] s) (fun _ => rfl) (rg_if h (fun h => ?_) fun h => ?_)
    · refine rg_step 5 (G' := fun f => if inb x2 16 = true then evT f 448 17 [oR 549 0, oI x1, oI x2, nn, nn] [] (wI s 673 (ix x2) ((cI 0) &&& 1)) else none) (fun _ => rfl) (rg_gd h fun h => rg_ltM h fun s8 h => ?_)
      refine rg_step 5 (G' := fun f => if inb x2 16 = true then evT f 448 24 [oR 549 0, oI x1, oI x2, nn, nn] [] (wI s8 674 (ix x2) (cI (-1))) else none) (fun _ => rfl) (rg_gd h fun h => rg_ltM h fun s9 h => ?_)
      exact rg_step 2 (G' := fun f => evT f 448 2 [oR 549 0, oI x1, oI (x2 + cI 1), nn, nn] [] s9) (fun _ => rfl) (hk2 h)
    · exact rg_step 2 (G' := fun f => evT f 448 32 [oR 549 0, oI x1, oI (cI 0), nn, nn] [] s) (fun _ => rfl) ((t_fM_pass_h32) h)
theorem t_fM_pass_h2 {n : Nat} {s : ev_M} {x1 : Int32} {x2 : Int32} {j3 : Option ev_V} {j4 : Option ev_V} {q : ev_M} (h : fM_pass_h2 n s x1 x2 = some q) : RR 448 2 [oR 549 0, oI x1, oI x2, j3, j4] [] s (cvV q) := ti_fM_pass_h2 n s x1 x2 j3 j4 q h
theorem T_fM_pass {s : ev_M} {a1 : Int32} {q : ev_M} (h : fM_pass s a1 = some q) : RR 448 0 [oR 549 0, oI a1, nn, nn, nn] [] s (cvV q) := by
  exact rg_step 2 (G' := fun f => evT f 448 2 [oR 549 0, oI a1, oI (cI 0), nn, nn] [] s) (fun _ => rfl) ((t_fM_pass_h2) h)
theorem t_fM_effectiveOf_b117 {k25 : ev_M → Int32 → Int32 → Option (ev_M × Int32)} {k43 : ev_M → Int32 → Int32 → Int32 → Int32 → Option (ev_M × Int32)} (hk25 : ∀ {s : ev_M} {x2 : Int32} {x3 : Int32} {j1 : Option ev_V} {j4 : Option ev_V} {j5 : Option ev_V} {j6 : Option ev_V} {q : ev_M × Int32}, k25 s x2 x3 = some q → RR 375 25 [oR 549 0, j1, oI x2, oI x3, j4, j5, j6] [] s (cvI q)) (hk43 : ∀ {s : ev_M} {x2 : Int32} {x3 : Int32} {x4 : Int32} {x5 : Int32} {j1 : Option ev_V} {j6 : Option ev_V} {q : ev_M × Int32}, k43 s x2 x3 x4 x5 = some q → RR 375 43 [oR 549 0, j1, oI x2, oI x3, oI x4, oI x5, j6] [] s (cvI q)) {s : ev_M} {x2 : Int32} {x3 : Int32} {x5 : Int32} {y0 : Int32} {j1 : Option ev_V} {j4 : Option ev_V} {j6 : Option ev_V} {q : ev_M × Int32} (h : fM_effectiveOf_b117 k25 k43 s x2 x3 x5 y0 = some q) : RR 375 117 [oR 549 0, j1, oI x2, oI x3, j4, oI x5, j6] [vI y0] s (cvI q) := by
  exact rg_step 3 (G' := fun f => evT f 375 43 [oR 549 0, nn, oI x2, oI x3, oI y0, oI (x5 + cI 1), nn] [] s) (fun _ => rfl) (hk43 h)
theorem t_fM_effectiveOf_b103 {k25 : ev_M → Int32 → Int32 → Option (ev_M × Int32)} {k43 : ev_M → Int32 → Int32 → Int32 → Int32 → Option (ev_M × Int32)} (hk25 : ∀ {s : ev_M} {x2 : Int32} {x3 : Int32} {j1 : Option ev_V} {j4 : Option ev_V} {j5 : Option ev_V} {j6 : Option ev_V} {q : ev_M × Int32}, k25 s x2 x3 = some q → RR 375 25 [oR 549 0, j1, oI x2, oI x3, j4, j5, j6] [] s (cvI q)) (hk43 : ∀ {s : ev_M} {x2 : Int32} {x3 : Int32} {x4 : Int32} {x5 : Int32} {j1 : Option ev_V} {j6 : Option ev_V} {q : ev_M × Int32}, k43 s x2 x3 x4 x5 = some q → RR 375 43 [oR 549 0, j1, oI x2, oI x3, oI x4, oI x5, j6] [] s (cvI q)) {s : ev_M} {x2 : Int32} {x3 : Int32} {x4 : Int32} {x5 : Int32} {y0 : Int32} {j1 : Option ev_V} {j6 : Option ev_V} {q : ev_M × Int32} (h : fM_effectiveOf_b103 k25 k43 s x2 x3 x4 x5 y0 = some q) : RR 375 103 [oR 549 0, j1, oI x2, oI x3, oI x4, oI x5, j6] [vI y0] s (cvI q) := by
  refine rg_step 3 (G' := fun f => if y0 = 0 then evT f 375 115 [oR 549 0, nn, oI x2, oI x3, oI x4, oI x5, oI y0] [] s else evT f 375 110 [oR 549 0, nn, oI x2, oI x3, oI x4, oI x5, oI y0] [] s) (fun _ => rfl) (rg_if h (fun h => ?_) fun h => ?_)
  · exact rg_step 1 (G' := fun f => evT f 375 117 [oR 549 0, nn, oI x2, oI x3, oI x4, oI x5, oI y0] [vI x4] s) (fun _ => rfl) ((t_fM_effectiveOf_b117 hk25 hk43) h)
  · exact rg_step 2 (G' := fun f => evT f 375 117 [oR 549 0, nn, oI x2, oI x3, oI x4, oI x5, oI y0] [vI x5] s) (fun _ => rfl) ((t_fM_effectiveOf_b117 hk25 hk43) h)
theorem t_fM_effectiveOf_b102 {k25 : ev_M → Int32 → Int32 → Option (ev_M × Int32)} {k43 : ev_M → Int32 → Int32 → Int32 → Int32 → Option (ev_M × Int32)} (hk25 : ∀ {s : ev_M} {x2 : Int32} {x3 : Int32} {j1 : Option ev_V} {j4 : Option ev_V} {j5 : Option ev_V} {j6 : Option ev_V} {q : ev_M × Int32}, k25 s x2 x3 = some q → RR 375 25 [oR 549 0, j1, oI x2, oI x3, j4, j5, j6] [] s (cvI q)) (hk43 : ∀ {s : ev_M} {x2 : Int32} {x3 : Int32} {x4 : Int32} {x5 : Int32} {j1 : Option ev_V} {j6 : Option ev_V} {q : ev_M × Int32}, k43 s x2 x3 x4 x5 = some q → RR 375 43 [oR 549 0, j1, oI x2, oI x3, oI x4, oI x5, j6] [] s (cvI q)) {s : ev_M} {x2 : Int32} {x3 : Int32} {x4 : Int32} {x5 : Int32} {j1 : Option ev_V} {j6 : Option ev_V} {q : ev_M × Int32} (h : fM_effectiveOf_b102 k25 k43 s x2 x3 x4 x5 = some q) : RR 375 102 [oR 549 0, j1, oI x2, oI x3, oI x4, oI x5, j6] [] s (cvI q) := by
  exact rg_step 1 (G' := fun f => evT f 375 103 [oR 549 0, nn, oI x2, oI x3, oI x4, oI x5, nn] [vI (cI 0)] s) (fun _ => rfl) ((t_fM_effectiveOf_b103 hk25 hk43) h)
theorem t_fM_effectiveOf_b84 {k25 : ev_M → Int32 → Int32 → Option (ev_M × Int32)} {k43 : ev_M → Int32 → Int32 → Int32 → Int32 → Option (ev_M × Int32)} (hk25 : ∀ {s : ev_M} {x2 : Int32} {x3 : Int32} {j1 : Option ev_V} {j4 : Option ev_V} {j5 : Option ev_V} {j6 : Option ev_V} {q : ev_M × Int32}, k25 s x2 x3 = some q → RR 375 25 [oR 549 0, j1, oI x2, oI x3, j4, j5, j6] [] s (cvI q)) (hk43 : ∀ {s : ev_M} {x2 : Int32} {x3 : Int32} {x4 : Int32} {x5 : Int32} {j1 : Option ev_V} {j6 : Option ev_V} {q : ev_M × Int32}, k43 s x2 x3 x4 x5 = some q → RR 375 43 [oR 549 0, j1, oI x2, oI x3, oI x4, oI x5, j6] [] s (cvI q)) {s : ev_M} {x2 : Int32} {x3 : Int32} {x4 : Int32} {x5 : Int32} {j1 : Option ev_V} {j6 : Option ev_V} {q : ev_M × Int32} (h : fM_effectiveOf_b84 k25 k43 s x2 x3 x4 x5 = some q) : RR 375 84 [oR 549 0, j1, oI x2, oI x3, oI x4, oI x5, j6] [] s (cvI q) := by
  refine rg_step 4 (G' := fun f => if inb x5 60 = true then evT f 375 91 [oR 549 0, nn, oI x2, oI x3, oI x4, oI x5, nn] [vI (s.1 576 (ix x5))] s else none) (fun _ => rfl) (rg_gd h fun h => ?_)
  refine rg_step 2 (G' := fun f => ev_after (evT f 340 0 [oR 549 0] [] s) (fun q => evT f 375 95 [oR 549 0, nn, oI x2, oI x3, oI x4, oI x5, nn] (q.2 ++ [vI (s.1 576 (ix x5))]) q.1)) (fun _ => rfl) (rg_bd1 h fun v1 hc h => rg_call (q := cvP s v1) (T_fM_today hc) ?_)
  refine rg_step 1 (G' := fun f => if (s.1 576 (ix x5)) ≤ v1 then evT f 375 102 [oR 549 0, nn, oI x2, oI x3, oI x4, oI x5, nn] [] s else evT f 375 98 [oR 549 0, nn, oI x2, oI x3, oI x4, oI x5, nn] [] s) (fun _ => rfl) (rg_if h (fun h => ?_) fun h => ?_)
  · exact (t_fM_effectiveOf_b102 hk25 hk43) h
  · exact rg_step 2 (G' := fun f => evT f 375 103 [oR 549 0, nn, oI x2, oI x3, oI x4, oI x5, nn] [vI (cI 1)] s) (fun _ => rfl) ((t_fM_effectiveOf_b103 hk25 hk43) h)
theorem ti_fM_effectiveOf_h43 {k25 : ev_M → Int32 → Int32 → Option (ev_M × Int32)} (hk25 : ∀ {s : ev_M} {x2 : Int32} {x3 : Int32} {j1 : Option ev_V} {j4 : Option ev_V} {j5 : Option ev_V} {j6 : Option ev_V} {q : ev_M × Int32}, k25 s x2 x3 = some q → RR 375 25 [oR 549 0, j1, oI x2, oI x3, j4, j5, j6] [] s (cvI q)) : ∀ (n : Nat) (s : ev_M) (x2 : Int32) (x3 : Int32) (x4 : Int32) (x5 : Int32) (j1 : Option ev_V) (j6 : Option ev_V) (q : ev_M × Int32), fM_effectiveOf_h43 k25 n s x2 x3 x4 x5 = some q → RR 375 43 [oR 549 0, j1, oI x2, oI x3, oI x4, oI x5, j6] [] s (cvI q) := by
  intro n
  induction n with
  | zero => intro s x2 x3 x4 x5 j1 j6 q h; cases h
  | succ n ih =>
    have hk43 : ∀ {s : ev_M} {x2 : Int32} {x3 : Int32} {x4 : Int32} {x5 : Int32} {j1 : Option ev_V} {j6 : Option ev_V} {q : ev_M × Int32}, fM_effectiveOf_h43 k25 n s x2 x3 x4 x5 = some q → RR 375 43 [oR 549 0, j1, oI x2, oI x3, oI x4, oI x5, j6] [] s (cvI q) := fun h => ih _ _ _ _ _ _ _ _ h
    intro s x2 x3 x4 x5 j1 j6 q h
    refine rg_step 4 (G' := fun f => if x5 < (s.1 549 43) then evT f 375 52 [oR 549 0, nn, oI x2, oI x3, oI x4, oI x5, nn] [] s else evT f 375 125 [oR 549 0, nn, oI x2, oI x3, oI x4, oI x5, nn] [] s) (fun _ => rfl) (rg_if h (fun h => ?_) fun h => ?_)
    · refine rg_step 4 (G' := fun f => if inb x5 60 = true then evT f 375 59 [oR 549 0, nn, oI x2, oI x3, oI x4, oI x5, nn] [vI (s.1 573 (ix x5))] s else none) (fun _ => rfl) (rg_gd h fun h => ?_)
      refine rg_step 2 (G' := fun f => if (s.1 573 (ix x5)) = x3 then evT f 375 63 [oR 549 0, nn, oI x2, oI x3, oI x4, oI x5, nn] [] s else evT f 375 102 [oR 549 0, nn, oI x2, oI x3, oI x4, oI x5, nn] [] s) (fun _ => rfl) (rg_if h (fun h => ?_) fun h => ?_)
      · refine rg_step 4 (G' := fun f => if inb x5 60 = true then evT f 375 70 [oR 549 0, nn, oI x2, oI x3, oI x4, oI x5, nn] [vI (s.1 574 (ix x5))] s else none) (fun _ => rfl) (rg_gd h fun h => ?_)
        refine rg_step 1 (G' := fun f => if (s.1 574 (ix x5)) = 0 then evT f 375 84 [oR 549 0, nn, oI x2, oI x3, oI x4, oI x5, nn] [] s else evT f 375 73 [oR 549 0, nn, oI x2, oI x3, oI x4, oI x5, nn] [] s) (fun _ => rfl) (rg_if h (fun h => ?_) fun h => ?_)
        · exact (t_fM_effectiveOf_b84 hk25 hk43) h
        · refine rg_step 4 (G' := fun f => if inb x5 60 = true then evT f 375 80 [oR 549 0, nn, oI x2, oI x3, oI x4, oI x5, nn] [vI (s.1 574 (ix x5))] s else none) (fun _ => rfl) (rg_gd h fun h => ?_)
          refine rg_step 2 (G' := fun f => if (s.1 574 (ix x5)) = x2 then evT f 375 84 [oR 549 0, nn, oI x2, oI x3, oI x4, oI x5, nn] [] s else evT f 375 102 [oR 549 0, nn, oI x2, oI x3, oI x4, oI x5, nn] [] s) (fun _ => rfl) (rg_if h (fun h => ?_) fun h => ?_)
          · exact (t_fM_effectiveOf_b84 hk25 hk43) h
          · exact (t_fM_effectiveOf_b102 hk25 hk43) h
      · exact (t_fM_effectiveOf_b102 hk25 hk43) h
    · refine rg_step 3 (G' := fun f => if x4 = (cI (-1)) then evT f 375 131 [oR 549 0, nn, oI x2, oI x3, oI x4, oI x5, nn] [] s else evT f 375 133 [oR 549 0, nn, oI x2, oI x3, oI x4, oI x5, nn] [] s) (fun _ => rfl) (rg_if h (fun h => ?_) fun h => ?_)
      · exact rg_end 2 (fun _ => rfl) (by cases h; rfl)
      · refine rg_step 4 (G' := fun f => if inb x4 60 = true then evT f 375 140 [oR 549 0, nn, oI x2, oI x3, oI x4, oI x5, nn] [vI (s.1 575 (ix x4))] s else none) (fun _ => rfl) (rg_gd h fun h => ?_)
        refine rg_step 2 (G' := fun f => if (s.1 575 (ix x4)) = (cI (-1)) then evT f 375 144 [oR 549 0, nn, oI x2, oI x3, oI x4, oI x5, nn] [] s else evT f 375 147 [oR 549 0, nn, oI x2, oI x3, oI x4, oI x5, nn] [] s) (fun _ => rfl) (rg_if h (fun h => ?_) fun h => ?_)
        · exact rg_end 2 (fun _ => rfl) (by cases h; rfl)
        · refine rg_step 4 (G' := fun f => if inb x4 60 = true then evT f 375 154 [oR 549 0, nn, oI x2, oI x3, oI x4, oI x5, nn] [vI (s.1 575 (ix x4))] s else none) (fun _ => rfl) (rg_gd h fun h => ?_)
          refine rg_step 1 (G' := fun f => evT f 375 155 [oR 549 0, nn, oI x2, oI (s.1 575 (ix x4)), oI x4, oI x5, nn] [] s) (fun _ => rfl) (rg_ltI (P := fun v2 => RG (fun f => evT f 375 155 [oR 549 0, nn, oI x2, oI v2, oI x4, oI x5, nn] [] s) (cvI q)) h fun v2 h => ?_)
          refine rg_step 4 (G' := fun f => if inb v2 120 = true then evT f 375 161 [oR 549 0, nn, oI x2, oI v2, oI x4, oI x5, nn] [vI (s.1 648 (ix v2))] s else none) (fun _ => rfl) (rg_gd h fun h => ?_)
          refine rg_step 1 (G' := fun f => if (s.1 648 (ix v2)) = 0 then evT f 375 167 [oR 549 0, nn, oI x2, oI v2, oI x4, oI x5, nn] [] s else evT f 375 164 [oR 549 0, nn, oI x2, oI v2, oI x4, oI x5, nn] [] s) (fun _ => rfl) (rg_if h (fun h => ?_) fun h => ?_)
          · exact rg_step 1 (G' := fun f => evT f 375 25 [oR 549 0, nn, oI x2, oI v2, oI x4, oI x5, nn] [] s) (fun _ => rfl) (hk25 h)
          · exact rg_end 2 (fun _ => rfl) (by cases h; rfl)
theorem t_fM_effectiveOf_h43 {k25 : ev_M → Int32 → Int32 → Option (ev_M × Int32)} (hk25 : ∀ {s : ev_M} {x2 : Int32} {x3 : Int32} {j1 : Option ev_V} {j4 : Option ev_V} {j5 : Option ev_V} {j6 : Option ev_V} {q : ev_M × Int32}, k25 s x2 x3 = some q → RR 375 25 [oR 549 0, j1, oI x2, oI x3, j4, j5, j6] [] s (cvI q)) {n : Nat} {s : ev_M} {x2 : Int32} {x3 : Int32} {x4 : Int32} {x5 : Int32} {j1 : Option ev_V} {j6 : Option ev_V} {q : ev_M × Int32} (h : fM_effectiveOf_h43 k25 n s x2 x3 x4 x5 = some q) : RR 375 43 [oR 549 0, j1, oI x2, oI x3, oI x4, oI x5, j6] [] s (cvI q) := ti_fM_effectiveOf_h43 hk25 n s x2 x3 x4 x5 j1 j6 q h
theorem ti_fM_effectiveOf_h25 : ∀ (n : Nat) (s : ev_M) (x2 : Int32) (x3 : Int32) (j1 : Option ev_V) (j4 : Option ev_V) (j5 : Option ev_V) (j6 : Option ev_V) (q : ev_M × Int32), fM_effectiveOf_h25 n s x2 x3 = some q → RR 375 25 [oR 549 0, j1, oI x2, oI x3, j4, j5, j6] [] s (cvI q) := by
  intro n
  induction n with
  | zero => intro s x2 x3 j1 j4 j5 j6 q h; cases h
  | succ n ih =>
    have hk25 : ∀ {s : ev_M} {x2 : Int32} {x3 : Int32} {j1 : Option ev_V} {j4 : Option ev_V} {j5 : Option ev_V} {j6 : Option ev_V} {q : ev_M × Int32}, fM_effectiveOf_h25 n s x2 x3 = some q → RR 375 25 [oR 549 0, j1, oI x2, oI x3, j4, j5, j6] [] s (cvI q) := fun h => ih _ _ _ _ _ _ _ _ h
    intro s x2 x3 j1 j4 j5 j6 q h
    refine rg_step 5 (G' := fun f => if inb x3 120 = true then evT f 375 32 [oR 549 0, nn, oI x2, oI x3, nn, nn, nn] [] (wI s 648 (ix x3) ((cI 1) &&& 1)) else none) (fun _ => rfl) (rg_gd h fun h => rg_ltM h fun s3 h => ?_)
    refine rg_step 3 (G' := fun f => evT f 375 37 [oR 549 0, nn, oI x2, oI x3, nn, nn, nn] [] (wI s3 549 141 x3)) (fun _ => rfl) (rg_ltM h fun s4 h => ?_)
    exact rg_step 4 (G' := fun f => evT f 375 43 [oR 549 0, nn, oI x2, oI x3, oI (cI (-1)), oI (cI 0), nn] [] s4) (fun _ => rfl) ((t_fM_effectiveOf_h43 hk25) h)
theorem t_fM_effectiveOf_h25 {n : Nat} {s : ev_M} {x2 : Int32} {x3 : Int32} {j1 : Option ev_V} {j4 : Option ev_V} {j5 : Option ev_V} {j6 : Option ev_V} {q : ev_M × Int32} (h : fM_effectiveOf_h25 n s x2 x3 = some q) : RR 375 25 [oR 549 0, j1, oI x2, oI x3, j4, j5, j6] [] s (cvI q) := ti_fM_effectiveOf_h25 n s x2 x3 j1 j4 j5 j6 q h
theorem ti_fM_effectiveOf_h2 : ∀ (n : Nat) (s : ev_M) (x1 : Int32) (x2 : Int32) (x3 : Int32) (j4 : Option ev_V) (j5 : Option ev_V) (j6 : Option ev_V) (q : ev_M × Int32), fM_effectiveOf_h2 n s x1 x2 x3 = some q → RR 375 2 [oR 549 0, oI x1, oI x2, oI x3, j4, j5, j6] [] s (cvI q) := by
  intro n
  induction n with
  | zero => intro s x1 x2 x3 j4 j5 j6 q h; cases h
  | succ n ih =>
    have hk2 : ∀ {s : ev_M} {x1 : Int32} {x2 : Int32} {x3 : Int32} {j4 : Option ev_V} {j5 : Option ev_V} {j6 : Option ev_V} {q : ev_M × Int32}, fM_effectiveOf_h2 n s x1 x2 x3 = some q → RR 375 2 [oR 549 0, oI x1, oI x2, oI x3, j4, j5, j6] [] s (cvI q) := fun h => ih _ _ _ _ _ _ _ _ h
    intro s x1 x2 x3 j4 j5 j6 q h
    refine rg_step 4 (G' := fun f => if x3 < (s.1 549 38) then evT f 375 10 [oR 549 0, oI x1, oI x2, oI x3, nn, nn, nn] [] s else evT f 375 23 [oR 549 0, oI x1, oI x2, oI x3, nn, nn, nn] [] s) (fun _ => rfl) (rg_if h (fun h => ?_) fun h => ?_)
    · refine rg_step 5 (G' := fun f => if inb x3 120 = true then evT f 375 17 [oR 549 0, oI x1, oI x2, oI x3, nn, nn, nn] [] (wI s 648 (ix x3) ((cI 0) &&& 1)) else none) (fun _ => rfl) (rg_gd h fun h => rg_ltM h fun s5 h => ?_)
      exact rg_step 2 (G' := fun f => evT f 375 2 [oR 549 0, oI x1, oI x2, oI (x3 + cI 1), nn, nn, nn] [] s5) (fun _ => rfl) (hk2 h)
    · exact rg_step 2 (G' := fun f => evT f 375 25 [oR 549 0, oI x1, oI x2, oI x1, nn, nn, nn] [] s) (fun _ => rfl) ((t_fM_effectiveOf_h25) h)
theorem t_fM_effectiveOf_h2 {n : Nat} {s : ev_M} {x1 : Int32} {x2 : Int32} {x3 : Int32} {j4 : Option ev_V} {j5 : Option ev_V} {j6 : Option ev_V} {q : ev_M × Int32} (h : fM_effectiveOf_h2 n s x1 x2 x3 = some q) : RR 375 2 [oR 549 0, oI x1, oI x2, oI x3, j4, j5, j6] [] s (cvI q) := ti_fM_effectiveOf_h2 n s x1 x2 x3 j4 j5 j6 q h
theorem T_fM_effectiveOf {s : ev_M} {a1 : Int32} {a2 : Int32} {q : ev_M × Int32} (h : fM_effectiveOf s a1 a2 = some q) : RR 375 0 [oR 549 0, oI a1, oI a2, nn, nn, nn, nn] [] s (cvI q) := by
  exact rg_step 2 (G' := fun f => evT f 375 2 [oR 549 0, oI a1, oI a2, oI (cI 0), nn, nn, nn] [] s) (fun _ => rfl) ((t_fM_effectiveOf_h2) h)
theorem T_fM_goalOf {s : ev_M} {a1 : Int32} {q : ev_M × Int32} (h : fM_goalOf s a1 = some q) : RR 415 0 [oR 549 0, oI a1] [] s (cvI q) := by
  refine rg_step 4 (G' := fun f => if inb a1 300 = true then evT f 415 6 [oR 549 0, oI a1] [vI (s.1 599 (ix a1))] s else none) (fun _ => rfl) (rg_gd h fun h => ?_)
  refine rg_step 1 (G' := fun f => if (s.1 599 (ix a1)) = 0 then evT f 415 31 [oR 549 0, oI a1] [] s else evT f 415 9 [oR 549 0, oI a1] [] s) (fun _ => rfl) (rg_if h (fun h => ?_) fun h => ?_)
  · refine rg_step 4 (G' := fun f => if inb a1 300 = true then evT f 415 37 [oR 549 0, oI a1] [vI (s.1 590 (ix a1))] s else none) (fun _ => rfl) (rg_gd h fun h => ?_)
    refine rg_step 2 (G' := fun f => if (s.1 590 (ix a1)) = (cI (-1)) then evT f 415 41 [oR 549 0, oI a1] [] s else evT f 415 45 [oR 549 0, oI a1] [] s) (fun _ => rfl) (rg_if h (fun h => ?_) fun h => ?_)
    · exact rg_end 3 (fun _ => rfl) (by cases h; rfl)
    · refine rg_step 5 (G' := fun f => if inb a1 300 = true then evT f 415 52 [oR 549 0, oI a1] [vI (s.1 590 (ix a1)), vR 549 0] s else none) (fun _ => rfl) (rg_gd h fun h => ?_)
      refine rg_step 4 (G' := fun f => if inb a1 300 = true then evT f 415 58 [oR 549 0, oI a1] [vI (s.1 588 (ix a1)), vI (s.1 590 (ix a1)), vR 549 0] s else none) (fun _ => rfl) (rg_gd h fun h => ?_)
      refine rg_step 1 (G' := fun f => ev_after (evT f 375 0 [oR 549 0, oI (s.1 590 (ix a1)), oI (s.1 588 (ix a1)), nn, nn, nn, nn] [] s) (fun q => evT f 415 61 [oR 549 0, oI a1] (q.2 ++ []) q.1)) (fun _ => rfl) (rg_bd2 h fun s1 v2 hc h => rg_call (q := cvI (s1, v2)) (T_fM_effectiveOf hc) ?_)
      exact rg_end 1 (fun _ => rfl) (by cases h; rfl)
  · refine rg_step 7 (G' := fun f => if inb a1 300 = true then evT f 415 20 [oR 549 0, oI a1] [vI (s.1 587 (ix a1)), vR 626 0, vR 549 0] s else none) (fun _ => rfl) (rg_gd h fun h => ?_)
    refine rg_step 3 (G' := fun f => if inb ((s.1 587 (ix a1)) - (cI 4)) 30 = true then evT f 415 23 [oR 549 0, oI a1] [vI (s.1 626 (ix ((s.1 587 (ix a1)) - (cI 4)))), vR 549 0] s else none) (fun _ => rfl) (rg_gd h fun h => ?_)
    refine rg_step 1 (G' := fun f => evT f 415 26 [oR 549 0, oI a1] [] (wI s 549 141 (s.1 626 (ix ((s.1 587 (ix a1)) - (cI 4)))))) (fun _ => rfl) (rg_ltM h fun s3 h => ?_)
    exact rg_end 3 (fun _ => rfl) (by cases h; rfl)
theorem t_fM_findFed_b154 {k7 : ev_M → Int32 → Int32 → Option ev_M} (hk7 : ∀ {s : ev_M} {x1 : Int32} {x2 : Int32} {j3 : Option ev_V} {j4 : Option ev_V} {j5 : Option ev_V} {j6 : Option ev_V} {q : ev_M}, k7 s x1 x2 = some q → RR 446 7 [oR 549 0, oI x1, oI x2, j3, j4, j5, j6] [] s (cvV q)) {s : ev_M} {x1 : Int32} {x2 : Int32} {j3 : Option ev_V} {j4 : Option ev_V} {j5 : Option ev_V} {j6 : Option ev_V} {q : ev_M} (h : fM_findFed_b154 k7 s x1 x2 = some q) : RR 446 154 [oR 549 0, oI x1, oI x2, j3, j4, j5, j6] [] s (cvV q) := by
  exact rg_step 2 (G' := fun f => evT f 446 7 [oR 549 0, oI x1, oI (x2 + cI 1), nn, nn, nn, nn] [] s) (fun _ => rfl) (hk7 h)
theorem t_fM_findFed_b137 {k7 : ev_M → Int32 → Int32 → Option ev_M} (hk7 : ∀ {s : ev_M} {x1 : Int32} {x2 : Int32} {j3 : Option ev_V} {j4 : Option ev_V} {j5 : Option ev_V} {j6 : Option ev_V} {q : ev_M}, k7 s x1 x2 = some q → RR 446 7 [oR 549 0, oI x1, oI x2, j3, j4, j5, j6] [] s (cvV q)) {s : ev_M} {x1 : Int32} {x2 : Int32} {x3 : Int32} {j4 : Option ev_V} {j5 : Option ev_V} {j6 : Option ev_V} {q : ev_M} (h : fM_findFed_b137 k7 s x1 x2 x3 = some q) : RR 446 137 [oR 549 0, oI x1, oI x2, oI x3, j4, j5, j6] [] s (cvV q) := by
  refine rg_step 5 (G' := fun f => if inb x3 300 = true then evT f 446 144 [oR 549 0, oI x1, oI x2, oI x3, nn, nn, nn] [] (wI s 668 (ix x3) x2) else none) (fun _ => rfl) (rg_gd h fun h => rg_ltM h fun s1 h => ?_)
  refine rg_step 6 (G' := fun f => evT f 446 154 [oR 549 0, oI x1, oI x2, oI x3, nn, nn, nn] [] (wI s1 549 166 ((s1.1 549 166) + (cI 1)))) (fun _ => rfl) (rg_ltM h fun s2 h => ?_)
  exact (t_fM_findFed_b154 hk7) h
theorem ti_fM_findFed_h91 {k7 : ev_M → Int32 → Int32 → Option ev_M} (hk7 : ∀ {s : ev_M} {x1 : Int32} {x2 : Int32} {j3 : Option ev_V} {j4 : Option ev_V} {j5 : Option ev_V} {j6 : Option ev_V} {q : ev_M}, k7 s x1 x2 = some q → RR 446 7 [oR 549 0, oI x1, oI x2, j3, j4, j5, j6] [] s (cvV q)) : ∀ (n : Nat) (s : ev_M) (x1 : Int32) (x2 : Int32) (x3 : Int32) (j4 : Option ev_V) (j5 : Option ev_V) (j6 : Option ev_V) (q : ev_M), fM_findFed_h91 k7 n s x1 x2 x3 = some q → RR 446 91 [oR 549 0, oI x1, oI x2, oI x3, j4, j5, j6] [] s (cvV q) := by
  intro n
  induction n with
  | zero => intro s x1 x2 x3 j4 j5 j6 q h; cases h
  | succ n ih =>
    have hk91 : ∀ {s : ev_M} {x1 : Int32} {x2 : Int32} {x3 : Int32} {j4 : Option ev_V} {j5 : Option ev_V} {j6 : Option ev_V} {q : ev_M}, fM_findFed_h91 k7 n s x1 x2 x3 = some q → RR 446 91 [oR 549 0, oI x1, oI x2, oI x3, j4, j5, j6] [] s (cvV q) := fun h => ih _ _ _ _ _ _ _ _ h
    intro s x1 x2 x3 j4 j5 j6 q h
    refine rg_step 2 (G' := fun f => if x3 ≤ 0 then evT f 446 137 [oR 549 0, oI x1, oI x2, oI x3, nn, nn, nn] [] s else evT f 446 95 [oR 549 0, oI x1, oI x2, oI x3, nn, nn, nn] [] s) (fun _ => rfl) (rg_if h (fun h => ?_) fun h => ?_)
    · exact (t_fM_findFed_b137 hk7) h
    · refine rg_step 8 (G' := fun f => if inb (x3 - (cI 1)) 300 = true then evT f 446 107 [oR 549 0, oI x1, oI x2, oI x3, nn, nn, nn] [vI (s.1 668 (ix (x3 - (cI 1)))), vR 592 0] s else none) (fun _ => rfl) (rg_gd h fun h => ?_)
      refine rg_step 1 (G' := fun f => if inb (s.1 668 (ix (x3 - (cI 1)))) 300 = true then evT f 446 108 [oR 549 0, oI x1, oI x2, oI x3, nn, nn, nn] [vI (s.1 592 (ix (s.1 668 (ix (x3 - (cI 1))))))] s else none) (fun _ => rfl) (rg_gd h fun h => ?_)
      refine rg_step 4 (G' := fun f => if inb x2 300 = true then evT f 446 114 [oR 549 0, oI x1, oI x2, oI x3, nn, nn, nn] [vI (s.1 592 (ix x2)), vI (s.1 592 (ix (s.1 668 (ix (x3 - (cI 1))))))] s else none) (fun _ => rfl) (rg_gd h fun h => ?_)
      refine rg_step 1 (G' := fun f => if (s.1 592 (ix (s.1 668 (ix (x3 - (cI 1)))))) ≤ (s.1 592 (ix x2)) then evT f 446 137 [oR 549 0, oI x1, oI x2, oI x3, nn, nn, nn] [] s else evT f 446 117 [oR 549 0, oI x1, oI x2, oI x3, nn, nn, nn] [] s) (fun _ => rfl) (rg_if h (fun h => ?_) fun h => ?_)
      · exact (t_fM_findFed_b137 hk7) h
      · refine rg_step 9 (G' := fun f => if inb (x3 - (cI 1)) 300 = true then evT f 446 130 [oR 549 0, oI x1, oI x2, oI x3, nn, nn, nn] [vI (s.1 668 (ix (x3 - (cI 1)))), vI x3, vR 668 0] s else none) (fun _ => rfl) (rg_gd h fun h => ?_)
        refine rg_step 1 (G' := fun f => if inb x3 300 = true then evT f 446 131 [oR 549 0, oI x1, oI x2, oI x3, nn, nn, nn] [] (wI s 668 (ix x3) (s.1 668 (ix (x3 - (cI 1))))) else none) (fun _ => rfl) (rg_gd h fun h => rg_ltM h fun s3 h => ?_)
        exact rg_step 2 (G' := fun f => evT f 446 91 [oR 549 0, oI x1, oI x2, oI (x3 + cI (-1)), nn, nn, nn] [] s3) (fun f => Eq.trans (b := evT (f + 1 + 1) 446 131 [oR 549 0, oI x1, oI x2, oI x3, nn, nn, nn] [] s3) rfl ((ev_inc (f := f + 1) (M := 446) (pc := 131) (i := 3) (n := 3) (c := (-1)) (r := 0) (dl := []) (L := [oR 549 0, oI x1, oI x2, oI x3, nn, nn, nn]) (L' := [oR 549 0, oI x1, oI x2, oI (x3 + cI (-1)), nn, nn, nn]) (s := s3) (y := x3) rfl rfl rfl).trans rfl)) (hk91 h)
theorem t_fM_findFed_h91 {k7 : ev_M → Int32 → Int32 → Option ev_M} (hk7 : ∀ {s : ev_M} {x1 : Int32} {x2 : Int32} {j3 : Option ev_V} {j4 : Option ev_V} {j5 : Option ev_V} {j6 : Option ev_V} {q : ev_M}, k7 s x1 x2 = some q → RR 446 7 [oR 549 0, oI x1, oI x2, j3, j4, j5, j6] [] s (cvV q)) {n : Nat} {s : ev_M} {x1 : Int32} {x2 : Int32} {x3 : Int32} {j4 : Option ev_V} {j5 : Option ev_V} {j6 : Option ev_V} {q : ev_M} (h : fM_findFed_h91 k7 n s x1 x2 x3 = some q) : RR 446 91 [oR 549 0, oI x1, oI x2, oI x3, j4, j5, j6] [] s (cvV q) := ti_fM_findFed_h91 hk7 n s x1 x2 x3 j4 j5 j6 q h
theorem t_fM_findFed_b61 {k7 : ev_M → Int32 → Int32 → Option ev_M} (hk7 : ∀ {s : ev_M} {x1 : Int32} {x2 : Int32} {j3 : Option ev_V} {j4 : Option ev_V} {j5 : Option ev_V} {j6 : Option ev_V} {q : ev_M}, k7 s x1 x2 = some q → RR 446 7 [oR 549 0, oI x1, oI x2, j3, j4, j5, j6] [] s (cvV q)) {s : ev_M} {x1 : Int32} {x2 : Int32} {y1 : Int32} {y2 : Int32} {j3 : Option ev_V} {j4 : Option ev_V} {j5 : Option ev_V} {j6 : Option ev_V} {q : ev_M} (h : fM_findFed_b61 k7 s x1 x2 y1 y2 = some q) : RR 446 61 [oR 549 0, oI x1, oI x2, j3, j4, j5, j6] [vI y2, vI y1, vR 670 0] s (cvV q) := by
  refine rg_step 1 (G' := fun f => if inb y1 300 = true then evT f 446 62 [oR 549 0, oI x1, oI x2, nn, nn, nn, nn] [] (wI s 670 (ix y1) y2) else none) (fun _ => rfl) (rg_gd h fun h => rg_ltM h fun s4 h => ?_)
  refine rg_step 4 (G' := fun f => if inb x2 300 = true then evT f 446 68 [oR 549 0, oI x1, oI x2, nn, nn, nn, nn] [vI (s4.1 670 (ix x2))] s4 else none) (fun _ => rfl) (rg_gd h fun h => ?_)
  refine rg_step 1 (G' := fun f => if (s4.1 670 (ix x2)) < 0 then evT f 446 154 [oR 549 0, oI x1, oI x2, nn, nn, nn, nn] [] s4 else evT f 446 71 [oR 549 0, oI x1, oI x2, nn, nn, nn, nn] [] s4) (fun _ => rfl) (rg_if h (fun h => ?_) fun h => ?_)
  · exact (t_fM_findFed_b154 hk7) h
  · refine rg_step 6 (G' := fun f => if inb x2 300 = true then evT f 446 81 [oR 549 0, oI x1, oI x2, nn, nn, nn, nn] [vI (s4.1 670 (ix x2)), vR 571 0] s4 else none) (fun _ => rfl) (rg_gd h fun h => ?_)
    refine rg_step 1 (G' := fun f => if inb (s4.1 670 (ix x2)) 120 = true then evT f 446 82 [oR 549 0, oI x1, oI x2, nn, nn, nn, nn] [vI (s4.1 571 (ix (s4.1 670 (ix x2))))] s4 else none) (fun _ => rfl) (rg_gd h fun h => ?_)
    refine rg_step 2 (G' := fun f => if (s4.1 571 (ix (s4.1 670 (ix x2)))) = x1 then evT f 446 86 [oR 549 0, oI x1, oI x2, nn, nn, nn, nn] [] s4 else evT f 446 154 [oR 549 0, oI x1, oI x2, nn, nn, nn, nn] [] s4) (fun _ => rfl) (rg_if h (fun h => ?_) fun h => ?_)
    · refine rg_step 3 (G' := fun f => evT f 446 91 [oR 549 0, oI x1, oI x2, oI (s4.1 549 166), nn, nn, nn] [] s4) (fun _ => rfl) (rg_ltI (P := fun v5 => RG (fun f => evT f 446 91 [oR 549 0, oI x1, oI x2, oI v5, nn, nn, nn] [] s4) (cvV q)) h fun v5 h => ?_)
      exact (t_fM_findFed_h91 hk7) h
    · exact (t_fM_findFed_b154 hk7) h
theorem t_fM_findFed_b60 {k7 : ev_M → Int32 → Int32 → Option ev_M} (hk7 : ∀ {s : ev_M} {x1 : Int32} {x2 : Int32} {j3 : Option ev_V} {j4 : Option ev_V} {j5 : Option ev_V} {j6 : Option ev_V} {q : ev_M}, k7 s x1 x2 = some q → RR 446 7 [oR 549 0, oI x1, oI x2, j3, j4, j5, j6] [] s (cvV q)) {s : ev_M} {x1 : Int32} {x2 : Int32} {y1 : Int32} {j3 : Option ev_V} {j4 : Option ev_V} {j5 : Option ev_V} {j6 : Option ev_V} {q : ev_M} (h : fM_findFed_b60 k7 s x1 x2 y1 = some q) : RR 446 60 [oR 549 0, oI x1, oI x2, j3, j4, j5, j6] [vI y1, vR 670 0] s (cvV q) := by
  exact rg_step 1 (G' := fun f => evT f 446 61 [oR 549 0, oI x1, oI x2, nn, nn, nn, nn] [vI (cI (-1)), vI y1, vR 670 0] s) (fun _ => rfl) ((t_fM_findFed_b61 hk7) h)
theorem t_fM_findFed_b248 {k162 : ev_M → Int32 → Option ev_M} {k193 : ev_M → Int32 → Int32 → Int32 → Int32 → Option ev_M} (hk162 : ∀ {s : ev_M} {x2 : Int32} {j1 : Option ev_V} {j3 : Option ev_V} {j4 : Option ev_V} {j5 : Option ev_V} {j6 : Option ev_V} {q : ev_M}, k162 s x2 = some q → RR 446 162 [oR 549 0, j1, oI x2, j3, j4, j5, j6] [] s (cvV q)) (hk193 : ∀ {s : ev_M} {x2 : Int32} {x3 : Int32} {x4 : Int32} {x5 : Int32} {j1 : Option ev_V} {j6 : Option ev_V} {q : ev_M}, k193 s x2 x3 x4 x5 = some q → RR 446 193 [oR 549 0, j1, oI x2, oI x3, oI x4, oI x5, j6] [] s (cvV q)) {s : ev_M} {x2 : Int32} {x3 : Int32} {x5 : Int32} {y0 : Int32} {j1 : Option ev_V} {j4 : Option ev_V} {j6 : Option ev_V} {q : ev_M} (h : fM_findFed_b248 k162 k193 s x2 x3 x5 y0 = some q) : RR 446 248 [oR 549 0, j1, oI x2, oI x3, j4, oI x5, j6] [vI y0] s (cvV q) := by
  exact rg_step 3 (G' := fun f => evT f 446 193 [oR 549 0, nn, oI x2, oI x3, oI y0, oI (x5 + cI 1), nn] [] s) (fun _ => rfl) (hk193 h)
theorem t_fM_findFed_b239 {k162 : ev_M → Int32 → Option ev_M} {k193 : ev_M → Int32 → Int32 → Int32 → Int32 → Option ev_M} (hk162 : ∀ {s : ev_M} {x2 : Int32} {j1 : Option ev_V} {j3 : Option ev_V} {j4 : Option ev_V} {j5 : Option ev_V} {j6 : Option ev_V} {q : ev_M}, k162 s x2 = some q → RR 446 162 [oR 549 0, j1, oI x2, j3, j4, j5, j6] [] s (cvV q)) (hk193 : ∀ {s : ev_M} {x2 : Int32} {x3 : Int32} {x4 : Int32} {x5 : Int32} {j1 : Option ev_V} {j6 : Option ev_V} {q : ev_M}, k193 s x2 x3 x4 x5 = some q → RR 446 193 [oR 549 0, j1, oI x2, oI x3, oI x4, oI x5, j6] [] s (cvV q)) {s : ev_M} {x2 : Int32} {x3 : Int32} {x4 : Int32} {x5 : Int32} {j1 : Option ev_V} {j6 : Option ev_V} {q : ev_M} (h : fM_findFed_b239 k162 k193 s x2 x3 x4 x5 = some q) : RR 446 239 [oR 549 0, j1, oI x2, oI x3, oI x4, oI x5, j6] [] s (cvV q) := by
  exact rg_step 4 (G' := fun f => evT f 446 248 [oR 549 0, nn, oI x2, oI x3, oI x4, oI x5, nn] [vI (x4 + (cI 1))] s) (fun _ => rfl) ((t_fM_findFed_b248 hk162 hk193) h)
theorem t_fM_findFed_b246 {k162 : ev_M → Int32 → Option ev_M} {k193 : ev_M → Int32 → Int32 → Int32 → Int32 → Option ev_M} (hk162 : ∀ {s : ev_M} {x2 : Int32} {j1 : Option ev_V} {j3 : Option ev_V} {j4 : Option ev_V} {j5 : Option ev_V} {j6 : Option ev_V} {q : ev_M}, k162 s x2 = some q → RR 446 162 [oR 549 0, j1, oI x2, j3, j4, j5, j6] [] s (cvV q)) (hk193 : ∀ {s : ev_M} {x2 : Int32} {x3 : Int32} {x4 : Int32} {x5 : Int32} {j1 : Option ev_V} {j6 : Option ev_V} {q : ev_M}, k193 s x2 x3 x4 x5 = some q → RR 446 193 [oR 549 0, j1, oI x2, oI x3, oI x4, oI x5, j6] [] s (cvV q)) {s : ev_M} {x2 : Int32} {x3 : Int32} {x4 : Int32} {x5 : Int32} {j1 : Option ev_V} {j6 : Option ev_V} {q : ev_M} (h : fM_findFed_b246 k162 k193 s x2 x3 x4 x5 = some q) : RR 446 246 [oR 549 0, j1, oI x2, oI x3, oI x4, oI x5, j6] [] s (cvV q) := by
  exact rg_step 1 (G' := fun f => evT f 446 248 [oR 549 0, nn, oI x2, oI x3, oI x4, oI x5, nn] [vI x4] s) (fun _ => rfl) ((t_fM_findFed_b248 hk162 hk193) h)
theorem ti_fM_findFed_h193 {k162 : ev_M → Int32 → Option ev_M} (hk162 : ∀ {s : ev_M} {x2 : Int32} {j1 : Option ev_V} {j3 : Option ev_V} {j4 : Option ev_V} {j5 : Option ev_V} {j6 : Option ev_V} {q : ev_M}, k162 s x2 = some q → RR 446 162 [oR 549 0, j1, oI x2, j3, j4, j5, j6] [] s (cvV q)) : ∀ (n : Nat) (s : ev_M) (x2 : Int32) (x3 : Int32) (x4 : Int32) (x5 : Int32) (j1 : Option ev_V) (j6 : Option ev_V) (q : ev_M), fM_findFed_h193 k162 n s x2 x3 x4 x5 = some q → RR 446 193 [oR 549 0, j1, oI x2, oI x3, oI x4, oI x5, j6] [] s (cvV q) := by
  intro n
  induction n with
  | zero => intro s x2 x3 x4 x5 j1 j6 q h; cases h
  | succ n ih =>
    have hk193 : ∀ {s : ev_M} {x2 : Int32} {x3 : Int32} {x4 : Int32} {x5 : Int32} {j1 : Option ev_V} {j6 : Option ev_V} {q : ev_M}, fM_findFed_h193 k162 n s x2 x3 x4 x5 = some q → RR 446 193 [oR 549 0, j1, oI x2, oI x3, oI x4, oI x5, j6] [] s (cvV q) := fun h => ih _ _ _ _ _ _ _ _ h
    intro s x2 x3 x4 x5 j1 j6 q h
    refine rg_step 4 (G' := fun f => if x5 < (s.1 549 166) then evT f 446 202 [oR 549 0, nn, oI x2, oI x3, oI x4, oI x5, nn] [] s else evT f 446 256 [oR 549 0, nn, oI x2, oI x3, oI x4, oI x5, nn] [] s) (fun _ => rfl) (rg_if h (fun h => ?_) fun h => ?_)
    · refine rg_step 8 (G' := fun f => if inb x5 300 = true then evT f 446 217 [oR 549 0, nn, oI x2, oI x3, oI x4, oI x5, nn] [vI (s.1 668 (ix x5)), vR 670 0, vR 572 0] s else none) (fun _ => rfl) (rg_gd h fun h => ?_)
      refine rg_step 1 (G' := fun f => if inb (s.1 668 (ix x5)) 300 = true then evT f 446 218 [oR 549 0, nn, oI x2, oI x3, oI x4, oI x5, nn] [vI (s.1 670 (ix (s.1 668 (ix x5)))), vR 572 0] s else none) (fun _ => rfl) (rg_gd h fun h => ?_)
      refine rg_step 1 (G' := fun f => if inb (s.1 670 (ix (s.1 668 (ix x5)))) 120 = true then evT f 446 219 [oR 549 0, nn, oI x2, oI x3, oI x4, oI x5, nn] [vI (s.1 572 (ix (s.1 670 (ix (s.1 668 (ix x5))))))] s else none) (fun _ => rfl) (rg_gd h fun h => ?_)
      refine rg_step 1 (G' := fun f => evT f 446 221 [oR 549 0, nn, oI x2, oI x3, oI x4, oI x5, oI (s.1 572 (ix (s.1 670 (ix (s.1 668 (ix x5))))))] [] s) (fun _ => rfl) (rg_ltI (P := fun v6 => RG (fun f => evT f 446 221 [oR 549 0, nn, oI x2, oI x3, oI x4, oI x5, oI v6] [] s) (cvV q)) h fun v6 h => ?_)
      refine rg_step 3 (G' := fun f => if v6 < x3 then evT f 446 239 [oR 549 0, nn, oI x2, oI x3, oI x4, oI x5, oI v6] [] s else evT f 446 227 [oR 549 0, nn, oI x2, oI x3, oI x4, oI x5, oI v6] [] s) (fun _ => rfl) (rg_if h (fun h => ?_) fun h => ?_)
      · exact (t_fM_findFed_b239 hk162 hk193) h
      · refine rg_step 3 (G' := fun f => if v6 = x3 then evT f 446 233 [oR 549 0, nn, oI x2, oI x3, oI x4, oI x5, oI v6] [] s else evT f 446 246 [oR 549 0, nn, oI x2, oI x3, oI x4, oI x5, oI v6] [] s) (fun _ => rfl) (rg_if h (fun h => ?_) fun h => ?_)
        · refine rg_step 3 (G' := fun f => if x5 < x2 then evT f 446 239 [oR 549 0, nn, oI x2, oI x3, oI x4, oI x5, oI v6] [] s else evT f 446 246 [oR 549 0, nn, oI x2, oI x3, oI x4, oI x5, oI v6] [] s) (fun _ => rfl) (rg_if h (fun h => ?_) fun h => ?_)
          · exact (t_fM_findFed_b239 hk162 hk193) h
          · exact (t_fM_findFed_b246 hk162 hk193) h
        · exact (t_fM_findFed_b246 hk162 hk193) h
    · refine rg_step 6 (G' := fun f => if inb x2 300 = true then evT f 446 266 [oR 549 0, nn, oI x2, oI x3, oI x4, oI x5, nn] [vI (s.1 668 (ix x2)), vR 671 0] s else none) (fun _ => rfl) (rg_gd h fun h => ?_)
      refine rg_step 2 (G' := fun f => if inb (s.1 668 (ix x2)) 300 = true then evT f 446 269 [oR 549 0, nn, oI x2, oI x3, oI x4, oI x5, nn] [] (wI s 671 (ix (s.1 668 (ix x2))) x4) else none) (fun _ => rfl) (rg_gd h fun h => rg_ltM h fun s7 h => ?_)
      exact rg_step 2 (G' := fun f => evT f 446 162 [oR 549 0, nn, oI (x2 + cI 1), oI x3, oI x4, oI x5, nn] [] s7) (fun _ => rfl) (hk162 h)
theorem t_fM_findFed_h193 {k162 : ev_M → Int32 → Option ev_M} (hk162 : ∀ {s : ev_M} {x2 : Int32} {j1 : Option ev_V} {j3 : Option ev_V} {j4 : Option ev_V} {j5 : Option ev_V} {j6 : Option ev_V} {q : ev_M}, k162 s x2 = some q → RR 446 162 [oR 549 0, j1, oI x2, j3, j4, j5, j6] [] s (cvV q)) {n : Nat} {s : ev_M} {x2 : Int32} {x3 : Int32} {x4 : Int32} {x5 : Int32} {j1 : Option ev_V} {j6 : Option ev_V} {q : ev_M} (h : fM_findFed_h193 k162 n s x2 x3 x4 x5 = some q) : RR 446 193 [oR 549 0, j1, oI x2, oI x3, oI x4, oI x5, j6] [] s (cvV q) := ti_fM_findFed_h193 hk162 n s x2 x3 x4 x5 j1 j6 q h
theorem ti_fM_findFed_h162 : ∀ (n : Nat) (s : ev_M) (x2 : Int32) (j1 : Option ev_V) (j3 : Option ev_V) (j4 : Option ev_V) (j5 : Option ev_V) (j6 : Option ev_V) (q : ev_M), fM_findFed_h162 n s x2 = some q → RR 446 162 [oR 549 0, j1, oI x2, j3, j4, j5, j6] [] s (cvV q) := by
  intro n
  induction n with
  | zero => intro s x2 j1 j3 j4 j5 j6 q h; cases h
  | succ n ih =>
    have hk162 : ∀ {s : ev_M} {x2 : Int32} {j1 : Option ev_V} {j3 : Option ev_V} {j4 : Option ev_V} {j5 : Option ev_V} {j6 : Option ev_V} {q : ev_M}, fM_findFed_h162 n s x2 = some q → RR 446 162 [oR 549 0, j1, oI x2, j3, j4, j5, j6] [] s (cvV q) := fun h => ih _ _ _ _ _ _ _ _ h
    intro s x2 j1 j3 j4 j5 j6 q h
    refine rg_step 4 (G' := fun f => if x2 < (s.1 549 166) then evT f 446 170 [oR 549 0, nn, oI x2, nn, nn, nn, nn] [] s else evT f 446 275 [oR 549 0, nn, oI x2, nn, nn, nn, nn] [] s) (fun _ => rfl) (rg_if h (fun h => ?_) fun h => ?_)
    · refine rg_step 8 (G' := fun f => if inb x2 300 = true then evT f 446 184 [oR 549 0, nn, oI x2, nn, nn, nn, nn] [vI (s.1 668 (ix x2)), vR 670 0, vR 572 0] s else none) (fun _ => rfl) (rg_gd h fun h => ?_)
      refine rg_step 1 (G' := fun f => if inb (s.1 668 (ix x2)) 300 = true then evT f 446 185 [oR 549 0, nn, oI x2, nn, nn, nn, nn] [vI (s.1 670 (ix (s.1 668 (ix x2)))), vR 572 0] s else none) (fun _ => rfl) (rg_gd h fun h => ?_)
      refine rg_step 1 (G' := fun f => if inb (s.1 670 (ix (s.1 668 (ix x2)))) 120 = true then evT f 446 186 [oR 549 0, nn, oI x2, nn, nn, nn, nn] [vI (s.1 572 (ix (s.1 670 (ix (s.1 668 (ix x2))))))] s else none) (fun _ => rfl) (rg_gd h fun h => ?_)
      refine rg_step 1 (G' := fun f => evT f 446 187 [oR 549 0, nn, oI x2, oI (s.1 572 (ix (s.1 670 (ix (s.1 668 (ix x2)))))), nn, nn, nn] [] s) (fun _ => rfl) (rg_ltI (P := fun v8 => RG (fun f => evT f 446 187 [oR 549 0, nn, oI x2, oI v8, nn, nn, nn] [] s) (cvV q)) h fun v8 h => ?_)
      exact rg_step 4 (G' := fun f => evT f 446 193 [oR 549 0, nn, oI x2, oI v8, oI (cI 0), oI (cI 0), nn] [] s) (fun _ => rfl) ((t_fM_findFed_h193 hk162) h)
    · exact rg_end 1 (fun _ => rfl) (by cases h; rfl)
theorem t_fM_findFed_h162 {n : Nat} {s : ev_M} {x2 : Int32} {j1 : Option ev_V} {j3 : Option ev_V} {j4 : Option ev_V} {j5 : Option ev_V} {j6 : Option ev_V} {q : ev_M} (h : fM_findFed_h162 n s x2 = some q) : RR 446 162 [oR 549 0, j1, oI x2, j3, j4, j5, j6] [] s (cvV q) := ti_fM_findFed_h162 n s x2 j1 j3 j4 j5 j6 q h
theorem ti_fM_findFed_h7 : ∀ (n : Nat) (s : ev_M) (x1 : Int32) (x2 : Int32) (j3 : Option ev_V) (j4 : Option ev_V) (j5 : Option ev_V) (j6 : Option ev_V) (q : ev_M), fM_findFed_h7 n s x1 x2 = some q → RR 446 7 [oR 549 0, oI x1, oI x2, j3, j4, j5, j6] [] s (cvV q) := by
  intro n
  induction n with
  | zero => intro s x1 x2 j3 j4 j5 j6 q h; cases h
  | succ n ih =>
    have hk7 : ∀ {s : ev_M} {x1 : Int32} {x2 : Int32} {j3 : Option ev_V} {j4 : Option ev_V} {j5 : Option ev_V} {j6 : Option ev_V} {q : ev_M}, fM_findFed_h7 n s x1 x2 = some q → RR 446 7 [oR 549 0, oI x1, oI x2, j3, j4, j5, j6] [] s (cvV q) := fun h => ih _ _ _ _ _ _ _ _ h
    intro s x1 x2 j3 j4 j5 j6 q h
    refine rg_step 4 (G' := fun f => if x2 < (s.1 549 58) then evT f 446 15 [oR 549 0, oI x1, oI x2, nn, nn, nn, nn] [] s else evT f 446 160 [oR 549 0, oI x1, oI x2, nn, nn, nn, nn] [] s) (fun _ => rfl) (rg_if h (fun h => ?_) fun h => ?_)
    · refine rg_step 5 (G' := fun f => if inb x2 300 = true then evT f 446 22 [oR 549 0, oI x1, oI x2, nn, nn, nn, nn] [] (wI s 610 (ix x2) ((cI 0) &&& 1)) else none) (fun _ => rfl) (rg_gd h fun h => rg_ltM h fun s9 h => ?_)
      refine rg_step 7 (G' := fun f => if inb x2 300 = true then evT f 446 33 [oR 549 0, oI x1, oI x2, nn, nn, nn, nn] [vI (s9.1 583 (ix x2)), vI x2, vR 670 0] s9 else none) (fun _ => rfl) (rg_gd h fun h => ?_)
      refine rg_step 2 (G' := fun f => if (s9.1 583 (ix x2)) = (cI 1) then evT f 446 37 [oR 549 0, oI x1, oI x2, nn, nn, nn, nn] [vI x2, vR 670 0] s9 else evT f 446 60 [oR 549 0, oI x1, oI x2, nn, nn, nn, nn] [vI x2, vR 670 0] s9) (fun _ => rfl) (rg_if h (fun h => ?_) fun h => ?_)
      · refine rg_step 4 (G' := fun f => if inb x2 300 = true then evT f 446 43 [oR 549 0, oI x1, oI x2, nn, nn, nn, nn] [vI (s9.1 591 (ix x2)), vI x2, vR 670 0] s9 else none) (fun _ => rfl) (rg_gd h fun h => ?_)
        refine rg_step 4 (G' := fun f => if inb x1 12 = true then evT f 446 49 [oR 549 0, oI x1, oI x2, nn, nn, nn, nn] [vI (s9.1 607 (ix x1)), vI (s9.1 591 (ix x2)), vI x2, vR 670 0] s9 else none) (fun _ => rfl) (rg_gd h fun h => ?_)
        refine rg_step 1 (G' := fun f => if (s9.1 591 (ix x2)) = (s9.1 607 (ix x1)) then evT f 446 52 [oR 549 0, oI x1, oI x2, nn, nn, nn, nn] [vI x2, vR 670 0] s9 else evT f 446 60 [oR 549 0, oI x1, oI x2, nn, nn, nn, nn] [vI x2, vR 670 0] s9) (fun _ => rfl) (rg_if h (fun h => ?_) fun h => ?_)
        · refine rg_step 3 (G' := fun f => ev_after (evT f 415 0 [oR 549 0, oI x2] [] s9) (fun q => evT f 446 57 [oR 549 0, oI x1, oI x2, nn, nn, nn, nn] (q.2 ++ [vI x2, vR 670 0]) q.1)) (fun _ => rfl) (rg_bd2 h fun s10 v11 hc h => rg_call (q := cvI (s10, v11)) (T_fM_goalOf hc) ?_)
          exact rg_step 1 (G' := fun f => evT f 446 61 [oR 549 0, oI x1, oI x2, nn, nn, nn, nn] [vI v11, vI x2, vR 670 0] s10) (fun _ => rfl) ((t_fM_findFed_b61 hk7) h)
        · exact (t_fM_findFed_b60 hk7) h
      · exact (t_fM_findFed_b60 hk7) h
    · exact rg_step 2 (G' := fun f => evT f 446 162 [oR 549 0, oI x1, oI (cI 0), nn, nn, nn, nn] [] s) (fun _ => rfl) ((t_fM_findFed_h162) h)
theorem t_fM_findFed_h7 {n : Nat} {s : ev_M} {x1 : Int32} {x2 : Int32} {j3 : Option ev_V} {j4 : Option ev_V} {j5 : Option ev_V} {j6 : Option ev_V} {q : ev_M} (h : fM_findFed_h7 n s x1 x2 = some q) : RR 446 7 [oR 549 0, oI x1, oI x2, j3, j4, j5, j6] [] s (cvV q) := ti_fM_findFed_h7 n s x1 x2 j3 j4 j5 j6 q h
theorem T_fM_findFed {s : ev_M} {a1 : Int32} {q : ev_M} (h : fM_findFed s a1 = some q) : RR 446 0 [oR 549 0, oI a1, nn, nn, nn, nn, nn] [] s (cvV q) := by
  refine rg_step 3 (G' := fun f => evT f 446 5 [oR 549 0, oI a1, nn, nn, nn, nn, nn] [] (wI s 549 166 (cI 0))) (fun _ => rfl) (rg_ltM h fun s12 h => ?_)
  exact rg_step 2 (G' := fun f => evT f 446 7 [oR 549 0, oI a1, oI (cI 0), nn, nn, nn, nn] [] s12) (fun _ => rfl) ((t_fM_findFed_h7) h)
theorem t_fM_rowSize_b29 {s : ev_M} {k4 : Int32 → Int32 → Int32 → Option Int32} (hk4 : ∀ {x1 : Int32} {x2 : Int32} {x3 : Int32} {q : Int32}, k4 x1 x2 x3 = some q → RR 445 4 [oR 549 0, oI x1, oI x2, oI x3] [] s (cvP s q)) {x1 : Int32} {x3 : Int32} {y0 : Int32} {j2 : Option ev_V} {q : Int32} (h : fM_rowSize_b29 s k4 x1 x3 y0 = some q) : RR 445 29 [oR 549 0, oI x1, j2, oI x3] [vI y0] s (cvP s q) := by
  exact rg_step 3 (G' := fun f => evT f 445 4 [oR 549 0, oI x1, oI y0, oI (x3 + cI 1)] [] s) (fun _ => rfl) (hk4 h)
theorem ti_fM_rowSize_h4 {s : ev_M} : ∀ (n : Nat) (x1 : Int32) (x2 : Int32) (x3 : Int32) (q : Int32), fM_rowSize_h4 s n x1 x2 x3 = some q → RR 445 4 [oR 549 0, oI x1, oI x2, oI x3] [] s (cvP s q) := by
  intro n
  induction n with
  | zero => intro x1 x2 x3 q h; cases h
  | succ n ih =>
    have hk4 : ∀ {x1 : Int32} {x2 : Int32} {x3 : Int32} {q : Int32}, fM_rowSize_h4 s n x1 x2 x3 = some q → RR 445 4 [oR 549 0, oI x1, oI x2, oI x3] [] s (cvP s q) := fun h => ih _ _ _ _ h
    intro x1 x2 x3 q h
    refine rg_step 4 (G' := fun f => if x3 < (s.1 549 58) then evT f 445 12 [oR 549 0, oI x1, oI x2, oI x3] [] s else evT f 445 36 [oR 549 0, oI x1, oI x2, oI x3] [] s) (fun _ => rfl) (rg_if h (fun h => ?_) fun h => ?_)
    · refine rg_step 4 (G' := fun f => if inb x3 300 = true then evT f 445 18 [oR 549 0, oI x1, oI x2, oI x3] [vI (s.1 595 (ix x3))] s else none) (fun _ => rfl) (rg_gd h fun h => ?_)
      refine rg_step 2 (G' := fun f => if (s.1 595 (ix x3)) = x1 then evT f 445 22 [oR 549 0, oI x1, oI x2, oI x3] [] s else evT f 445 28 [oR 549 0, oI x1, oI x2, oI x3] [] s) (fun _ => rfl) (rg_if h (fun h => ?_) fun h => ?_)
      · exact rg_step 4 (G' := fun f => evT f 445 29 [oR 549 0, oI x1, oI x2, oI x3] [vI (x2 + (cI 1))] s) (fun _ => rfl) ((t_fM_rowSize_b29 hk4) h)
      · exact rg_step 1 (G' := fun f => evT f 445 29 [oR 549 0, oI x1, oI x2, oI x3] [vI x2] s) (fun _ => rfl) ((t_fM_rowSize_b29 hk4) h)
    · exact rg_end 2 (fun _ => rfl) (by cases h; rfl)
theorem t_fM_rowSize_h4 {s : ev_M} {n : Nat} {x1 : Int32} {x2 : Int32} {x3 : Int32} {q : Int32} (h : fM_rowSize_h4 s n x1 x2 x3 = some q) : RR 445 4 [oR 549 0, oI x1, oI x2, oI x3] [] s (cvP s q) := ti_fM_rowSize_h4 n x1 x2 x3 q h
theorem T_fM_rowSize {s : ev_M} {a1 : Int32} {q : Int32} (h : fM_rowSize s a1 = some q) : RR 445 0 [oR 549 0, oI a1, nn, nn] [] s (cvP s q) := by
  exact rg_step 4 (G' := fun f => evT f 445 4 [oR 549 0, oI a1, oI (cI 0), oI (cI 0)] [] s) (fun _ => rfl) ((t_fM_rowSize_h4) h)
theorem t_fM_doSort_b100 {k78 : ev_M → Int32 → Int32 → Option (ev_M × Int32)} (hk78 : ∀ {s : ev_M} {x1 : Int32} {x2 : Int32} {j3 : Option ev_V} {j4 : Option ev_V} {j5 : Option ev_V} {q : ev_M × Int32}, k78 s x1 x2 = some q → RR 449 78 [oR 549 0, oI x1, oI x2, j3, j4, j5] [] s (cvI q)) {s : ev_M} {x1 : Int32} {x2 : Int32} {j3 : Option ev_V} {j4 : Option ev_V} {j5 : Option ev_V} {q : ev_M × Int32} (h : fM_doSort_b100 k78 s x1 x2 = some q) : RR 449 100 [oR 549 0, oI x1, oI x2, j3, j4, j5] [] s (cvI q) := by
  refine rg_step 3 (G' := fun f => ev_after (evT f 448 0 [oR 549 0, oI x2, nn, nn, nn] [] s) (fun q => evT f 449 105 [oR 549 0, oI x1, oI x2, nn, nn, nn] (q.2 ++ []) q.1)) (fun _ => rfl) (rg_bd1 h fun s1 hc h => rg_call (q := cvV s1) (T_fM_pass hc) ?_)
  refine rg_step 5 (G' := fun f => evT f 449 112 [oR 549 0, oI x1, oI (x2 * (s1.1 549 83)), nn, nn, nn] [] s1) (fun _ => rfl) (rg_ltI (P := fun v2 => RG (fun f => evT f 449 112 [oR 549 0, oI x1, oI v2, nn, nn, nn] [] s1) (cvI q)) h fun v2 h => ?_)
  refine rg_step 6 (G' := fun f => evT f 449 122 [oR 549 0, oI x1, oI v2, nn, nn, nn] [] (wI s1 549 91 ((s1.1 549 91) + (cI 1)))) (fun _ => rfl) (rg_ltM h fun s3 h => ?_)
  exact rg_step 1 (G' := fun f => evT f 449 78 [oR 549 0, oI x1, oI v2, nn, nn, nn] [] s3) (fun _ => rfl) (hk78 h)
theorem t_fM_doSort_b203 {k130 : ev_M → Int32 → Int32 → Int32 → Option (ev_M × Int32)} (hk130 : ∀ {s : ev_M} {x1 : Int32} {x3 : Int32} {x4 : Int32} {j2 : Option ev_V} {j5 : Option ev_V} {q : ev_M × Int32}, k130 s x1 x3 x4 = some q → RR 449 130 [oR 549 0, oI x1, j2, oI x3, oI x4, j5] [] s (cvI q)) {s : ev_M} {x1 : Int32} {x3 : Int32} {x4 : Int32} {j2 : Option ev_V} {j5 : Option ev_V} {q : ev_M × Int32} (h : fM_doSort_b203 k130 s x1 x3 x4 = some q) : RR 449 203 [oR 549 0, oI x1, j2, oI x3, oI x4, j5] [] s (cvI q) := by
  exact rg_step 2 (G' := fun f => evT f 449 130 [oR 549 0, oI x1, nn, oI x3, oI (x4 + cI 1), nn] [] s) (fun _ => rfl) (hk130 h)
theorem ti_fM_doSort_h130 : ∀ (n : Nat) (s : ev_M) (x1 : Int32) (x3 : Int32) (x4 : Int32) (j2 : Option ev_V) (j5 : Option ev_V) (q : ev_M × Int32), fM_doSort_h130 n s x1 x3 x4 = some q → RR 449 130 [oR 549 0, oI x1, j2, oI x3, oI x4, j5] [] s (cvI q) := by
  intro n
  induction n with
  | zero => intro s x1 x3 x4 j2 j5 q h; cases h
  | succ n ih =>
    have hk130 : ∀ {s : ev_M} {x1 : Int32} {x3 : Int32} {x4 : Int32} {j2 : Option ev_V} {j5 : Option ev_V} {q : ev_M × Int32}, fM_doSort_h130 n s x1 x3 x4 = some q → RR 449 130 [oR 549 0, oI x1, j2, oI x3, oI x4, j5] [] s (cvI q) := fun h => ih _ _ _ _ _ _ _ h
    intro s x1 x3 x4 j2 j5 q h
    refine rg_step 4 (G' := fun f => if x4 < (s.1 549 166) then evT f 449 139 [oR 549 0, oI x1, nn, oI x3, oI x4, nn] [] s else evT f 449 209 [oR 549 0, oI x1, nn, oI x3, oI x4, nn] [] s) (fun _ => rfl) (rg_if h (fun h => ?_) fun h => ?_)
    · refine rg_step 4 (G' := fun f => if inb x4 300 = true then evT f 449 146 [oR 549 0, oI x1, nn, oI x3, oI x4, nn] [vI (s.1 668 (ix x4))] s else none) (fun _ => rfl) (rg_gd h fun h => ?_)
      refine rg_step 1 (G' := fun f => evT f 449 148 [oR 549 0, oI x1, nn, oI x3, oI x4, oI (s.1 668 (ix x4))] [] s) (fun _ => rfl) (rg_ltI (P := fun v4 => RG (fun f => evT f 449 148 [oR 549 0, oI x1, nn, oI x3, oI x4, oI v4] [] s) (cvI q)) h fun v4 h => ?_)
      refine rg_step 4 (G' := fun f => if inb v4 300 = true then evT f 449 155 [oR 549 0, oI x1, nn, oI x3, oI x4, oI v4] [vI (s.1 610 (ix v4))] s else none) (fun _ => rfl) (rg_gd h fun h => ?_)
      refine rg_step 1 (G' := fun f => if (s.1 610 (ix v4)) = 0 then evT f 449 158 [oR 549 0, oI x1, nn, oI x3, oI x4, oI v4] [] s else evT f 449 203 [oR 549 0, oI x1, nn, oI x3, oI x4, oI v4] [] s) (fun _ => rfl) (rg_if h (fun h => ?_) fun h => ?_)
      · refine rg_step 3 (G' := fun f => ev_after (evT f 352 0 [oR 549 0, oI v4] [] s) (fun q => evT f 449 164 [oR 549 0, oI x1, nn, oI x3, oI x4, oI v4] (q.2 ++ []) q.1)) (fun _ => rfl) (rg_bd1 h fun s5 hc h => rg_call (q := cvV s5) (T_fM_leaves hc) ?_)
        refine rg_step 5 (G' := fun f => if inb v4 300 = true then evT f 449 172 [oR 549 0, oI x1, nn, oI x3, oI x4, oI v4] [] (wI s5 595 (ix v4) x1) else none) (fun _ => rfl) (rg_gd h fun h => rg_ltM h fun s6 h => ?_)
        refine rg_step 6 (G' := fun f => evT f 449 182 [oR 549 0, oI x1, nn, oI x3, oI x4, oI v4] [] (wI s6 549 23 ((s6.1 549 23) + (cI 1)))) (fun _ => rfl) (rg_ltM h fun s7 h => ?_)
        refine rg_step 6 (G' := fun f => if inb v4 300 = true then evT f 449 193 [oR 549 0, oI x1, nn, oI x3, oI x4, oI v4] [] (wI s7 596 (ix v4) (s7.1 549 23)) else none) (fun _ => rfl) (rg_gd h fun h => rg_ltM h fun s8 h => ?_)
        refine rg_step 4 (G' := fun f => ev_after (evT f 351 0 [oR 549 0, oI v4, oI (cI 3)] [] s8) (fun q => evT f 449 200 [oR 549 0, oI x1, nn, oI x3, oI x4, oI v4] (q.2 ++ []) q.1)) (fun _ => rfl) (rg_bd1 h fun s9 hc h => rg_call (q := cvV s9) (T_fM_comes hc) ?_)
        exact rg_step 1 (G' := fun f => evT f 449 203 [oR 549 0, oI x1, nn, oI (x3 + cI 1), oI x4, oI v4] [] s9) (fun _ => rfl) ((t_fM_doSort_b203 hk130) h)
      · exact (t_fM_doSort_b203 hk130) h
    · exact rg_end 2 (fun _ => rfl) (by cases h; rfl)
theorem t_fM_doSort_h130 {n : Nat} {s : ev_M} {x1 : Int32} {x3 : Int32} {x4 : Int32} {j2 : Option ev_V} {j5 : Option ev_V} {q : ev_M × Int32} (h : fM_doSort_h130 n s x1 x3 x4 = some q) : RR 449 130 [oR 549 0, oI x1, j2, oI x3, oI x4, j5] [] s (cvI q) := ti_fM_doSort_h130 n s x1 x3 x4 j2 j5 q h
theorem t_fM_doSort_b125 {s : ev_M} {x1 : Int32} {j2 : Option ev_V} {j3 : Option ev_V} {j4 : Option ev_V} {j5 : Option ev_V} {q : ev_M × Int32} (h : fM_doSort_b125 s x1 = some q) : RR 449 125 [oR 549 0, oI x1, j2, j3, j4, j5] [] s (cvI q) := by
  exact rg_step 4 (G' := fun f => evT f 449 130 [oR 549 0, oI x1, nn, oI (cI 0), oI (cI 0), nn] [] s) (fun _ => rfl) ((t_fM_doSort_h130) h)
theorem ti_fM_doSort_h78 : ∀ (n : Nat) (s : ev_M) (x1 : Int32) (x2 : Int32) (j3 : Option ev_V) (j4 : Option ev_V) (j5 : Option ev_V) (q : ev_M × Int32), fM_doSort_h78 n s x1 x2 = some q → RR 449 78 [oR 549 0, oI x1, oI x2, j3, j4, j5] [] s (cvI q) := by
  intro n
  induction n with
  | zero => intro s x1 x2 j3 j4 j5 q h; cases h
  | succ n ih =>
    have hk78 : ∀ {s : ev_M} {x1 : Int32} {x2 : Int32} {j3 : Option ev_V} {j4 : Option ev_V} {j5 : Option ev_V} {q : ev_M × Int32}, fM_doSort_h78 n s x1 x2 = some q → RR 449 78 [oR 549 0, oI x1, oI x2, j3, j4, j5] [] s (cvI q) := fun h => ih _ _ _ _ _ _ _ h
    intro s x1 x2 j3 j4 j5 q h
    refine rg_step 3 (G' := fun f => if (s.1 549 166) ≤ 0 then evT f 449 125 [oR 549 0, oI x1, oI x2, nn, nn, nn] [] s else evT f 449 85 [oR 549 0, oI x1, oI x2, nn, nn, nn] [] s) (fun _ => rfl) (rg_if h (fun h => ?_) fun h => ?_)
    · exact (t_fM_doSort_b125) h
    · refine rg_step 3 (G' := fun f => if (s.1 549 91) = 0 then evT f 449 100 [oR 549 0, oI x1, oI x2, nn, nn, nn] [] s else evT f 449 92 [oR 549 0, oI x1, oI x2, nn, nn, nn] [] s) (fun _ => rfl) (rg_if h (fun h => ?_) fun h => ?_)
      · exact (t_fM_doSort_b100 hk78) h
      · refine rg_step 4 (G' := fun f => if x2 < (s.1 549 166) then evT f 449 100 [oR 549 0, oI x1, oI x2, nn, nn, nn] [] s else evT f 449 125 [oR 549 0, oI x1, oI x2, nn, nn, nn] [] s) (fun _ => rfl) (rg_if h (fun h => ?_) fun h => ?_)
        · exact (t_fM_doSort_b100 hk78) h
        · exact (t_fM_doSort_b125) h
theorem t_fM_doSort_h78 {n : Nat} {s : ev_M} {x1 : Int32} {x2 : Int32} {j3 : Option ev_V} {j4 : Option ev_V} {j5 : Option ev_V} {q : ev_M × Int32} (h : fM_doSort_h78 n s x1 x2 = some q) : RR 449 78 [oR 549 0, oI x1, oI x2, j3, j4, j5] [] s (cvI q) := ti_fM_doSort_h78 n s x1 x2 j3 j4 j5 q h
theorem ti_fM_doSort_h46 : ∀ (n : Nat) (s : ev_M) (x1 : Int32) (x2 : Int32) (j3 : Option ev_V) (j4 : Option ev_V) (j5 : Option ev_V) (q : ev_M × Int32), fM_doSort_h46 n s x1 x2 = some q → RR 449 46 [oR 549 0, oI x1, oI x2, j3, j4, j5] [] s (cvI q) := by
  intro n
  induction n with
  | zero => intro s x1 x2 j3 j4 j5 q h; cases h
  | succ n ih =>
    have hk46 : ∀ {s : ev_M} {x1 : Int32} {x2 : Int32} {j3 : Option ev_V} {j4 : Option ev_V} {j5 : Option ev_V} {q : ev_M × Int32}, fM_doSort_h46 n s x1 x2 = some q → RR 449 46 [oR 549 0, oI x1, oI x2, j3, j4, j5] [] s (cvI q) := fun h => ih _ _ _ _ _ _ _ h
    intro s x1 x2 j3 j4 j5 q h
    refine rg_step 3 (G' := fun f => if x2 < (cI 300) then evT f 449 53 [oR 549 0, oI x1, oI x2, nn, nn, nn] [] s else evT f 449 66 [oR 549 0, oI x1, oI x2, nn, nn, nn] [] s) (fun _ => rfl) (rg_if h (fun h => ?_) fun h => ?_)
    · refine rg_step 5 (G' := fun f => if inb x2 300 = true then evT f 449 60 [oR 549 0, oI x1, oI x2, nn, nn, nn] [] (wI s 610 (ix x2) ((cI 0) &&& 1)) else none) (fun _ => rfl) (rg_gd h fun h => rg_ltM h fun s10 h => ?_)
      exact rg_step 2 (G' := fun f => evT f 449 46 [oR 549 0, oI x1, oI (x2 + cI 1), nn, nn, nn] [] s10) (fun _ => rfl) (hk46 h)
    · refine rg_step 3 (G' := fun f => ev_after (evT f 446 0 [oR 549 0, oI x1, nn, nn, nn, nn, nn] [] s) (fun q => evT f 449 71 [oR 549 0, oI x1, oI x2, nn, nn, nn] (q.2 ++ []) q.1)) (fun _ => rfl) (rg_bd1 h fun s11 hc h => rg_call (q := cvV s11) (T_fM_findFed hc) ?_)
      refine rg_step 3 (G' := fun f => evT f 449 76 [oR 549 0, oI x1, oI x2, nn, nn, nn] [] (wI s11 549 91 (cI 0))) (fun _ => rfl) (rg_ltM h fun s12 h => ?_)
      exact rg_step 2 (G' := fun f => evT f 449 78 [oR 549 0, oI x1, oI (cI 1), nn, nn, nn] [] s12) (fun _ => rfl) ((t_fM_doSort_h78) h)
theorem t_fM_doSort_h46 {n : Nat} {s : ev_M} {x1 : Int32} {x2 : Int32} {j3 : Option ev_V} {j4 : Option ev_V} {j5 : Option ev_V} {q : ev_M × Int32} (h : fM_doSort_h46 n s x1 x2 = some q) : RR 449 46 [oR 549 0, oI x1, oI x2, j3, j4, j5] [] s (cvI q) := ti_fM_doSort_h46 n s x1 x2 j3 j4 j5 q h
theorem T_fM_doSort {s : ev_M} {a1 : Int32} {q : ev_M × Int32} (h : fM_doSort s a1 = some q) : RR 449 0 [oR 549 0, oI a1, nn, nn, nn, nn] [] s (cvI q) := by
  refine rg_step 3 (G' := fun f => ev_after (evT f 344 0 [oR 549 0, oI a1] [] s) (fun q => evT f 449 5 [oR 549 0, oI a1, nn, nn, nn, nn] (q.2 ++ []) q.1)) (fun _ => rfl) (rg_bd1 h fun v13 hc h => rg_call (q := cvP s v13) (T_fM_isRound hc) ?_)
  refine rg_step 1 (G' := fun f => if v13 = 0 then evT f 449 8 [oR 549 0, oI a1, nn, nn, nn, nn] [] s else evT f 449 15 [oR 549 0, oI a1, nn, nn, nn, nn] [] s) (fun _ => rfl) (rg_if h (fun h => ?_) fun h => ?_)
  · refine rg_step 3 (G' := fun f => ev_after (evT f 315 0 [oR 549 0, oI (cI (-101))] [] s) (fun q => evT f 449 14 [oR 549 0, oI a1, nn, nn, nn, nn] (q.2 ++ []) q.1)) (fun _ => rfl) (rg_bd2 h fun s14 v15 hc h => rg_call (q := cvI (s14, v15)) (T_fM_no hc) ?_)
    exact rg_end 1 (fun _ => rfl) (by cases h; rfl)
  · refine rg_step 3 (G' := fun f => ev_after (evT f 445 0 [oR 549 0, oI a1, nn, nn] [] s) (fun q => evT f 449 20 [oR 549 0, oI a1, nn, nn, nn, nn] (q.2 ++ []) q.1)) (fun _ => rfl) (rg_bd1 h fun v16 hc h => rg_call (q := cvP s v16) (T_fM_rowSize hc) ?_)
    refine rg_step 1 (G' := fun f => if v16 ≤ 0 then evT f 449 30 [oR 549 0, oI a1, nn, nn, nn, nn] [] s else evT f 449 23 [oR 549 0, oI a1, nn, nn, nn, nn] [] s) (fun _ => rfl) (rg_if h (fun h => ?_) fun h => ?_)
    · refine rg_step 2 (G' := fun f => ev_after (evT f 316 0 [oR 549 0, nn] [] s) (fun q => evT f 449 34 [oR 549 0, oI a1, nn, nn, nn, nn] (q.2 ++ []) q.1)) (fun _ => rfl) (rg_bd1 h fun v17 hc h => rg_call (q := cvP s v17) (T_fM_full hc) ?_)
      refine rg_step 1 (G' := fun f => if v17 = 0 then evT f 449 44 [oR 549 0, oI a1, nn, nn, nn, nn] [] s else evT f 449 37 [oR 549 0, oI a1, nn, nn, nn, nn] [] s) (fun _ => rfl) (rg_if h (fun h => ?_) fun h => ?_)
      · exact rg_step 2 (G' := fun f => evT f 449 46 [oR 549 0, oI a1, oI (cI 0), nn, nn, nn] [] s) (fun _ => rfl) ((t_fM_doSort_h46) h)
      · refine rg_step 3 (G' := fun f => ev_after (evT f 315 0 [oR 549 0, oI (cI (-104))] [] s) (fun q => evT f 449 43 [oR 549 0, oI a1, nn, nn, nn, nn] (q.2 ++ []) q.1)) (fun _ => rfl) (rg_bd2 h fun s18 v19 hc h => rg_call (q := cvI (s18, v19)) (T_fM_no hc) ?_)
        exact rg_end 1 (fun _ => rfl) (by cases h; rfl)
    · refine rg_step 3 (G' := fun f => ev_after (evT f 315 0 [oR 549 0, oI (cI (-103))] [] s) (fun q => evT f 449 29 [oR 549 0, oI a1, nn, nn, nn, nn] (q.2 ++ []) q.1)) (fun _ => rfl) (rg_bd2 h fun s20 v21 hc h => rg_call (q := cvI (s20, v21)) (T_fM_no hc) ?_)
      exact rg_end 1 (fun _ => rfl) (by cases h; rfl)
theorem t_fM_rowAt_b71 {s : ev_M} {k2 : Int32 → Int32 → Int32 → Option Int32} {k26 : Int32 → Int32 → Int32 → Int32 → Int32 → Option Int32} (hk2 : ∀ {x1 : Int32} {x2 : Int32} {x3 : Int32} {j4 : Option ev_V} {j5 : Option ev_V} {q : Int32}, k2 x1 x2 x3 = some q → RR 453 2 [oR 549 0, oI x1, oI x2, oI x3, j4, j5] [] s (cvP s q)) (hk26 : ∀ {x1 : Int32} {x2 : Int32} {x3 : Int32} {x4 : Int32} {x5 : Int32} {q : Int32}, k26 x1 x2 x3 x4 x5 = some q → RR 453 26 [oR 549 0, oI x1, oI x2, oI x3, oI x4, oI x5] [] s (cvP s q)) {x1 : Int32} {x2 : Int32} {x3 : Int32} {x5 : Int32} {y0 : Int32} {j4 : Option ev_V} {q : Int32} (h : fM_rowAt_b71 s k2 k26 x1 x2 x3 x5 y0 = some q) : RR 453 71 [oR 549 0, oI x1, oI x2, oI x3, j4, oI x5] [vI y0] s (cvP s q) := by
  exact rg_step 3 (G' := fun f => evT f 453 26 [oR 549 0, oI x1, oI x2, oI x3, oI y0, oI (x5 + cI 1)] [] s) (fun _ => rfl) (hk26 h)
theorem t_fM_rowAt_b69 {s : ev_M} {k2 : Int32 → Int32 → Int32 → Option Int32} {k26 : Int32 → Int32 → Int32 → Int32 → Int32 → Option Int32} (hk2 : ∀ {x1 : Int32} {x2 : Int32} {x3 : Int32} {j4 : Option ev_V} {j5 : Option ev_V} {q : Int32}, k2 x1 x2 x3 = some q → RR 453 2 [oR 549 0, oI x1, oI x2, oI x3, j4, j5] [] s (cvP s q)) (hk26 : ∀ {x1 : Int32} {x2 : Int32} {x3 : Int32} {x4 : Int32} {x5 : Int32} {q : Int32}, k26 x1 x2 x3 x4 x5 = some q → RR 453 26 [oR 549 0, oI x1, oI x2, oI x3, oI x4, oI x5] [] s (cvP s q)) {x1 : Int32} {x2 : Int32} {x3 : Int32} {x4 : Int32} {x5 : Int32} {q : Int32} (h : fM_rowAt_b69 s k2 k26 x1 x2 x3 x4 x5 = some q) : RR 453 69 [oR 549 0, oI x1, oI x2, oI x3, oI x4, oI x5] [] s (cvP s q) := by
  exact rg_step 1 (G' := fun f => evT f 453 71 [oR 549 0, oI x1, oI x2, oI x3, oI x4, oI x5] [vI x4] s) (fun _ => rfl) ((t_fM_rowAt_b71 hk2 hk26) h)
theorem t_fM_rowAt_b87 {s : ev_M} {k2 : Int32 → Int32 → Int32 → Option Int32} (hk2 : ∀ {x1 : Int32} {x2 : Int32} {x3 : Int32} {j4 : Option ev_V} {j5 : Option ev_V} {q : Int32}, k2 x1 x2 x3 = some q → RR 453 2 [oR 549 0, oI x1, oI x2, oI x3, j4, j5] [] s (cvP s q)) {x1 : Int32} {x2 : Int32} {x3 : Int32} {j4 : Option ev_V} {j5 : Option ev_V} {q : Int32} (h : fM_rowAt_b87 s k2 x1 x2 x3 = some q) : RR 453 87 [oR 549 0, oI x1, oI x2, oI x3, j4, j5] [] s (cvP s q) := by
  exact rg_step 2 (G' := fun f => evT f 453 2 [oR 549 0, oI x1, oI x2, oI (x3 + cI 1), nn, nn] [] s) (fun _ => rfl) (hk2 h)
theorem ti_fM_rowAt_h26 {s : ev_M} {k2 : Int32 → Int32 → Int32 → Option Int32} (hk2 : ∀ {x1 : Int32} {x2 : Int32} {x3 : Int32} {j4 : Option ev_V} {j5 : Option ev_V} {q : Int32}, k2 x1 x2 x3 = some q → RR 453 2 [oR 549 0, oI x1, oI x2, oI x3, j4, j5] [] s (cvP s q)) : ∀ (n : Nat) (x1 : Int32) (x2 : Int32) (x3 : Int32) (x4 : Int32) (x5 : Int32) (q : Int32), fM_rowAt_h26 s k2 n x1 x2 x3 x4 x5 = some q → RR 453 26 [oR 549 0, oI x1, oI x2, oI x3, oI x4, oI x5] [] s (cvP s q) := by
  intro n
  induction n with
  | zero => intro x1 x2 x3 x4 x5 q h; cases h
  | succ n ih =>
    have hk26 : ∀ {x1 : Int32} {x2 : Int32} {x3 : Int32} {x4 : Int32} {x5 : Int32} {q : Int32}, fM_rowAt_h26 s k2 n x1 x2 x3 x4 x5 = some q → RR 453 26 [oR 549 0, oI x1, oI x2, oI x3, oI x4, oI x5] [] s (cvP s q) := fun h => ih _ _ _ _ _ _ h
    intro x1 x2 x3 x4 x5 q h
    refine rg_step 4 (G' := fun f => if x5 < (s.1 549 58) then evT f 453 35 [oR 549 0, oI x1, oI x2, oI x3, oI x4, oI x5] [] s else evT f 453 79 [oR 549 0, oI x1, oI x2, oI x3, oI x4, oI x5] [] s) (fun _ => rfl) (rg_if h (fun h => ?_) fun h => ?_)
    · refine rg_step 4 (G' := fun f => if inb x5 300 = true then evT f 453 42 [oR 549 0, oI x1, oI x2, oI x3, oI x4, oI x5] [vI (s.1 595 (ix x5))] s else none) (fun _ => rfl) (rg_gd h fun h => ?_)
      refine rg_step 2 (G' := fun f => if (s.1 595 (ix x5)) = x1 then evT f 453 46 [oR 549 0, oI x1, oI x2, oI x3, oI x4, oI x5] [] s else evT f 453 69 [oR 549 0, oI x1, oI x2, oI x3, oI x4, oI x5] [] s) (fun _ => rfl) (rg_if h (fun h => ?_) fun h => ?_)
      · refine rg_step 4 (G' := fun f => if inb x5 300 = true then evT f 453 53 [oR 549 0, oI x1, oI x2, oI x3, oI x4, oI x5] [vI (s.1 596 (ix x5))] s else none) (fun _ => rfl) (rg_gd h fun h => ?_)
        refine rg_step 4 (G' := fun f => if inb x3 300 = true then evT f 453 59 [oR 549 0, oI x1, oI x2, oI x3, oI x4, oI x5] [vI (s.1 596 (ix x3)), vI (s.1 596 (ix x5))] s else none) (fun _ => rfl) (rg_gd h fun h => ?_)
        refine rg_step 1 (G' := fun f => if (s.1 596 (ix x5)) < (s.1 596 (ix x3)) then evT f 453 62 [oR 549 0, oI x1, oI x2, oI x3, oI x4, oI x5] [] s else evT f 453 69 [oR 549 0, oI x1, oI x2, oI x3, oI x4, oI x5] [] s) (fun _ => rfl) (rg_if h (fun h => ?_) fun h => ?_)
        · exact rg_step 4 (G' := fun f => evT f 453 71 [oR 549 0, oI x1, oI x2, oI x3, oI x4, oI x5] [vI (x4 + (cI 1))] s) (fun _ => rfl) ((t_fM_rowAt_b71 hk2 hk26) h)
        · exact (t_fM_rowAt_b69 hk2 hk26) h
      · exact (t_fM_rowAt_b69 hk2 hk26) h
    · refine rg_step 3 (G' := fun f => if x4 = x2 then evT f 453 85 [oR 549 0, oI x1, oI x2, oI x3, oI x4, oI x5] [] s else evT f 453 87 [oR 549 0, oI x1, oI x2, oI x3, oI x4, oI x5] [] s) (fun _ => rfl) (rg_if h (fun h => ?_) fun h => ?_)
      · exact rg_end 2 (fun _ => rfl) (by cases h; rfl)
      · exact (t_fM_rowAt_b87 hk2) h
theorem t_fM_rowAt_h26 {s : ev_M} {k2 : Int32 → Int32 → Int32 → Option Int32} (hk2 : ∀ {x1 : Int32} {x2 : Int32} {x3 : Int32} {j4 : Option ev_V} {j5 : Option ev_V} {q : Int32}, k2 x1 x2 x3 = some q → RR 453 2 [oR 549 0, oI x1, oI x2, oI x3, j4, j5] [] s (cvP s q)) {n : Nat} {x1 : Int32} {x2 : Int32} {x3 : Int32} {x4 : Int32} {x5 : Int32} {q : Int32} (h : fM_rowAt_h26 s k2 n x1 x2 x3 x4 x5 = some q) : RR 453 26 [oR 549 0, oI x1, oI x2, oI x3, oI x4, oI x5] [] s (cvP s q) := ti_fM_rowAt_h26 hk2 n x1 x2 x3 x4 x5 q h
theorem ti_fM_rowAt_h2 {s : ev_M} : ∀ (n : Nat) (x1 : Int32) (x2 : Int32) (x3 : Int32) (j4 : Option ev_V) (j5 : Option ev_V) (q : Int32), fM_rowAt_h2 s n x1 x2 x3 = some q → RR 453 2 [oR 549 0, oI x1, oI x2, oI x3, j4, j5] [] s (cvP s q) := by
  intro n
  induction n with
  | zero => intro x1 x2 x3 j4 j5 q h; cases h
  | succ n ih =>
    have hk2 : ∀ {x1 : Int32} {x2 : Int32} {x3 : Int32} {j4 : Option ev_V} {j5 : Option ev_V} {q : Int32}, fM_rowAt_h2 s n x1 x2 x3 = some q → RR 453 2 [oR 549 0, oI x1, oI x2, oI x3, j4, j5] [] s (cvP s q) := fun h => ih _ _ _ _ _ _ h
    intro x1 x2 x3 j4 j5 q h
    refine rg_step 4 (G' := fun f => if x3 < (s.1 549 58) then evT f 453 10 [oR 549 0, oI x1, oI x2, oI x3, nn, nn] [] s else evT f 453 93 [oR 549 0, oI x1, oI x2, oI x3, nn, nn] [] s) (fun _ => rfl) (rg_if h (fun h => ?_) fun h => ?_)
    · refine rg_step 4 (G' := fun f => if inb x3 300 = true then evT f 453 16 [oR 549 0, oI x1, oI x2, oI x3, nn, nn] [vI (s.1 595 (ix x3))] s else none) (fun _ => rfl) (rg_gd h fun h => ?_)
      refine rg_step 2 (G' := fun f => if (s.1 595 (ix x3)) = x1 then evT f 453 20 [oR 549 0, oI x1, oI x2, oI x3, nn, nn] [] s else evT f 453 87 [oR 549 0, oI x1, oI x2, oI x3, nn, nn] [] s) (fun _ => rfl) (rg_if h (fun h => ?_) fun h => ?_)
      · exact rg_step 4 (G' := fun f => evT f 453 26 [oR 549 0, oI x1, oI x2, oI x3, oI (cI 0), oI (cI 0)] [] s) (fun _ => rfl) ((t_fM_rowAt_h26 hk2) h)
      · exact (t_fM_rowAt_b87 hk2) h
    · exact rg_end 2 (fun _ => rfl) (by cases h; rfl)
theorem t_fM_rowAt_h2 {s : ev_M} {n : Nat} {x1 : Int32} {x2 : Int32} {x3 : Int32} {j4 : Option ev_V} {j5 : Option ev_V} {q : Int32} (h : fM_rowAt_h2 s n x1 x2 x3 = some q) : RR 453 2 [oR 549 0, oI x1, oI x2, oI x3, j4, j5] [] s (cvP s q) := ti_fM_rowAt_h2 n x1 x2 x3 j4 j5 q h
theorem T_fM_rowAt {s : ev_M} {a1 : Int32} {a2 : Int32} {q : Int32} (h : fM_rowAt s a1 a2 = some q) : RR 453 0 [oR 549 0, oI a1, oI a2, nn, nn, nn] [] s (cvP s q) := by
  exact rg_step 2 (G' := fun f => evT f 453 2 [oR 549 0, oI a1, oI a2, oI (cI 0), nn, nn] [] s) (fun _ => rfl) ((t_fM_rowAt_h2) h)
theorem ti_fM_doOut_h48 : ∀ (n : Nat) (s : ev_M) (x1 : Int32) (x2 : Int32) (x3 : Int32) (j4 : Option ev_V) (q : ev_M × Int32), fM_doOut_h48 n s x1 x2 x3 = some q → RR 455 48 [oR 549 0, oI x1, oI x2, oI x3, j4] [] s (cvI q) := by
  intro n
  induction n with
  | zero => intro s x1 x2 x3 j4 q h; cases h
  | succ n ih =>
    have hk48 : ∀ {s : ev_M} {x1 : Int32} {x2 : Int32} {x3 : Int32} {j4 : Option ev_V} {q : ev_M × Int32}, fM_doOut_h48 n s x1 x2 x3 = some q → RR 455 48 [oR 549 0, oI x1, oI x2, oI x3, j4] [] s (cvI q) := fun h => ih _ _ _ _ _ _ h
    intro s x1 x2 x3 j4 q h
    refine rg_step 3 (G' := fun f => if x3 < x2 then evT f 455 53 [oR 549 0, oI x1, oI x2, oI x3, nn] [] s else evT f 455 80 [oR 549 0, oI x1, oI x2, oI x3, nn] [] s) (fun _ => rfl) (rg_if h (fun h => ?_) fun h => ?_)
    · refine rg_step 4 (G' := fun f => ev_after (evT f 453 0 [oR 549 0, oI x1, oI (cI 0), nn, nn, nn] [] s) (fun q => evT f 455 59 [oR 549 0, oI x1, oI x2, oI x3, nn] (q.2 ++ []) q.1)) (fun _ => rfl) (rg_bd1 h fun v1 hc h => rg_call (q := cvP s v1) (T_fM_rowAt hc) ?_)
      refine rg_step 4 (G' := fun f => ev_after (evT f 352 0 [oR 549 0, oI v1] [] s) (fun q => evT f 455 67 [oR 549 0, oI x1, oI x2, oI x3, oI v1] (q.2 ++ []) q.1)) (fun _ => rfl) (rg_bd1 h fun s2 hc h => rg_call (q := cvV s2) (T_fM_leaves hc) ?_)
      refine rg_step 4 (G' := fun f => ev_after (evT f 351 0 [oR 549 0, oI v1, oI (cI 4)] [] s2) (fun q => evT f 455 74 [oR 549 0, oI x1, oI x2, oI x3, oI v1] (q.2 ++ []) q.1)) (fun _ => rfl) (rg_bd1 h fun s3 hc h => rg_call (q := cvV s3) (T_fM_comes hc) ?_)
      exact rg_step 2 (G' := fun f => evT f 455 48 [oR 549 0, oI x1, oI x2, oI (x3 + cI 1), oI v1] [] s3) (fun _ => rfl) (hk48 h)
    · exact rg_end 2 (fun _ => rfl) (by cases h; rfl)
theorem t_fM_doOut_h48 {n : Nat} {s : ev_M} {x1 : Int32} {x2 : Int32} {x3 : Int32} {j4 : Option ev_V} {q : ev_M × Int32} (h : fM_doOut_h48 n s x1 x2 x3 = some q) : RR 455 48 [oR 549 0, oI x1, oI x2, oI x3, j4] [] s (cvI q) := ti_fM_doOut_h48 n s x1 x2 x3 j4 q h
theorem T_fM_doOut {s : ev_M} {a1 : Int32} {q : ev_M × Int32} (h : fM_doOut s a1 = some q) : RR 455 0 [oR 549 0, oI a1, nn, nn, nn] [] s (cvI q) := by
  refine rg_step 3 (G' := fun f => ev_after (evT f 344 0 [oR 549 0, oI a1] [] s) (fun q => evT f 455 5 [oR 549 0, oI a1, nn, nn, nn] (q.2 ++ []) q.1)) (fun _ => rfl) (rg_bd1 h fun v4 hc h => rg_call (q := cvP s v4) (T_fM_isRound hc) ?_)
  refine rg_step 1 (G' := fun f => if v4 = 0 then evT f 455 8 [oR 549 0, oI a1, nn, nn, nn] [] s else evT f 455 15 [oR 549 0, oI a1, nn, nn, nn] [] s) (fun _ => rfl) (rg_if h (fun h => ?_) fun h => ?_)
  · refine rg_step 3 (G' := fun f => ev_after (evT f 315 0 [oR 549 0, oI (cI (-101))] [] s) (fun q => evT f 455 14 [oR 549 0, oI a1, nn, nn, nn] (q.2 ++ []) q.1)) (fun _ => rfl) (rg_bd2 h fun s5 v6 hc h => rg_call (q := cvI (s5, v6)) (T_fM_no hc) ?_)
    exact rg_end 1 (fun _ => rfl) (by cases h; rfl)
  · refine rg_step 3 (G' := fun f => ev_after (evT f 445 0 [oR 549 0, oI a1, nn, nn] [] s) (fun q => evT f 455 20 [oR 549 0, oI a1, nn, nn, nn] (q.2 ++ []) q.1)) (fun _ => rfl) (rg_bd1 h fun v7 hc h => rg_call (q := cvP s v7) (T_fM_rowSize hc) ?_)
    refine rg_step 3 (G' := fun f => if v7 = 0 then evT f 455 25 [oR 549 0, oI a1, oI v7, nn, nn] [] s else evT f 455 32 [oR 549 0, oI a1, oI v7, nn, nn] [] s) (fun _ => rfl) (rg_if h (fun h => ?_) fun h => ?_)
    · refine rg_step 3 (G' := fun f => ev_after (evT f 315 0 [oR 549 0, oI (cI (-103))] [] s) (fun q => evT f 455 31 [oR 549 0, oI a1, oI v7, nn, nn] (q.2 ++ []) q.1)) (fun _ => rfl) (rg_bd2 h fun s8 v9 hc h => rg_call (q := cvI (s8, v9)) (T_fM_no hc) ?_)
      exact rg_end 1 (fun _ => rfl) (by cases h; rfl)
    · refine rg_step 2 (G' := fun f => ev_after (evT f 316 0 [oR 549 0, nn] [] s) (fun q => evT f 455 36 [oR 549 0, oI a1, oI v7, nn, nn] (q.2 ++ []) q.1)) (fun _ => rfl) (rg_bd1 h fun v10 hc h => rg_call (q := cvP s v10) (T_fM_full hc) ?_)
      refine rg_step 1 (G' := fun f => if v10 = 0 then evT f 455 46 [oR 549 0, oI a1, oI v7, nn, nn] [] s else evT f 455 39 [oR 549 0, oI a1, oI v7, nn, nn] [] s) (fun _ => rfl) (rg_if h (fun h => ?_) fun h => ?_)
      · exact rg_step 2 (G' := fun f => evT f 455 48 [oR 549 0, oI a1, oI v7, oI (cI 0), nn] [] s) (fun _ => rfl) ((t_fM_doOut_h48) h)
      · refine rg_step 3 (G' := fun f => ev_after (evT f 315 0 [oR 549 0, oI (cI (-104))] [] s) (fun q => evT f 455 45 [oR 549 0, oI a1, oI v7, nn, nn] (q.2 ++ []) q.1)) (fun _ => rfl) (rg_bd2 h fun s11 v12 hc h => rg_call (q := cvI (s11, v12)) (T_fM_no hc) ?_)
        exact rg_end 1 (fun _ => rfl) (by cases h; rfl)
theorem t_fM_from_b23 {s : ev_M} {y0 : Int32} {y1 : Int32} {j0 : Option ev_V} {j1 : Option ev_V} {j2 : Option ev_V} {q : Int32} (h : fM_from_b23 s y0 y1 = some q) : RR 457 23 [j0, j1, j2] [vI y1, vI y0] s (cvP s q) := by
  exact rg_end 2 (fun _ => rfl) (by cases h; rfl)
theorem T_fM_from {s : ev_M} {a0 : Int32} {a1 : Int32} {q : Int32} (h : fM_from s a0 a1 = some q) : RR 457 0 [oI a0, oI a1, nn] [] s (cvP s q) := by
  refine rg_step 3 (G' := fun f => if (cI 1440) = 0 then none else evT f 457 5 [oI a0, oI a1, nn] [vI (irem a0 (cI 1440))] s) (fun _ => rfl) (rg_dv h fun h => ?_)
  refine rg_step 1 (G' := fun f => evT f 457 6 [oI a0, oI a1, oI (irem a0 (cI 1440))] [] s) (fun _ => rfl) (rg_ltI (P := fun v1 => RG (fun f => evT f 457 6 [oI a0, oI a1, oI v1] [] s) (cvP s q)) h fun v1 h => ?_)
  refine rg_step 8 (G' := fun f => if v1 ≤ a1 then evT f 457 22 [oI a0, oI a1, oI v1] [vI ((a0 - v1) + a1)] s else evT f 457 16 [oI a0, oI a1, oI v1] [vI ((a0 - v1) + a1)] s) (fun _ => rfl) (rg_if h (fun h => ?_) fun h => ?_)
  · exact rg_step 1 (G' := fun f => evT f 457 23 [oI a0, oI a1, oI v1] [vI (cI 0), vI ((a0 - v1) + a1)] s) (fun _ => rfl) ((t_fM_from_b23) h)
  · exact rg_step 2 (G' := fun f => evT f 457 23 [oI a0, oI a1, oI v1] [vI (cI 1440), vI ((a0 - v1) + a1)] s) (fun _ => rfl) ((t_fM_from_b23) h)
theorem t_fM_doLeg_b16 {s : ev_M} {j1 : Option ev_V} {j2 : Option ev_V} {j3 : Option ev_V} {j4 : Option ev_V} {j5 : Option ev_V} {q : ev_M × Int32} (h : fM_doLeg_b16 s = some q) : RR 458 16 [oR 549 0, j1, j2, j3, j4, j5] [] s (cvI q) := by
  refine rg_step 3 (G' := fun f => ev_after (evT f 315 0 [oR 549 0, oI (cI (-101))] [] s) (fun q => evT f 458 22 [oR 549 0, nn, nn, nn, nn, nn] (q.2 ++ []) q.1)) (fun _ => rfl) (rg_bd2 h fun s1 v2 hc h => rg_call (q := cvI (s1, v2)) (T_fM_no hc) ?_)
  exact rg_end 1 (fun _ => rfl) (by cases h; rfl)
theorem t_fM_doLeg_b62 {s : ev_M} {j1 : Option ev_V} {j2 : Option ev_V} {j3 : Option ev_V} {j4 : Option ev_V} {j5 : Option ev_V} {q : ev_M × Int32} (h : fM_doLeg_b62 s = some q) : RR 458 62 [oR 549 0, j1, j2, j3, j4, j5] [] s (cvI q) := by
  refine rg_step 3 (G' := fun f => ev_after (evT f 315 0 [oR 549 0, oI (cI (-102))] [] s) (fun q => evT f 458 68 [oR 549 0, nn, nn, nn, nn, nn] (q.2 ++ []) q.1)) (fun _ => rfl) (rg_bd2 h fun s3 v4 hc h => rg_call (q := cvI (s3, v4)) (T_fM_no hc) ?_)
  exact rg_end 1 (fun _ => rfl) (by cases h; rfl)
theorem t_fM_doLeg_b85 {s : ev_M} {j1 : Option ev_V} {j2 : Option ev_V} {j3 : Option ev_V} {j4 : Option ev_V} {j5 : Option ev_V} {q : ev_M × Int32} (h : fM_doLeg_b85 s = some q) : RR 458 85 [oR 549 0, j1, j2, j3, j4, j5] [] s (cvI q) := by
  refine rg_step 3 (G' := fun f => ev_after (evT f 315 0 [oR 549 0, oI (cI (-104))] [] s) (fun q => evT f 458 91 [oR 549 0, nn, nn, nn, nn, nn] (q.2 ++ []) q.1)) (fun _ => rfl) (rg_bd2 h fun s5 v6 hc h => rg_call (q := cvI (s5, v6)) (T_fM_no hc) ?_)
  exact rg_end 1 (fun _ => rfl) (by cases h; rfl)
theorem T_fM_doLeg {s : ev_M} {a1 : Int32} {a2 : Int32} {a3 : Int32} {a4 : Int32} {a5 : Int32} {q : ev_M × Int32} (h : fM_doLeg s a1 a2 a3 a4 a5 = some q) : RR 458 0 [oR 549 0, oI a1, oI a2, oI a3, oI a4, oI a5] [] s (cvI q) := by
  refine rg_step 3 (G' := fun f => ev_after (evT f 343 0 [oR 549 0, oI a1] [] s) (fun q => evT f 458 5 [oR 549 0, oI a1, oI a2, oI a3, oI a4, oI a5] (q.2 ++ []) q.1)) (fun _ => rfl) (rg_bd1 h fun v7 hc h => rg_call (q := cvP s v7) (T_fM_isPlace hc) ?_)
  refine rg_step 1 (G' := fun f => if v7 = 0 then evT f 458 16 [oR 549 0, oI a1, oI a2, oI a3, oI a4, oI a5] [] s else evT f 458 8 [oR 549 0, oI a1, oI a2, oI a3, oI a4, oI a5] [] s) (fun _ => rfl) (rg_if h (fun h => ?_) fun h => ?_)
  · exact (t_fM_doLeg_b16) h
  · refine rg_step 3 (G' := fun f => ev_after (evT f 343 0 [oR 549 0, oI a2] [] s) (fun q => evT f 458 13 [oR 549 0, oI a1, oI a2, oI a3, oI a4, oI a5] (q.2 ++ []) q.1)) (fun _ => rfl) (rg_bd1 h fun v8 hc h => rg_call (q := cvP s v8) (T_fM_isPlace hc) ?_)
    refine rg_step 1 (G' := fun f => if v8 = 0 then evT f 458 16 [oR 549 0, oI a1, oI a2, oI a3, oI a4, oI a5] [] s else evT f 458 23 [oR 549 0, oI a1, oI a2, oI a3, oI a4, oI a5] [] s) (fun _ => rfl) (rg_if h (fun h => ?_) fun h => ?_)
    · exact (t_fM_doLeg_b16) h
    · refine rg_step 3 (G' := fun f => if a1 = a2 then evT f 458 62 [oR 549 0, oI a1, oI a2, oI a3, oI a4, oI a5] [] s else evT f 458 28 [oR 549 0, oI a1, oI a2, oI a3, oI a4, oI a5] [] s) (fun _ => rfl) (rg_if h (fun h => ?_) fun h => ?_)
      · exact (t_fM_doLeg_b62) h
      · refine rg_step 4 (G' := fun f => ev_after (evT f 311 0 [oI a3, oI (cI 0), oI (cI 1439)] [] s) (fun q => evT f 458 36 [oR 549 0, oI a1, oI a2, oI a3, oI a4, oI a5] (q.2 ++ []) q.1)) (fun _ => rfl) (rg_bd1 h fun v9 hc h => rg_call (q := cvP s v9) (T_fM_in hc) ?_)
        refine rg_step 1 (G' := fun f => if v9 = 0 then evT f 458 62 [oR 549 0, oI a1, oI a2, oI a3, oI a4, oI a5] [] s else evT f 458 39 [oR 549 0, oI a1, oI a2, oI a3, oI a4, oI a5] [] s) (fun _ => rfl) (rg_if h (fun h => ?_) fun h => ?_)
        · exact (t_fM_doLeg_b62) h
        · refine rg_step 4 (G' := fun f => ev_after (evT f 311 0 [oI a4, oI (cI 1), oI (cI 3000)] [] s) (fun q => evT f 458 48 [oR 549 0, oI a1, oI a2, oI a3, oI a4, oI a5] (q.2 ++ []) q.1)) (fun _ => rfl) (rg_bd1 h fun v10 hc h => rg_call (q := cvP s v10) (T_fM_in hc) ?_)
          refine rg_step 1 (G' := fun f => if v10 = 0 then evT f 458 62 [oR 549 0, oI a1, oI a2, oI a3, oI a4, oI a5] [] s else evT f 458 51 [oR 549 0, oI a1, oI a2, oI a3, oI a4, oI a5] [] s) (fun _ => rfl) (rg_if h (fun h => ?_) fun h => ?_)
          · exact (t_fM_doLeg_b62) h
          · refine rg_step 4 (G' := fun f => ev_after (evT f 311 0 [oI a5, oI (cI 1), oI (cI 20)] [] s) (fun q => evT f 458 59 [oR 549 0, oI a1, oI a2, oI a3, oI a4, oI a5] (q.2 ++ []) q.1)) (fun _ => rfl) (rg_bd1 h fun v11 hc h => rg_call (q := cvP s v11) (T_fM_in hc) ?_)
            refine rg_step 1 (G' := fun f => if v11 = 0 then evT f 458 62 [oR 549 0, oI a1, oI a2, oI a3, oI a4, oI a5] [] s else evT f 458 69 [oR 549 0, oI a1, oI a2, oI a3, oI a4, oI a5] [] s) (fun _ => rfl) (rg_if h (fun h => ?_) fun h => ?_)
            · exact (t_fM_doLeg_b62) h
            · refine rg_step 4 (G' := fun f => if (s.1 549 93) = (cI 20) then evT f 458 85 [oR 549 0, oI a1, oI a2, oI a3, oI a4, oI a5] [] s else evT f 458 78 [oR 549 0, oI a1, oI a2, oI a3, oI a4, oI a5] [] s) (fun _ => rfl) (rg_if h (fun h => ?_) fun h => ?_)
              · exact (t_fM_doLeg_b85) h
              · refine rg_step 2 (G' := fun f => ev_after (evT f 316 0 [oR 549 0, nn] [] s) (fun q => evT f 458 82 [oR 549 0, oI a1, oI a2, oI a3, oI a4, oI a5] (q.2 ++ []) q.1)) (fun _ => rfl) (rg_bd1 h fun v12 hc h => rg_call (q := cvP s v12) (T_fM_full hc) ?_)
                refine rg_step 1 (G' := fun f => if v12 = 0 then evT f 458 92 [oR 549 0, oI a1, oI a2, oI a3, oI a4, oI a5] [] s else evT f 458 85 [oR 549 0, oI a1, oI a2, oI a3, oI a4, oI a5] [] s) (fun _ => rfl) (rg_if h (fun h => ?_) fun h => ?_)
                · refine rg_step 6 (G' := fun f => if inb (s.1 549 93) 20 = true then evT f 458 102 [oR 549 0, oI a1, oI a2, oI a3, oI a4, oI a5] [] (wI s 611 (ix (s.1 549 93)) a1) else none) (fun _ => rfl) (rg_gd h fun h => rg_ltM h fun s13 h => ?_)
                  refine rg_step 6 (G' := fun f => if inb (s13.1 549 93) 20 = true then evT f 458 112 [oR 549 0, oI a1, oI a2, oI a3, oI a4, oI a5] [] (wI s13 612 (ix (s13.1 549 93)) a2) else none) (fun _ => rfl) (rg_gd h fun h => rg_ltM h fun s14 h => ?_)
                  refine rg_step 6 (G' := fun f => if inb (s14.1 549 93) 20 = true then evT f 458 122 [oR 549 0, oI a1, oI a2, oI a3, oI a4, oI a5] [] (wI s14 613 (ix (s14.1 549 93)) a3) else none) (fun _ => rfl) (rg_gd h fun h => rg_ltM h fun s15 h => ?_)
                  refine rg_step 6 (G' := fun f => if inb (s15.1 549 93) 20 = true then evT f 458 133 [oR 549 0, oI a1, oI a2, oI a3, oI a4, oI a5] [] (wI s15 614 (ix (s15.1 549 93)) a4) else none) (fun _ => rfl) (rg_gd h fun h => rg_ltM h fun s16 h => ?_)
                  refine rg_step 6 (G' := fun f => if inb (s16.1 549 93) 20 = true then evT f 458 144 [oR 549 0, oI a1, oI a2, oI a3, oI a4, oI a5] [] (wI s16 615 (ix (s16.1 549 93)) a5) else none) (fun _ => rfl) (rg_gd h fun h => rg_ltM h fun s17 h => ?_)
                  refine rg_step 10 (G' := fun f => ev_after (evT f 457 0 [oI ((s17.1 549 22) + (cI 1)), oI a3, nn] [] s17) (fun q => evT f 458 162 [oR 549 0, oI a1, oI a2, oI a3, oI a4, oI a5] (q.2 ++ [vI (s17.1 549 93), vR 616 0]) q.1)) (fun _ => rfl) (rg_bd1 h fun v18 hc h => rg_call (q := cvP s17 v18) (T_fM_from hc) ?_)
                  refine rg_step 1 (G' := fun f => if inb (s17.1 549 93) 20 = true then evT f 458 163 [oR 549 0, oI a1, oI a2, oI a3, oI a4, oI a5] [] (wI s17 616 (ix (s17.1 549 93)) v18) else none) (fun _ => rfl) (rg_gd h fun h => rg_ltM h fun s19 h => ?_)
                  refine rg_step 6 (G' := fun f => if inb (s19.1 549 93) 20 = true then evT f 458 173 [oR 549 0, oI a1, oI a2, oI a3, oI a4, oI a5] [] (wI s19 617 (ix (s19.1 549 93)) (cI 0)) else none) (fun _ => rfl) (rg_gd h fun h => rg_ltM h fun s20 h => ?_)
                  refine rg_step 6 (G' := fun f => evT f 458 183 [oR 549 0, oI a1, oI a2, oI a3, oI a4, oI a5] [] (wI s20 549 93 ((s20.1 549 93) + (cI 1)))) (fun _ => rfl) (rg_ltM h fun s21 h => ?_)
                  exact rg_end 5 (fun _ => rfl) (by cases h; rfl)
                · exact (t_fM_doLeg_b85) h
theorem T_fM_doLate {s : ev_M} {a1 : Int32} {a2 : Int32} {q : ev_M × Int32} (h : fM_doLate s a1 a2 = some q) : RR 460 0 [oR 549 0, oI a1, oI a2] [] s (cvI q) := by
  refine rg_step 7 (G' := fun f => ev_after (evT f 311 0 [oI a1, oI (cI 0), oI ((s.1 549 93) - (cI 1))] [] s) (fun q => evT f 460 11 [oR 549 0, oI a1, oI a2] (q.2 ++ []) q.1)) (fun _ => rfl) (rg_bd1 h fun v1 hc h => rg_call (q := cvP s v1) (T_fM_in hc) ?_)
  refine rg_step 1 (G' := fun f => if v1 = 0 then evT f 460 14 [oR 549 0, oI a1, oI a2] [] s else evT f 460 21 [oR 549 0, oI a1, oI a2] [] s) (fun _ => rfl) (rg_if h (fun h => ?_) fun h => ?_)
  · refine rg_step 3 (G' := fun f => ev_after (evT f 315 0 [oR 549 0, oI (cI (-101))] [] s) (fun q => evT f 460 20 [oR 549 0, oI a1, oI a2] (q.2 ++ []) q.1)) (fun _ => rfl) (rg_bd2 h fun s2 v3 hc h => rg_call (q := cvI (s2, v3)) (T_fM_no hc) ?_)
    exact rg_end 1 (fun _ => rfl) (by cases h; rfl)
  · refine rg_step 4 (G' := fun f => ev_after (evT f 311 0 [oI a2, oI (cI 1), oI (cI 600)] [] s) (fun q => evT f 460 29 [oR 549 0, oI a1, oI a2] (q.2 ++ []) q.1)) (fun _ => rfl) (rg_bd1 h fun v4 hc h => rg_call (q := cvP s v4) (T_fM_in hc) ?_)
    refine rg_step 1 (G' := fun f => if v4 = 0 then evT f 460 32 [oR 549 0, oI a1, oI a2] [] s else evT f 460 39 [oR 549 0, oI a1, oI a2] [] s) (fun _ => rfl) (rg_if h (fun h => ?_) fun h => ?_)
    · refine rg_step 3 (G' := fun f => ev_after (evT f 315 0 [oR 549 0, oI (cI (-102))] [] s) (fun q => evT f 460 38 [oR 549 0, oI a1, oI a2] (q.2 ++ []) q.1)) (fun _ => rfl) (rg_bd2 h fun s5 v6 hc h => rg_call (q := cvI (s5, v6)) (T_fM_no hc) ?_)
      exact rg_end 1 (fun _ => rfl) (by cases h; rfl)
    · refine rg_step 2 (G' := fun f => ev_after (evT f 316 0 [oR 549 0, nn] [] s) (fun q => evT f 460 43 [oR 549 0, oI a1, oI a2] (q.2 ++ []) q.1)) (fun _ => rfl) (rg_bd1 h fun v7 hc h => rg_call (q := cvP s v7) (T_fM_full hc) ?_)
      refine rg_step 1 (G' := fun f => if v7 = 0 then evT f 460 53 [oR 549 0, oI a1, oI a2] [] s else evT f 460 46 [oR 549 0, oI a1, oI a2] [] s) (fun _ => rfl) (rg_if h (fun h => ?_) fun h => ?_)
      · refine rg_step 7 (G' := fun f => if inb a1 20 = true then evT f 460 64 [oR 549 0, oI a1, oI a2] [vI (s.1 616 (ix a1)), vI a1, vR 616 0] s else none) (fun _ => rfl) (rg_gd h fun h => ?_)
        refine rg_step 3 (G' := fun f => if inb a1 20 = true then evT f 460 67 [oR 549 0, oI a1, oI a2] [] (wI s 616 (ix a1) ((s.1 616 (ix a1)) + a2)) else none) (fun _ => rfl) (rg_gd h fun h => rg_ltM h fun s8 h => ?_)
        refine rg_step 7 (G' := fun f => if inb a1 20 = true then evT f 460 78 [oR 549 0, oI a1, oI a2] [vI (s8.1 617 (ix a1)), vI a1, vR 617 0] s8 else none) (fun _ => rfl) (rg_gd h fun h => ?_)
        refine rg_step 3 (G' := fun f => if inb a1 20 = true then evT f 460 81 [oR 549 0, oI a1, oI a2] [] (wI s8 617 (ix a1) ((s8.1 617 (ix a1)) + a2)) else none) (fun _ => rfl) (rg_gd h fun h => rg_ltM h fun s9 h => ?_)
        refine rg_step 4 (G' := fun f => if inb a1 20 = true then evT f 460 87 [oR 549 0, oI a1, oI a2] [vI (s9.1 617 (ix a1))] s9 else none) (fun _ => rfl) (rg_gd h fun h => ?_)
        exact rg_end 1 (fun _ => rfl) (by cases h; rfl)
      · refine rg_step 3 (G' := fun f => ev_after (evT f 315 0 [oR 549 0, oI (cI (-104))] [] s) (fun q => evT f 460 52 [oR 549 0, oI a1, oI a2] (q.2 ++ []) q.1)) (fun _ => rfl) (rg_bd2 h fun s10 v11 hc h => rg_call (q := cvI (s10, v11)) (T_fM_no hc) ?_)
        exact rg_end 1 (fun _ => rfl) (by cases h; rfl)
theorem t_fM_doBag_b16 {s : ev_M} {j1 : Option ev_V} {j2 : Option ev_V} {q : ev_M × Int32} (h : fM_doBag_b16 s = some q) : RR 462 16 [oR 549 0, j1, j2] [] s (cvI q) := by
  refine rg_step 3 (G' := fun f => ev_after (evT f 315 0 [oR 549 0, oI (cI (-101))] [] s) (fun q => evT f 462 22 [oR 549 0, nn, nn] (q.2 ++ []) q.1)) (fun _ => rfl) (rg_bd2 h fun s1 v2 hc h => rg_call (q := cvI (s1, v2)) (T_fM_no hc) ?_)
  exact rg_end 1 (fun _ => rfl) (by cases h; rfl)
theorem t_fM_doBag_b51 {s : ev_M} {j1 : Option ev_V} {j2 : Option ev_V} {q : ev_M × Int32} (h : fM_doBag_b51 s = some q) : RR 462 51 [oR 549 0, j1, j2] [] s (cvI q) := by
  refine rg_step 3 (G' := fun f => ev_after (evT f 315 0 [oR 549 0, oI (cI (-104))] [] s) (fun q => evT f 462 57 [oR 549 0, nn, nn] (q.2 ++ []) q.1)) (fun _ => rfl) (rg_bd2 h fun s3 v4 hc h => rg_call (q := cvI (s3, v4)) (T_fM_no hc) ?_)
  exact rg_end 1 (fun _ => rfl) (by cases h; rfl)
theorem T_fM_doBag {s : ev_M} {a1 : Int32} {a2 : Int32} {q : ev_M × Int32} (h : fM_doBag s a1 a2 = some q) : RR 462 0 [oR 549 0, oI a1, oI a2] [] s (cvI q) := by
  refine rg_step 3 (G' := fun f => ev_after (evT f 343 0 [oR 549 0, oI a1] [] s) (fun q => evT f 462 5 [oR 549 0, oI a1, oI a2] (q.2 ++ []) q.1)) (fun _ => rfl) (rg_bd1 h fun v5 hc h => rg_call (q := cvP s v5) (T_fM_isPlace hc) ?_)
  refine rg_step 1 (G' := fun f => if v5 = 0 then evT f 462 16 [oR 549 0, oI a1, oI a2] [] s else evT f 462 8 [oR 549 0, oI a1, oI a2] [] s) (fun _ => rfl) (rg_if h (fun h => ?_) fun h => ?_)
  · exact (t_fM_doBag_b16) h
  · refine rg_step 3 (G' := fun f => ev_after (evT f 343 0 [oR 549 0, oI a2] [] s) (fun q => evT f 462 13 [oR 549 0, oI a1, oI a2] (q.2 ++ []) q.1)) (fun _ => rfl) (rg_bd1 h fun v6 hc h => rg_call (q := cvP s v6) (T_fM_isPlace hc) ?_)
    refine rg_step 1 (G' := fun f => if v6 = 0 then evT f 462 16 [oR 549 0, oI a1, oI a2] [] s else evT f 462 23 [oR 549 0, oI a1, oI a2] [] s) (fun _ => rfl) (rg_if h (fun h => ?_) fun h => ?_)
    · exact (t_fM_doBag_b16) h
    · refine rg_step 3 (G' := fun f => if a1 = a2 then evT f 462 28 [oR 549 0, oI a1, oI a2] [] s else evT f 462 35 [oR 549 0, oI a1, oI a2] [] s) (fun _ => rfl) (rg_if h (fun h => ?_) fun h => ?_)
      · refine rg_step 3 (G' := fun f => ev_after (evT f 315 0 [oR 549 0, oI (cI (-102))] [] s) (fun q => evT f 462 34 [oR 549 0, oI a1, oI a2] (q.2 ++ []) q.1)) (fun _ => rfl) (rg_bd2 h fun s7 v8 hc h => rg_call (q := cvI (s7, v8)) (T_fM_no hc) ?_)
        exact rg_end 1 (fun _ => rfl) (by cases h; rfl)
      · refine rg_step 4 (G' := fun f => if (s.1 549 101) = (cI 80) then evT f 462 51 [oR 549 0, oI a1, oI a2] [] s else evT f 462 44 [oR 549 0, oI a1, oI a2] [] s) (fun _ => rfl) (rg_if h (fun h => ?_) fun h => ?_)
        · exact (t_fM_doBag_b51) h
        · refine rg_step 2 (G' := fun f => ev_after (evT f 316 0 [oR 549 0, nn] [] s) (fun q => evT f 462 48 [oR 549 0, oI a1, oI a2] (q.2 ++ []) q.1)) (fun _ => rfl) (rg_bd1 h fun v9 hc h => rg_call (q := cvP s v9) (T_fM_full hc) ?_)
          refine rg_step 1 (G' := fun f => if v9 = 0 then evT f 462 58 [oR 549 0, oI a1, oI a2] [] s else evT f 462 51 [oR 549 0, oI a1, oI a2] [] s) (fun _ => rfl) (rg_if h (fun h => ?_) fun h => ?_)
          · refine rg_step 6 (G' := fun f => if inb (s.1 549 101) 80 = true then evT f 462 68 [oR 549 0, oI a1, oI a2] [] (wI s 618 (ix (s.1 549 101)) (cI 0)) else none) (fun _ => rfl) (rg_gd h fun h => rg_ltM h fun s10 h => ?_)
            refine rg_step 6 (G' := fun f => if inb (s10.1 549 101) 80 = true then evT f 462 78 [oR 549 0, oI a1, oI a2] [] (wI s10 619 (ix (s10.1 549 101)) a1) else none) (fun _ => rfl) (rg_gd h fun h => rg_ltM h fun s11 h => ?_)
            refine rg_step 6 (G' := fun f => if inb (s11.1 549 101) 80 = true then evT f 462 88 [oR 549 0, oI a1, oI a2] [] (wI s11 620 (ix (s11.1 549 101)) a2) else none) (fun _ => rfl) (rg_gd h fun h => rg_ltM h fun s12 h => ?_)
            refine rg_step 6 (G' := fun f => if inb (s12.1 549 101) 80 = true then evT f 462 98 [oR 549 0, oI a1, oI a2] [] (wI s12 621 (ix (s12.1 549 101)) (cI (-1))) else none) (fun _ => rfl) (rg_gd h fun h => rg_ltM h fun s13 h => ?_)
            refine rg_step 6 (G' := fun f => if inb (s13.1 549 101) 80 = true then evT f 462 108 [oR 549 0, oI a1, oI a2] [] (wI s13 622 (ix (s13.1 549 101)) (cI (-1))) else none) (fun _ => rfl) (rg_gd h fun h => rg_ltM h fun s14 h => ?_)
            refine rg_step 6 (G' := fun f => evT f 462 118 [oR 549 0, oI a1, oI a2] [] (wI s14 549 101 ((s14.1 549 101) + (cI 1)))) (fun _ => rfl) (rg_ltM h fun s15 h => ?_)
            exact rg_end 5 (fun _ => rfl) (by cases h; rfl)
          · exact (t_fM_doBag_b51) h
theorem T_fM_isBag {s : ev_M} {a1 : Int32} {q : Int32} (h : fM_isBag s a1 = some q) : RR 345 0 [oR 549 0, oI a1] [] s (cvP s q) := by
  refine rg_step 7 (G' := fun f => ev_after (evT f 311 0 [oI a1, oI (cI 0), oI ((s.1 549 101) - (cI 1))] [] s) (fun q => evT f 345 11 [oR 549 0, oI a1] (q.2 ++ []) q.1)) (fun _ => rfl) (rg_bd1 h fun v1 hc h => rg_call (q := cvP s v1) (T_fM_in hc) ?_)
  exact rg_step 1 (G' := fun f => if bz v1 = true then some (s, [vI v1]) else none) (fun _ => rfl) (rg_gd h fun h => rg_end 0 (fun _ => rfl) (by cases h; rfl))
theorem t_fM_inBag_b29 {s : ev_M} {k4 : Int32 → Int32 → Int32 → Option Int32} (hk4 : ∀ {x1 : Int32} {x2 : Int32} {x3 : Int32} {q : Int32}, k4 x1 x2 x3 = some q → RR 464 4 [oR 549 0, oI x1, oI x2, oI x3] [] s (cvP s q)) {x1 : Int32} {x3 : Int32} {y0 : Int32} {j2 : Option ev_V} {q : Int32} (h : fM_inBag_b29 s k4 x1 x3 y0 = some q) : RR 464 29 [oR 549 0, oI x1, j2, oI x3] [vI y0] s (cvP s q) := by
  exact rg_step 3 (G' := fun f => evT f 464 4 [oR 549 0, oI x1, oI y0, oI (x3 + cI 1)] [] s) (fun _ => rfl) (hk4 h)
theorem ti_fM_inBag_h4 {s : ev_M} : ∀ (n : Nat) (x1 : Int32) (x2 : Int32) (x3 : Int32) (q : Int32), fM_inBag_h4 s n x1 x2 x3 = some q → RR 464 4 [oR 549 0, oI x1, oI x2, oI x3] [] s (cvP s q) := by
  intro n
  induction n with
  | zero => intro x1 x2 x3 q h; cases h
  | succ n ih =>
    have hk4 : ∀ {x1 : Int32} {x2 : Int32} {x3 : Int32} {q : Int32}, fM_inBag_h4 s n x1 x2 x3 = some q → RR 464 4 [oR 549 0, oI x1, oI x2, oI x3] [] s (cvP s q) := fun h => ih _ _ _ _ h
    intro x1 x2 x3 q h
    refine rg_step 4 (G' := fun f => if x3 < (s.1 549 58) then evT f 464 12 [oR 549 0, oI x1, oI x2, oI x3] [] s else evT f 464 36 [oR 549 0, oI x1, oI x2, oI x3] [] s) (fun _ => rfl) (rg_if h (fun h => ?_) fun h => ?_)
    · refine rg_step 4 (G' := fun f => if inb x3 300 = true then evT f 464 18 [oR 549 0, oI x1, oI x2, oI x3] [vI (s.1 593 (ix x3))] s else none) (fun _ => rfl) (rg_gd h fun h => ?_)
      refine rg_step 2 (G' := fun f => if (s.1 593 (ix x3)) = x1 then evT f 464 22 [oR 549 0, oI x1, oI x2, oI x3] [] s else evT f 464 28 [oR 549 0, oI x1, oI x2, oI x3] [] s) (fun _ => rfl) (rg_if h (fun h => ?_) fun h => ?_)
      · exact rg_step 4 (G' := fun f => evT f 464 29 [oR 549 0, oI x1, oI x2, oI x3] [vI (x2 + (cI 1))] s) (fun _ => rfl) ((t_fM_inBag_b29 hk4) h)
      · exact rg_step 1 (G' := fun f => evT f 464 29 [oR 549 0, oI x1, oI x2, oI x3] [vI x2] s) (fun _ => rfl) ((t_fM_inBag_b29 hk4) h)
    · exact rg_end 2 (fun _ => rfl) (by cases h; rfl)
theorem t_fM_inBag_h4 {s : ev_M} {n : Nat} {x1 : Int32} {x2 : Int32} {x3 : Int32} {q : Int32} (h : fM_inBag_h4 s n x1 x2 x3 = some q) : RR 464 4 [oR 549 0, oI x1, oI x2, oI x3] [] s (cvP s q) := ti_fM_inBag_h4 n x1 x2 x3 q h
theorem T_fM_inBag {s : ev_M} {a1 : Int32} {q : Int32} (h : fM_inBag s a1 = some q) : RR 464 0 [oR 549 0, oI a1, nn, nn] [] s (cvP s q) := by
  exact rg_step 4 (G' := fun f => evT f 464 4 [oR 549 0, oI a1, oI (cI 0), oI (cI 0)] [] s) (fun _ => rfl) ((t_fM_inBag_h4) h)
theorem t_fM_doInto_b16 {s : ev_M} {j1 : Option ev_V} {j2 : Option ev_V} {j3 : Option ev_V} {j4 : Option ev_V} {q : ev_M × Int32} (h : fM_doInto_b16 s = some q) : RR 465 16 [oR 549 0, j1, j2, j3, j4] [] s (cvI q) := by
  refine rg_step 3 (G' := fun f => ev_after (evT f 315 0 [oR 549 0, oI (cI (-101))] [] s) (fun q => evT f 465 22 [oR 549 0, nn, nn, nn, nn] (q.2 ++ []) q.1)) (fun _ => rfl) (rg_bd2 h fun s1 v2 hc h => rg_call (q := cvI (s1, v2)) (T_fM_no hc) ?_)
  exact rg_end 1 (fun _ => rfl) (by cases h; rfl)
theorem t_fM_doInto_b67 {s : ev_M} {j1 : Option ev_V} {j2 : Option ev_V} {j3 : Option ev_V} {j4 : Option ev_V} {q : ev_M × Int32} (h : fM_doInto_b67 s = some q) : RR 465 67 [oR 549 0, j1, j2, j3, j4] [] s (cvI q) := by
  refine rg_step 3 (G' := fun f => ev_after (evT f 315 0 [oR 549 0, oI (cI (-103))] [] s) (fun q => evT f 465 73 [oR 549 0, nn, nn, nn, nn] (q.2 ++ []) q.1)) (fun _ => rfl) (rg_bd2 h fun s3 v4 hc h => rg_call (q := cvI (s3, v4)) (T_fM_no hc) ?_)
  exact rg_end 1 (fun _ => rfl) (by cases h; rfl)
theorem t_fM_doInto_b125 {s : ev_M} {j1 : Option ev_V} {j2 : Option ev_V} {j3 : Option ev_V} {j4 : Option ev_V} {q : ev_M × Int32} (h : fM_doInto_b125 s = some q) : RR 465 125 [oR 549 0, j1, j2, j3, j4] [] s (cvI q) := by
  refine rg_step 3 (G' := fun f => ev_after (evT f 315 0 [oR 549 0, oI (cI (-104))] [] s) (fun q => evT f 465 131 [oR 549 0, nn, nn, nn, nn] (q.2 ++ []) q.1)) (fun _ => rfl) (rg_bd2 h fun s5 v6 hc h => rg_call (q := cvI (s5, v6)) (T_fM_no hc) ?_)
  exact rg_end 1 (fun _ => rfl) (by cases h; rfl)
theorem T_fM_doInto {s : ev_M} {a1 : Int32} {a2 : Int32} {q : ev_M × Int32} (h : fM_doInto s a1 a2 = some q) : RR 465 0 [oR 549 0, oI a1, oI a2, nn, nn] [] s (cvI q) := by
  refine rg_step 3 (G' := fun f => ev_after (evT f 345 0 [oR 549 0, oI a1] [] s) (fun q => evT f 465 5 [oR 549 0, oI a1, oI a2, nn, nn] (q.2 ++ []) q.1)) (fun _ => rfl) (rg_bd1 h fun v7 hc h => rg_call (q := cvP s v7) (T_fM_isBag hc) ?_)
  refine rg_step 1 (G' := fun f => if v7 = 0 then evT f 465 16 [oR 549 0, oI a1, oI a2, nn, nn] [] s else evT f 465 8 [oR 549 0, oI a1, oI a2, nn, nn] [] s) (fun _ => rfl) (rg_if h (fun h => ?_) fun h => ?_)
  · exact (t_fM_doInto_b16) h
  · refine rg_step 3 (G' := fun f => ev_after (evT f 342 0 [oR 549 0, oI a2] [] s) (fun q => evT f 465 13 [oR 549 0, oI a1, oI a2, nn, nn] (q.2 ++ []) q.1)) (fun _ => rfl) (rg_bd1 h fun v8 hc h => rg_call (q := cvP s v8) (T_fM_isItem hc) ?_)
    refine rg_step 1 (G' := fun f => if v8 = 0 then evT f 465 16 [oR 549 0, oI a1, oI a2, nn, nn] [] s else evT f 465 23 [oR 549 0, oI a1, oI a2, nn, nn] [] s) (fun _ => rfl) (rg_if h (fun h => ?_) fun h => ?_)
    · exact (t_fM_doInto_b16) h
    · refine rg_step 4 (G' := fun f => if inb a1 80 = true then evT f 465 29 [oR 549 0, oI a1, oI a2, nn, nn] [vI (s.1 618 (ix a1))] s else none) (fun _ => rfl) (rg_gd h fun h => ?_)
      refine rg_step 1 (G' := fun f => if (s.1 618 (ix a1)) = 0 then evT f 465 32 [oR 549 0, oI a1, oI a2, nn, nn] [] s else evT f 465 67 [oR 549 0, oI a1, oI a2, nn, nn] [] s) (fun _ => rfl) (rg_if h (fun h => ?_) fun h => ?_)
      · refine rg_step 4 (G' := fun f => if inb a2 300 = true then evT f 465 38 [oR 549 0, oI a1, oI a2, nn, nn] [vI (s.1 583 (ix a2))] s else none) (fun _ => rfl) (rg_gd h fun h => ?_)
        refine rg_step 2 (G' := fun f => if (s.1 583 (ix a2)) = (cI 1) then evT f 465 42 [oR 549 0, oI a1, oI a2, nn, nn] [] s else evT f 465 67 [oR 549 0, oI a1, oI a2, nn, nn] [] s) (fun _ => rfl) (rg_if h (fun h => ?_) fun h => ?_)
        · refine rg_step 4 (G' := fun f => if inb a2 300 = true then evT f 465 48 [oR 549 0, oI a1, oI a2, nn, nn] [vI (s.1 591 (ix a2))] s else none) (fun _ => rfl) (rg_gd h fun h => ?_)
          refine rg_step 4 (G' := fun f => if inb a1 80 = true then evT f 465 54 [oR 549 0, oI a1, oI a2, nn, nn] [vI (s.1 619 (ix a1)), vI (s.1 591 (ix a2))] s else none) (fun _ => rfl) (rg_gd h fun h => ?_)
          refine rg_step 1 (G' := fun f => if (s.1 591 (ix a2)) = (s.1 619 (ix a1)) then evT f 465 57 [oR 549 0, oI a1, oI a2, nn, nn] [] s else evT f 465 67 [oR 549 0, oI a1, oI a2, nn, nn] [] s) (fun _ => rfl) (rg_if h (fun h => ?_) fun h => ?_)
          · refine rg_step 4 (G' := fun f => if inb a2 300 = true then evT f 465 63 [oR 549 0, oI a1, oI a2, nn, nn] [vI (s.1 590 (ix a2))] s else none) (fun _ => rfl) (rg_gd h fun h => ?_)
            refine rg_step 2 (G' := fun f => if (s.1 590 (ix a2)) = (cI (-1)) then evT f 465 67 [oR 549 0, oI a1, oI a2, nn, nn] [] s else evT f 465 74 [oR 549 0, oI a1, oI a2, nn, nn] [] s) (fun _ => rfl) (rg_if h (fun h => ?_) fun h => ?_)
            · exact (t_fM_doInto_b67) h
            · refine rg_step 3 (G' := fun f => ev_after (evT f 415 0 [oR 549 0, oI a2] [] s) (fun q => evT f 465 79 [oR 549 0, oI a1, oI a2, nn, nn] (q.2 ++ []) q.1)) (fun _ => rfl) (rg_bd2 h fun s9 v10 hc h => rg_call (q := cvI (s9, v10)) (T_fM_goalOf hc) ?_)
              refine rg_step 5 (G' := fun f => ev_after (evT f 348 0 [oR 549 0, oI (s9.1 549 141)] [] s9) (fun q => evT f 465 88 [oR 549 0, oI a1, oI a2, oI v10, nn] (q.2 ++ []) q.1)) (fun _ => rfl) (rg_bd1 h fun v11 hc h => rg_call (q := cvP s9 v11) (T_fM_placeOf hc) ?_)
              refine rg_step 4 (G' := fun f => if inb a1 80 = true then evT f 465 94 [oR 549 0, oI a1, oI a2, oI v10, nn] [vI (s9.1 620 (ix a1)), vI v11] s9 else none) (fun _ => rfl) (rg_gd h fun h => ?_)
              refine rg_step 1 (G' := fun f => if v11 = (s9.1 620 (ix a1)) then evT f 465 104 [oR 549 0, oI a1, oI a2, oI v10, nn] [] s9 else evT f 465 97 [oR 549 0, oI a1, oI a2, oI v10, nn] [] s9) (fun _ => rfl) (rg_if h (fun h => ?_) fun h => ?_)
              · refine rg_step 3 (G' := fun f => ev_after (evT f 464 0 [oR 549 0, oI a1, nn, nn] [] s9) (fun q => evT f 465 109 [oR 549 0, oI a1, oI a2, oI v10, nn] (q.2 ++ []) q.1)) (fun _ => rfl) (rg_bd1 h fun v12 hc h => rg_call (q := cvP s9 v12) (T_fM_inBag hc) ?_)
                refine rg_step 4 (G' := fun f => if v12 = (cI 40) then evT f 465 125 [oR 549 0, oI a1, oI a2, oI v10, oI v12] [] s9 else evT f 465 118 [oR 549 0, oI a1, oI a2, oI v10, oI v12] [] s9) (fun _ => rfl) (rg_if h (fun h => ?_) fun h => ?_)
                · exact (t_fM_doInto_b125) h
                · refine rg_step 2 (G' := fun f => ev_after (evT f 316 0 [oR 549 0, nn] [] s9) (fun q => evT f 465 122 [oR 549 0, oI a1, oI a2, oI v10, oI v12] (q.2 ++ []) q.1)) (fun _ => rfl) (rg_bd1 h fun v13 hc h => rg_call (q := cvP s9 v13) (T_fM_full hc) ?_)
                  refine rg_step 1 (G' := fun f => if v13 = 0 then evT f 465 132 [oR 549 0, oI a1, oI a2, oI v10, oI v12] [] s9 else evT f 465 125 [oR 549 0, oI a1, oI a2, oI v10, oI v12] [] s9) (fun _ => rfl) (rg_if h (fun h => ?_) fun h => ?_)
                  · refine rg_step 3 (G' := fun f => ev_after (evT f 352 0 [oR 549 0, oI a2] [] s9) (fun q => evT f 465 137 [oR 549 0, oI a1, oI a2, oI v10, oI v12] (q.2 ++ []) q.1)) (fun _ => rfl) (rg_bd1 h fun s14 hc h => rg_call (q := cvV s14) (T_fM_leaves hc) ?_)
                    refine rg_step 5 (G' := fun f => if inb a2 300 = true then evT f 465 144 [oR 549 0, oI a1, oI a2, oI v10, oI v12] [] (wI s14 593 (ix a2) a1) else none) (fun _ => rfl) (rg_gd h fun h => rg_ltM h fun s15 h => ?_)
                    refine rg_step 6 (G' := fun f => evT f 465 154 [oR 549 0, oI a1, oI a2, oI v10, oI v12] [] (wI s15 549 23 ((s15.1 549 23) + (cI 1)))) (fun _ => rfl) (rg_ltM h fun s16 h => ?_)
                    refine rg_step 6 (G' := fun f => if inb a2 300 = true then evT f 465 164 [oR 549 0, oI a1, oI a2, oI v10, oI v12] [] (wI s16 594 (ix a2) (s16.1 549 23)) else none) (fun _ => rfl) (rg_gd h fun h => rg_ltM h fun s17 h => ?_)
                    refine rg_step 4 (G' := fun f => ev_after (evT f 351 0 [oR 549 0, oI a2, oI (cI 2)] [] s17) (fun q => evT f 465 170 [oR 549 0, oI a1, oI a2, oI v10, oI v12] (q.2 ++ []) q.1)) (fun _ => rfl) (rg_bd1 h fun s18 hc h => rg_call (q := cvV s18) (T_fM_comes hc) ?_)
                    exact rg_end 4 (fun _ => rfl) (by cases h; rfl)
                  · exact (t_fM_doInto_b125) h
              · refine rg_step 3 (G' := fun f => ev_after (evT f 315 0 [oR 549 0, oI (cI (-103))] [] s9) (fun q => evT f 465 103 [oR 549 0, oI a1, oI a2, oI v10, nn] (q.2 ++ []) q.1)) (fun _ => rfl) (rg_bd2 h fun s19 v20 hc h => rg_call (q := cvI (s19, v20)) (T_fM_no hc) ?_)
                exact rg_end 1 (fun _ => rfl) (by cases h; rfl)
          · exact (t_fM_doInto_b67) h
        · exact (t_fM_doInto_b67) h
      · exact (t_fM_doInto_b67) h
theorem T_fM_doClose {s : ev_M} {a1 : Int32} {q : ev_M × Int32} (h : fM_doClose s a1 = some q) : RR 467 0 [oR 549 0, oI a1] [] s (cvI q) := by
  refine rg_step 3 (G' := fun f => ev_after (evT f 345 0 [oR 549 0, oI a1] [] s) (fun q => evT f 467 5 [oR 549 0, oI a1] (q.2 ++ []) q.1)) (fun _ => rfl) (rg_bd1 h fun v1 hc h => rg_call (q := cvP s v1) (T_fM_isBag hc) ?_)
  refine rg_step 1 (G' := fun f => if v1 = 0 then evT f 467 8 [oR 549 0, oI a1] [] s else evT f 467 15 [oR 549 0, oI a1] [] s) (fun _ => rfl) (rg_if h (fun h => ?_) fun h => ?_)
  · refine rg_step 3 (G' := fun f => ev_after (evT f 315 0 [oR 549 0, oI (cI (-101))] [] s) (fun q => evT f 467 14 [oR 549 0, oI a1] (q.2 ++ []) q.1)) (fun _ => rfl) (rg_bd2 h fun s2 v3 hc h => rg_call (q := cvI (s2, v3)) (T_fM_no hc) ?_)
    exact rg_end 1 (fun _ => rfl) (by cases h; rfl)
  · refine rg_step 4 (G' := fun f => if inb a1 80 = true then evT f 467 21 [oR 549 0, oI a1] [vI (s.1 618 (ix a1))] s else none) (fun _ => rfl) (rg_gd h fun h => ?_)
    refine rg_step 1 (G' := fun f => if (s.1 618 (ix a1)) = 0 then evT f 467 31 [oR 549 0, oI a1] [] s else evT f 467 24 [oR 549 0, oI a1] [] s) (fun _ => rfl) (rg_if h (fun h => ?_) fun h => ?_)
    · refine rg_step 2 (G' := fun f => ev_after (evT f 316 0 [oR 549 0, nn] [] s) (fun q => evT f 467 35 [oR 549 0, oI a1] (q.2 ++ []) q.1)) (fun _ => rfl) (rg_bd1 h fun v4 hc h => rg_call (q := cvP s v4) (T_fM_full hc) ?_)
      refine rg_step 1 (G' := fun f => if v4 = 0 then evT f 467 45 [oR 549 0, oI a1] [] s else evT f 467 38 [oR 549 0, oI a1] [] s) (fun _ => rfl) (rg_if h (fun h => ?_) fun h => ?_)
      · refine rg_step 5 (G' := fun f => if inb a1 80 = true then evT f 467 52 [oR 549 0, oI a1] [] (wI s 618 (ix a1) (cI 1)) else none) (fun _ => rfl) (rg_gd h fun h => rg_ltM h fun s5 h => ?_)
        refine rg_step 3 (G' := fun f => ev_after (evT f 464 0 [oR 549 0, oI a1, nn, nn] [] s5) (fun q => evT f 467 57 [oR 549 0, oI a1] (q.2 ++ []) q.1)) (fun _ => rfl) (rg_bd1 h fun v6 hc h => rg_call (q := cvP s5 v6) (T_fM_inBag hc) ?_)
        exact rg_end 1 (fun _ => rfl) (by cases h; rfl)
      · refine rg_step 3 (G' := fun f => ev_after (evT f 315 0 [oR 549 0, oI (cI (-104))] [] s) (fun q => evT f 467 44 [oR 549 0, oI a1] (q.2 ++ []) q.1)) (fun _ => rfl) (rg_bd2 h fun s7 v8 hc h => rg_call (q := cvI (s7, v8)) (T_fM_no hc) ?_)
        exact rg_end 1 (fun _ => rfl) (by cases h; rfl)
    · refine rg_step 3 (G' := fun f => ev_after (evT f 315 0 [oR 549 0, oI (cI (-103))] [] s) (fun q => evT f 467 30 [oR 549 0, oI a1] (q.2 ++ []) q.1)) (fun _ => rfl) (rg_bd2 h fun s9 v10 hc h => rg_call (q := cvI (s9, v10)) (T_fM_no hc) ?_)
      exact rg_end 1 (fun _ => rfl) (by cases h; rfl)
theorem t_fM_doOpen_b40 {s : ev_M} {j1 : Option ev_V} {j2 : Option ev_V} {j3 : Option ev_V} {j4 : Option ev_V} {j5 : Option ev_V} {q : ev_M × Int32} (h : fM_doOpen_b40 s = some q) : RR 469 40 [oR 549 0, j1, j2, j3, j4, j5] [] s (cvI q) := by
  refine rg_step 3 (G' := fun f => ev_after (evT f 315 0 [oR 549 0, oI (cI (-103))] [] s) (fun q => evT f 469 46 [oR 549 0, nn, nn, nn, nn, nn] (q.2 ++ []) q.1)) (fun _ => rfl) (rg_bd2 h fun s1 v2 hc h => rg_call (q := cvI (s1, v2)) (T_fM_no hc) ?_)
  exact rg_end 1 (fun _ => rfl) (by cases h; rfl)
theorem t_fM_doOpen_b137 {k76 : ev_M → Int32 → Int32 → Int32 → Option (ev_M × Int32)} {k87 : ev_M → Int32 → Int32 → Int32 → Int32 → Int32 → Option (ev_M × Int32)} (hk76 : ∀ {s : ev_M} {x1 : Int32} {x2 : Int32} {x3 : Int32} {j4 : Option ev_V} {j5 : Option ev_V} {q : ev_M × Int32}, k76 s x1 x2 x3 = some q → RR 469 76 [oR 549 0, oI x1, oI x2, oI x3, j4, j5] [] s (cvI q)) (hk87 : ∀ {s : ev_M} {x1 : Int32} {x2 : Int32} {x3 : Int32} {x4 : Int32} {x5 : Int32} {q : ev_M × Int32}, k87 s x1 x2 x3 x4 x5 = some q → RR 469 87 [oR 549 0, oI x1, oI x2, oI x3, oI x4, oI x5] [] s (cvI q)) {s : ev_M} {x1 : Int32} {x2 : Int32} {x3 : Int32} {x5 : Int32} {y0 : Int32} {j4 : Option ev_V} {q : ev_M × Int32} (h : fM_doOpen_b137 k76 k87 s x1 x2 x3 x5 y0 = some q) : RR 469 137 [oR 549 0, oI x1, oI x2, oI x3, j4, oI x5] [vI y0] s (cvI q) := by
  exact rg_step 3 (G' := fun f => evT f 469 87 [oR 549 0, oI x1, oI x2, oI x3, oI y0, oI (x5 + cI 1)] [] s) (fun _ => rfl) (hk87 h)
theorem t_fM_doOpen_b130 {k76 : ev_M → Int32 → Int32 → Int32 → Option (ev_M × Int32)} {k87 : ev_M → Int32 → Int32 → Int32 → Int32 → Int32 → Option (ev_M × Int32)} (hk76 : ∀ {s : ev_M} {x1 : Int32} {x2 : Int32} {x3 : Int32} {j4 : Option ev_V} {j5 : Option ev_V} {q : ev_M × Int32}, k76 s x1 x2 x3 = some q → RR 469 76 [oR 549 0, oI x1, oI x2, oI x3, j4, j5] [] s (cvI q)) (hk87 : ∀ {s : ev_M} {x1 : Int32} {x2 : Int32} {x3 : Int32} {x4 : Int32} {x5 : Int32} {q : ev_M × Int32}, k87 s x1 x2 x3 x4 x5 = some q → RR 469 87 [oR 549 0, oI x1, oI x2, oI x3, oI x4, oI x5] [] s (cvI q)) {s : ev_M} {x1 : Int32} {x2 : Int32} {x3 : Int32} {x5 : Int32} {j4 : Option ev_V} {q : ev_M × Int32} (h : fM_doOpen_b130 k76 k87 s x1 x2 x3 x5 = some q) : RR 469 130 [oR 549 0, oI x1, oI x2, oI x3, j4, oI x5] [] s (cvI q) := by
  exact rg_step 2 (G' := fun f => evT f 469 137 [oR 549 0, oI x1, oI x2, oI x3, nn, oI x5] [vI x5] s) (fun _ => rfl) ((t_fM_doOpen_b137 hk76 hk87) h)
theorem t_fM_doOpen_b135 {k76 : ev_M → Int32 → Int32 → Int32 → Option (ev_M × Int32)} {k87 : ev_M → Int32 → Int32 → Int32 → Int32 → Int32 → Option (ev_M × Int32)} (hk76 : ∀ {s : ev_M} {x1 : Int32} {x2 : Int32} {x3 : Int32} {j4 : Option ev_V} {j5 : Option ev_V} {q : ev_M × Int32}, k76 s x1 x2 x3 = some q → RR 469 76 [oR 549 0, oI x1, oI x2, oI x3, j4, j5] [] s (cvI q)) (hk87 : ∀ {s : ev_M} {x1 : Int32} {x2 : Int32} {x3 : Int32} {x4 : Int32} {x5 : Int32} {q : ev_M × Int32}, k87 s x1 x2 x3 x4 x5 = some q → RR 469 87 [oR 549 0, oI x1, oI x2, oI x3, oI x4, oI x5] [] s (cvI q)) {s : ev_M} {x1 : Int32} {x2 : Int32} {x3 : Int32} {x4 : Int32} {x5 : Int32} {q : ev_M × Int32} (h : fM_doOpen_b135 k76 k87 s x1 x2 x3 x4 x5 = some q) : RR 469 135 [oR 549 0, oI x1, oI x2, oI x3, oI x4, oI x5] [] s (cvI q) := by
  exact rg_step 1 (G' := fun f => evT f 469 137 [oR 549 0, oI x1, oI x2, oI x3, oI x4, oI x5] [vI x4] s) (fun _ => rfl) ((t_fM_doOpen_b137 hk76 hk87) h)
theorem ti_fM_doOpen_h87 {k76 : ev_M → Int32 → Int32 → Int32 → Option (ev_M × Int32)} (hk76 : ∀ {s : ev_M} {x1 : Int32} {x2 : Int32} {x3 : Int32} {j4 : Option ev_V} {j5 : Option ev_V} {q : ev_M × Int32}, k76 s x1 x2 x3 = some q → RR 469 76 [oR 549 0, oI x1, oI x2, oI x3, j4, j5] [] s (cvI q)) : ∀ (n : Nat) (s : ev_M) (x1 : Int32) (x2 : Int32) (x3 : Int32) (x4 : Int32) (x5 : Int32) (q : ev_M × Int32), fM_doOpen_h87 k76 n s x1 x2 x3 x4 x5 = some q → RR 469 87 [oR 549 0, oI x1, oI x2, oI x3, oI x4, oI x5] [] s (cvI q) := by
  intro n
  induction n with
  | zero => intro s x1 x2 x3 x4 x5 q h; cases h
  | succ n ih =>
    have hk87 : ∀ {s : ev_M} {x1 : Int32} {x2 : Int32} {x3 : Int32} {x4 : Int32} {x5 : Int32} {q : ev_M × Int32}, fM_doOpen_h87 k76 n s x1 x2 x3 x4 x5 = some q → RR 469 87 [oR 549 0, oI x1, oI x2, oI x3, oI x4, oI x5] [] s (cvI q) := fun h => ih _ _ _ _ _ _ _ h
    intro s x1 x2 x3 x4 x5 q h
    refine rg_step 4 (G' := fun f => if x5 < (s.1 549 58) then evT f 469 96 [oR 549 0, oI x1, oI x2, oI x3, oI x4, oI x5] [] s else evT f 469 145 [oR 549 0, oI x1, oI x2, oI x3, oI x4, oI x5] [] s) (fun _ => rfl) (rg_if h (fun h => ?_) fun h => ?_)
    · refine rg_step 4 (G' := fun f => if inb x5 300 = true then evT f 469 103 [oR 549 0, oI x1, oI x2, oI x3, oI x4, oI x5] [vI (s.1 593 (ix x5))] s else none) (fun _ => rfl) (rg_gd h fun h => ?_)
      refine rg_step 2 (G' := fun f => if (s.1 593 (ix x5)) = x1 then evT f 469 107 [oR 549 0, oI x1, oI x2, oI x3, oI x4, oI x5] [] s else evT f 469 135 [oR 549 0, oI x1, oI x2, oI x3, oI x4, oI x5] [] s) (fun _ => rfl) (rg_if h (fun h => ?_) fun h => ?_)
      · refine rg_step 3 (G' := fun f => if x4 = (cI (-1)) then evT f 469 130 [oR 549 0, oI x1, oI x2, oI x3, oI x4, oI x5] [] s else evT f 469 113 [oR 549 0, oI x1, oI x2, oI x3, oI x4, oI x5] [] s) (fun _ => rfl) (rg_if h (fun h => ?_) fun h => ?_)
        · exact (t_fM_doOpen_b130 hk76 hk87) h
        · refine rg_step 4 (G' := fun f => if inb x5 300 = true then evT f 469 120 [oR 549 0, oI x1, oI x2, oI x3, oI x4, oI x5] [vI (s.1 594 (ix x5))] s else none) (fun _ => rfl) (rg_gd h fun h => ?_)
          refine rg_step 4 (G' := fun f => if inb x4 300 = true then evT f 469 127 [oR 549 0, oI x1, oI x2, oI x3, oI x4, oI x5] [vI (s.1 594 (ix x4)), vI (s.1 594 (ix x5))] s else none) (fun _ => rfl) (rg_gd h fun h => ?_)
          refine rg_step 1 (G' := fun f => if (s.1 594 (ix x5)) < (s.1 594 (ix x4)) then evT f 469 130 [oR 549 0, oI x1, oI x2, oI x3, oI x4, oI x5] [] s else evT f 469 135 [oR 549 0, oI x1, oI x2, oI x3, oI x4, oI x5] [] s) (fun _ => rfl) (rg_if h (fun h => ?_) fun h => ?_)
          · exact (t_fM_doOpen_b130 hk76 hk87) h
          · exact (t_fM_doOpen_b135 hk76 hk87) h
      · exact (t_fM_doOpen_b135 hk76 hk87) h
    · refine rg_step 6 (G' := fun f => if inb x1 80 = true then evT f 469 154 [oR 549 0, oI x1, oI x2, oI x3, oI x4, oI x5] [vI (s.1 620 (ix x1)), vI x4, vR 549 0] s else none) (fun _ => rfl) (rg_gd h fun h => ?_)
      refine rg_step 1 (G' := fun f => ev_after (evT f 353 0 [oR 549 0, oI x4, oI (s.1 620 (ix x1))] [] s) (fun q => evT f 469 157 [oR 549 0, oI x1, oI x2, oI x3, oI x4, oI x5] (q.2 ++ []) q.1)) (fun _ => rfl) (rg_bd1 h fun s3 hc h => rg_call (q := cvV s3) (T_fM_comesIn hc) ?_)
      exact rg_step 2 (G' := fun f => evT f 469 76 [oR 549 0, oI x1, oI x2, oI (x3 + cI 1), oI x4, oI x5] [] s3) (fun _ => rfl) (hk76 h)
theorem t_fM_doOpen_h87 {k76 : ev_M → Int32 → Int32 → Int32 → Option (ev_M × Int32)} (hk76 : ∀ {s : ev_M} {x1 : Int32} {x2 : Int32} {x3 : Int32} {j4 : Option ev_V} {j5 : Option ev_V} {q : ev_M × Int32}, k76 s x1 x2 x3 = some q → RR 469 76 [oR 549 0, oI x1, oI x2, oI x3, j4, j5] [] s (cvI q)) {n : Nat} {s : ev_M} {x1 : Int32} {x2 : Int32} {x3 : Int32} {x4 : Int32} {x5 : Int32} {q : ev_M × Int32} (h : fM_doOpen_h87 k76 n s x1 x2 x3 x4 x5 = some q) : RR 469 87 [oR 549 0, oI x1, oI x2, oI x3, oI x4, oI x5] [] s (cvI q) := ti_fM_doOpen_h87 hk76 n s x1 x2 x3 x4 x5 q h
theorem ti_fM_doOpen_h76 : ∀ (n : Nat) (s : ev_M) (x1 : Int32) (x2 : Int32) (x3 : Int32) (j4 : Option ev_V) (j5 : Option ev_V) (q : ev_M × Int32), fM_doOpen_h76 n s x1 x2 x3 = some q → RR 469 76 [oR 549 0, oI x1, oI x2, oI x3, j4, j5] [] s (cvI q) := by
  intro n
  induction n with
  | zero => intro s x1 x2 x3 j4 j5 q h; cases h
  | succ n ih =>
    have hk76 : ∀ {s : ev_M} {x1 : Int32} {x2 : Int32} {x3 : Int32} {j4 : Option ev_V} {j5 : Option ev_V} {q : ev_M × Int32}, fM_doOpen_h76 n s x1 x2 x3 = some q → RR 469 76 [oR 549 0, oI x1, oI x2, oI x3, j4, j5] [] s (cvI q) := fun h => ih _ _ _ _ _ _ _ h
    intro s x1 x2 x3 j4 j5 q h
    refine rg_step 3 (G' := fun f => if x3 < x2 then evT f 469 81 [oR 549 0, oI x1, oI x2, oI x3, nn, nn] [] s else evT f 469 163 [oR 549 0, oI x1, oI x2, oI x3, nn, nn] [] s) (fun _ => rfl) (rg_if h (fun h => ?_) fun h => ?_)
    · exact rg_step 4 (G' := fun f => evT f 469 87 [oR 549 0, oI x1, oI x2, oI x3, oI (cI (-1)), oI (cI 0)] [] s) (fun _ => rfl) ((t_fM_doOpen_h87 hk76) h)
    · exact rg_end 2 (fun _ => rfl) (by cases h; rfl)
theorem t_fM_doOpen_h76 {n : Nat} {s : ev_M} {x1 : Int32} {x2 : Int32} {x3 : Int32} {j4 : Option ev_V} {j5 : Option ev_V} {q : ev_M × Int32} (h : fM_doOpen_h76 n s x1 x2 x3 = some q) : RR 469 76 [oR 549 0, oI x1, oI x2, oI x3, j4, j5] [] s (cvI q) := ti_fM_doOpen_h76 n s x1 x2 x3 j4 j5 q h
theorem T_fM_doOpen {s : ev_M} {a1 : Int32} {q : ev_M × Int32} (h : fM_doOpen s a1 = some q) : RR 469 0 [oR 549 0, oI a1, nn, nn, nn, nn] [] s (cvI q) := by
  refine rg_step 3 (G' := fun f => ev_after (evT f 345 0 [oR 549 0, oI a1] [] s) (fun q => evT f 469 5 [oR 549 0, oI a1, nn, nn, nn, nn] (q.2 ++ []) q.1)) (fun _ => rfl) (rg_bd1 h fun v4 hc h => rg_call (q := cvP s v4) (T_fM_isBag hc) ?_)
  refine rg_step 1 (G' := fun f => if v4 = 0 then evT f 469 8 [oR 549 0, oI a1, nn, nn, nn, nn] [] s else evT f 469 15 [oR 549 0, oI a1, nn, nn, nn, nn] [] s) (fun _ => rfl) (rg_if h (fun h => ?_) fun h => ?_)
  · refine rg_step 3 (G' := fun f => ev_after (evT f 315 0 [oR 549 0, oI (cI (-101))] [] s) (fun q => evT f 469 14 [oR 549 0, oI a1, nn, nn, nn, nn] (q.2 ++ []) q.1)) (fun _ => rfl) (rg_bd2 h fun s5 v6 hc h => rg_call (q := cvI (s5, v6)) (T_fM_no hc) ?_)
    exact rg_end 1 (fun _ => rfl) (by cases h; rfl)
  · refine rg_step 4 (G' := fun f => if inb a1 80 = true then evT f 469 21 [oR 549 0, oI a1, nn, nn, nn, nn] [vI (s.1 618 (ix a1))] s else none) (fun _ => rfl) (rg_gd h fun h => ?_)
    refine rg_step 2 (G' := fun f => if (s.1 618 (ix a1)) = (cI 1) then evT f 469 25 [oR 549 0, oI a1, nn, nn, nn, nn] [] s else evT f 469 40 [oR 549 0, oI a1, nn, nn, nn, nn] [] s) (fun _ => rfl) (rg_if h (fun h => ?_) fun h => ?_)
    · refine rg_step 4 (G' := fun f => if inb a1 80 = true then evT f 469 31 [oR 549 0, oI a1, nn, nn, nn, nn] [vI (s.1 619 (ix a1))] s else none) (fun _ => rfl) (rg_gd h fun h => ?_)
      refine rg_step 4 (G' := fun f => if inb a1 80 = true then evT f 469 37 [oR 549 0, oI a1, nn, nn, nn, nn] [vI (s.1 620 (ix a1)), vI (s.1 619 (ix a1))] s else none) (fun _ => rfl) (rg_gd h fun h => ?_)
      refine rg_step 1 (G' := fun f => if (s.1 619 (ix a1)) = (s.1 620 (ix a1)) then evT f 469 47 [oR 549 0, oI a1, nn, nn, nn, nn] [] s else evT f 469 40 [oR 549 0, oI a1, nn, nn, nn, nn] [] s) (fun _ => rfl) (rg_if h (fun h => ?_) fun h => ?_)
      · refine rg_step 2 (G' := fun f => ev_after (evT f 316 0 [oR 549 0, nn] [] s) (fun q => evT f 469 51 [oR 549 0, oI a1, nn, nn, nn, nn] (q.2 ++ []) q.1)) (fun _ => rfl) (rg_bd1 h fun v7 hc h => rg_call (q := cvP s v7) (T_fM_full hc) ?_)
        refine rg_step 1 (G' := fun f => if v7 = 0 then evT f 469 61 [oR 549 0, oI a1, nn, nn, nn, nn] [] s else evT f 469 54 [oR 549 0, oI a1, nn, nn, nn, nn] [] s) (fun _ => rfl) (rg_if h (fun h => ?_) fun h => ?_)
        · refine rg_step 5 (G' := fun f => if inb a1 80 = true then evT f 469 68 [oR 549 0, oI a1, nn, nn, nn, nn] [] (wI s 618 (ix a1) (cI 3)) else none) (fun _ => rfl) (rg_gd h fun h => rg_ltM h fun s8 h => ?_)
          refine rg_step 3 (G' := fun f => ev_after (evT f 464 0 [oR 549 0, oI a1, nn, nn] [] s8) (fun q => evT f 469 73 [oR 549 0, oI a1, nn, nn, nn, nn] (q.2 ++ []) q.1)) (fun _ => rfl) (rg_bd1 h fun v9 hc h => rg_call (q := cvP s8 v9) (T_fM_inBag hc) ?_)
          exact rg_step 3 (G' := fun f => evT f 469 76 [oR 549 0, oI a1, oI v9, oI (cI 0), nn, nn] [] s8) (fun _ => rfl) ((t_fM_doOpen_h76) h)
        · refine rg_step 3 (G' := fun f => ev_after (evT f 315 0 [oR 549 0, oI (cI (-104))] [] s) (fun q => evT f 469 60 [oR 549 0, oI a1, nn, nn, nn, nn] (q.2 ++ []) q.1)) (fun _ => rfl) (rg_bd2 h fun s10 v11 hc h => rg_call (q := cvI (s10, v11)) (T_fM_no hc) ?_)
          exact rg_end 1 (fun _ => rfl) (by cases h; rfl)
      · exact (t_fM_doOpen_b40) h
    · exact (t_fM_doOpen_b40) h
theorem t_fM_openOrders_b28 {s : ev_M} {k4 : Int32 → Int32 → Option Int32} (hk4 : ∀ {x1 : Int32} {x2 : Int32} {q : Int32}, k4 x1 x2 = some q → RR 474 4 [oR 549 0, oI x1, oI x2] [] s (cvP s q)) {x2 : Int32} {y0 : Int32} {j1 : Option ev_V} {q : Int32} (h : fM_openOrders_b28 s k4 x2 y0 = some q) : RR 474 28 [oR 549 0, j1, oI x2] [vI y0] s (cvP s q) := by
  exact rg_step 3 (G' := fun f => evT f 474 4 [oR 549 0, oI y0, oI (x2 + cI 1)] [] s) (fun _ => rfl) (hk4 h)
theorem ti_fM_openOrders_h4 {s : ev_M} : ∀ (n : Nat) (x1 : Int32) (x2 : Int32) (q : Int32), fM_openOrders_h4 s n x1 x2 = some q → RR 474 4 [oR 549 0, oI x1, oI x2] [] s (cvP s q) := by
  intro n
  induction n with
  | zero => intro x1 x2 q h; cases h
  | succ n ih =>
    have hk4 : ∀ {x1 : Int32} {x2 : Int32} {q : Int32}, fM_openOrders_h4 s n x1 x2 = some q → RR 474 4 [oR 549 0, oI x1, oI x2] [] s (cvP s q) := fun h => ih _ _ _ h
    intro x1 x2 q h
    refine rg_step 4 (G' := fun f => if x2 < (s.1 549 119) then evT f 474 12 [oR 549 0, oI x1, oI x2] [] s else evT f 474 35 [oR 549 0, oI x1, oI x2] [] s) (fun _ => rfl) (rg_if h (fun h => ?_) fun h => ?_)
    · refine rg_step 4 (G' := fun f => if inb x2 60 = true then evT f 474 18 [oR 549 0, oI x1, oI x2] [vI (s.1 632 (ix x2))] s else none) (fun _ => rfl) (rg_gd h fun h => ?_)
      refine rg_step 1 (G' := fun f => if (s.1 632 (ix x2)) = 0 then evT f 474 21 [oR 549 0, oI x1, oI x2] [] s else evT f 474 27 [oR 549 0, oI x1, oI x2] [] s) (fun _ => rfl) (rg_if h (fun h => ?_) fun h => ?_)
      · exact rg_step 4 (G' := fun f => evT f 474 28 [oR 549 0, oI x1, oI x2] [vI (x1 + (cI 1))] s) (fun _ => rfl) ((t_fM_openOrders_b28 hk4) h)
      · exact rg_step 1 (G' := fun f => evT f 474 28 [oR 549 0, oI x1, oI x2] [vI x1] s) (fun _ => rfl) ((t_fM_openOrders_b28 hk4) h)
    · exact rg_end 2 (fun _ => rfl) (by cases h; rfl)
theorem t_fM_openOrders_h4 {s : ev_M} {n : Nat} {x1 : Int32} {x2 : Int32} {q : Int32} (h : fM_openOrders_h4 s n x1 x2 = some q) : RR 474 4 [oR 549 0, oI x1, oI x2] [] s (cvP s q) := ti_fM_openOrders_h4 n x1 x2 q h
theorem T_fM_openOrders {s : ev_M} {q : Int32} (h : fM_openOrders s = some q) : RR 474 0 [oR 549 0, nn, nn] [] s (cvP s q) := by
  exact rg_step 4 (G' := fun f => evT f 474 4 [oR 549 0, oI (cI 0), oI (cI 0)] [] s) (fun _ => rfl) ((t_fM_openOrders_h4) h)
theorem T_fM_isLedgerFull {s : ev_M} {a1 : Int32} {a2 : Int32} {q : Int32} (h : fM_isLedgerFull s a1 a2 = some q) : RR 475 0 [oR 549 0, oI a1, oI a2] [] s (cvP s q) := by
  refine rg_step 8 (G' := fun f => if (((s.1 549 114) + a1) + a2) ≤ (cI 2000) then evT f 475 18 [oR 549 0, oI a1, oI a2] [] s else evT f 475 14 [oR 549 0, oI a1, oI a2] [] s) (fun _ => rfl) (rg_if h (fun h => ?_) fun h => ?_)
  · exact rg_end 2 (fun _ => rfl) (by cases h; rfl)
  · exact rg_end 3 (fun _ => rfl) (by cases h; rfl)
theorem T_fM_pay {s : ev_M} {a1 : Int32} {a2 : Int32} {a3 : Int32} {a4 : Int32} {q : ev_M} (h : fM_pay s a1 a2 a3 a4 = some q) : RR 476 0 [oR 549 0, oI a1, oI a2, oI a3, oI a4] [] s (cvV q) := by
  refine rg_step 2 (G' := fun f => if a3 ≤ 0 then evT f 476 55 [oR 549 0, oI a1, oI a2, oI a3, oI a4] [] s else evT f 476 4 [oR 549 0, oI a1, oI a2, oI a3, oI a4] [] s) (fun _ => rfl) (rg_if h (fun h => ?_) fun h => ?_)
  · exact rg_end 1 (fun _ => rfl) (by cases h; rfl)
  · refine rg_step 6 (G' := fun f => if inb (s.1 549 114) 2000 = true then evT f 476 14 [oR 549 0, oI a1, oI a2, oI a3, oI a4] [] (wI s 628 (ix (s.1 549 114)) a1) else none) (fun _ => rfl) (rg_gd h fun h => rg_ltM h fun s1 h => ?_)
    refine rg_step 6 (G' := fun f => if inb (s1.1 549 114) 2000 = true then evT f 476 24 [oR 549 0, oI a1, oI a2, oI a3, oI a4] [] (wI s1 629 (ix (s1.1 549 114)) a2) else none) (fun _ => rfl) (rg_gd h fun h => rg_ltM h fun s2 h => ?_)
    refine rg_step 6 (G' := fun f => if inb (s2.1 549 114) 2000 = true then evT f 476 34 [oR 549 0, oI a1, oI a2, oI a3, oI a4] [] (wI s2 630 (ix (s2.1 549 114)) a3) else none) (fun _ => rfl) (rg_gd h fun h => rg_ltM h fun s3 h => ?_)
    refine rg_step 6 (G' := fun f => if inb (s3.1 549 114) 2000 = true then evT f 476 45 [oR 549 0, oI a1, oI a2, oI a3, oI a4] [] (wI s3 631 (ix (s3.1 549 114)) a4) else none) (fun _ => rfl) (rg_gd h fun h => rg_ltM h fun s4 h => ?_)
    refine rg_step 6 (G' := fun f => evT f 476 55 [oR 549 0, oI a1, oI a2, oI a3, oI a4] [] (wI s4 549 114 ((s4.1 549 114) + (cI 1)))) (fun _ => rfl) (rg_ltM h fun s5 h => ?_)
    exact rg_end 1 (fun _ => rfl) (by cases h; rfl)
theorem t_fM_priceOf_b102 {s : ev_M} {k12 : Int32 → Int32 → Int32 → Int32 → Option Int32} (hk12 : ∀ {x1 : Int32} {x2 : Int32} {x3 : Int32} {x4 : Int32} {q : Int32}, k12 x1 x2 x3 x4 = some q → RR 416 12 [oR 549 0, oI x1, oI x2, oI x3, oI x4] [] s (cvP s q)) {x1 : Int32} {x2 : Int32} {x4 : Int32} {y0 : Int32} {j3 : Option ev_V} {q : Int32} (h : fM_priceOf_b102 s k12 x1 x2 x4 y0 = some q) : RR 416 102 [oR 549 0, oI x1, oI x2, j3, oI x4] [vI y0] s (cvP s q) := by
  exact rg_step 3 (G' := fun f => evT f 416 12 [oR 549 0, oI x1, oI x2, oI y0, oI (x4 + cI (-1))] [] s) (fun f => Eq.trans (b := evT (f + 1 + 1) 416 103 [oR 549 0, oI x1, oI x2, oI y0, oI x4] [] s) rfl ((ev_inc (f := f + 1) (M := 416) (pc := 103) (i := 4) (n := 3) (c := (-1)) (r := 0) (dl := []) (L := [oR 549 0, oI x1, oI x2, oI y0, oI x4]) (L' := [oR 549 0, oI x1, oI x2, oI y0, oI (x4 + cI (-1))]) (s := s) (y := x4) rfl rfl rfl).trans rfl)) (hk12 h)
theorem t_fM_priceOf_b101 {s : ev_M} {k12 : Int32 → Int32 → Int32 → Int32 → Option Int32} (hk12 : ∀ {x1 : Int32} {x2 : Int32} {x3 : Int32} {x4 : Int32} {q : Int32}, k12 x1 x2 x3 x4 = some q → RR 416 12 [oR 549 0, oI x1, oI x2, oI x3, oI x4] [] s (cvP s q)) {x1 : Int32} {x2 : Int32} {x3 : Int32} {x4 : Int32} {q : Int32} (h : fM_priceOf_b101 s k12 x1 x2 x3 x4 = some q) : RR 416 101 [oR 549 0, oI x1, oI x2, oI x3, oI x4] [] s (cvP s q) := by
  exact rg_step 1 (G' := fun f => evT f 416 102 [oR 549 0, oI x1, oI x2, oI x3, oI x4] [vI x3] s) (fun _ => rfl) ((t_fM_priceOf_b102 hk12) h)
theorem t_fM_priceOf_b60 {s : ev_M} {k12 : Int32 → Int32 → Int32 → Int32 → Option Int32} (hk12 : ∀ {x1 : Int32} {x2 : Int32} {x3 : Int32} {x4 : Int32} {q : Int32}, k12 x1 x2 x3 x4 = some q → RR 416 12 [oR 549 0, oI x1, oI x2, oI x3, oI x4] [] s (cvP s q)) {x1 : Int32} {x3 : Int32} {x4 : Int32} {y0 : Int32} {j2 : Option ev_V} {q : Int32} (h : fM_priceOf_b60 s k12 x1 x3 x4 y0 = some q) : RR 416 60 [oR 549 0, oI x1, j2, oI x3, oI x4] [vI y0] s (cvP s q) := by
  refine rg_step 5 (G' := fun f => if inb x4 40 = true then evT f 416 68 [oR 549 0, oI x1, oI y0, oI x3, oI x4] [vI (s.1 637 (ix x4))] s else none) (fun _ => rfl) (rg_gd h fun h => ?_)
  refine rg_step 2 (G' := fun f => if (s.1 637 (ix x4)) = (cI 4) then evT f 416 72 [oR 549 0, oI x1, oI y0, oI x3, oI x4] [] s else evT f 416 101 [oR 549 0, oI x1, oI y0, oI x3, oI x4] [] s) (fun _ => rfl) (rg_if h (fun h => ?_) fun h => ?_)
  · refine rg_step 4 (G' := fun f => if inb x1 300 = true then evT f 416 78 [oR 549 0, oI x1, oI y0, oI x3, oI x4] [vI (s.1 586 (ix x1))] s else none) (fun _ => rfl) (rg_gd h fun h => ?_)
    refine rg_step 4 (G' := fun f => if inb x4 40 = true then evT f 416 85 [oR 549 0, oI x1, oI y0, oI x3, oI x4] [vI (s.1 638 (ix x4)), vI (s.1 586 (ix x1))] s else none) (fun _ => rfl) (rg_gd h fun h => ?_)
    refine rg_step 2 (G' := fun f => if ((s.1 586 (ix x1)) &&& (s.1 638 (ix x4))) ≤ 0 then evT f 416 101 [oR 549 0, oI x1, oI y0, oI x3, oI x4] [] s else evT f 416 89 [oR 549 0, oI x1, oI y0, oI x3, oI x4] [] s) (fun _ => rfl) (rg_if h (fun h => ?_) fun h => ?_)
    · exact (t_fM_priceOf_b101 hk12) h
    · refine rg_step 5 (G' := fun f => if inb x4 40 = true then evT f 416 97 [oR 549 0, oI x1, oI y0, oI x3, oI x4] [vI (s.1 639 (ix x4)), vI x3] s else none) (fun _ => rfl) (rg_gd h fun h => ?_)
      exact rg_step 2 (G' := fun f => evT f 416 102 [oR 549 0, oI x1, oI y0, oI x3, oI x4] [vI (x3 + (s.1 639 (ix x4)))] s) (fun _ => rfl) ((t_fM_priceOf_b102 hk12) h)
  · exact (t_fM_priceOf_b101 hk12) h
theorem t_fM_priceOf_b59 {s : ev_M} {k12 : Int32 → Int32 → Int32 → Int32 → Option Int32} (hk12 : ∀ {x1 : Int32} {x2 : Int32} {x3 : Int32} {x4 : Int32} {q : Int32}, k12 x1 x2 x3 x4 = some q → RR 416 12 [oR 549 0, oI x1, oI x2, oI x3, oI x4] [] s (cvP s q)) {x1 : Int32} {x2 : Int32} {x3 : Int32} {x4 : Int32} {q : Int32} (h : fM_priceOf_b59 s k12 x1 x2 x3 x4 = some q) : RR 416 59 [oR 549 0, oI x1, oI x2, oI x3, oI x4] [] s (cvP s q) := by
  exact rg_step 1 (G' := fun f => evT f 416 60 [oR 549 0, oI x1, oI x2, oI x3, oI x4] [vI x2] s) (fun _ => rfl) ((t_fM_priceOf_b60 hk12) h)
theorem ti_fM_priceOf_h12 {s : ev_M} : ∀ (n : Nat) (x1 : Int32) (x2 : Int32) (x3 : Int32) (x4 : Int32) (q : Int32), fM_priceOf_h12 s n x1 x2 x3 x4 = some q → RR 416 12 [oR 549 0, oI x1, oI x2, oI x3, oI x4] [] s (cvP s q) := by
  intro n
  induction n with
  | zero => intro x1 x2 x3 x4 q h; cases h
  | succ n ih =>
    have hk12 : ∀ {x1 : Int32} {x2 : Int32} {x3 : Int32} {x4 : Int32} {q : Int32}, fM_priceOf_h12 s n x1 x2 x3 x4 = some q → RR 416 12 [oR 549 0, oI x1, oI x2, oI x3, oI x4] [] s (cvP s q) := fun h => ih _ _ _ _ _ h
    intro x1 x2 x3 x4 q h
    refine rg_step 2 (G' := fun f => if x4 < 0 then evT f 416 109 [oR 549 0, oI x1, oI x2, oI x3, oI x4] [] s else evT f 416 17 [oR 549 0, oI x1, oI x2, oI x3, oI x4] [] s) (fun _ => rfl) (rg_if h (fun h => ?_) fun h => ?_)
    · refine rg_step 3 (G' := fun f => if x2 = (cI (-1)) then evT f 416 114 [oR 549 0, oI x1, oI x2, oI x3, oI x4] [] s else evT f 416 118 [oR 549 0, oI x1, oI x2, oI x3, oI x4] [] s) (fun _ => rfl) (rg_if h (fun h => ?_) fun h => ?_)
      · exact rg_end 3 (fun _ => rfl) (by cases h; rfl)
      · exact rg_end 4 (fun _ => rfl) (by cases h; rfl)
    · refine rg_step 4 (G' := fun f => if inb x4 40 = true then evT f 416 24 [oR 549 0, oI x1, oI x2, oI x3, oI x4] [vI (s.1 637 (ix x4))] s else none) (fun _ => rfl) (rg_gd h fun h => ?_)
      refine rg_step 4 (G' := fun f => if inb x1 300 = true then evT f 416 30 [oR 549 0, oI x1, oI x2, oI x3, oI x4] [vI (s.1 584 (ix x1)), vI (s.1 637 (ix x4))] s else none) (fun _ => rfl) (rg_gd h fun h => ?_)
      refine rg_step 1 (G' := fun f => if (s.1 637 (ix x4)) = (s.1 584 (ix x1)) then evT f 416 33 [oR 549 0, oI x1, oI x2, oI x3, oI x4] [] s else evT f 416 59 [oR 549 0, oI x1, oI x2, oI x3, oI x4] [] s) (fun _ => rfl) (rg_if h (fun h => ?_) fun h => ?_)
      · refine rg_step 4 (G' := fun f => if inb x1 300 = true then evT f 416 39 [oR 549 0, oI x1, oI x2, oI x3, oI x4] [vI (s.1 585 (ix x1))] s else none) (fun _ => rfl) (rg_gd h fun h => ?_)
        refine rg_step 4 (G' := fun f => if inb x4 40 = true then evT f 416 46 [oR 549 0, oI x1, oI x2, oI x3, oI x4] [vI (s.1 638 (ix x4)), vI (s.1 585 (ix x1))] s else none) (fun _ => rfl) (rg_gd h fun h => ?_)
        refine rg_step 1 (G' := fun f => if (s.1 585 (ix x1)) ≤ (s.1 638 (ix x4)) then evT f 416 49 [oR 549 0, oI x1, oI x2, oI x3, oI x4] [] s else evT f 416 59 [oR 549 0, oI x1, oI x2, oI x3, oI x4] [] s) (fun _ => rfl) (rg_if h (fun h => ?_) fun h => ?_)
        · refine rg_step 4 (G' := fun f => if inb x4 40 = true then evT f 416 56 [oR 549 0, oI x1, oI x2, oI x3, oI x4] [vI (s.1 639 (ix x4))] s else none) (fun _ => rfl) (rg_gd h fun h => ?_)
          exact rg_step 1 (G' := fun f => evT f 416 60 [oR 549 0, oI x1, oI x2, oI x3, oI x4] [vI (s.1 639 (ix x4))] s) (fun _ => rfl) ((t_fM_priceOf_b60 hk12) h)
        · exact (t_fM_priceOf_b59 hk12) h
      · exact (t_fM_priceOf_b59 hk12) h
theorem t_fM_priceOf_h12 {s : ev_M} {n : Nat} {x1 : Int32} {x2 : Int32} {x3 : Int32} {x4 : Int32} {q : Int32} (h : fM_priceOf_h12 s n x1 x2 x3 x4 = some q) : RR 416 12 [oR 549 0, oI x1, oI x2, oI x3, oI x4] [] s (cvP s q) := ti_fM_priceOf_h12 n x1 x2 x3 x4 q h
theorem T_fM_priceOf {s : ev_M} {a1 : Int32} {q : Int32} (h : fM_priceOf s a1 = some q) : RR 416 0 [oR 549 0, oI a1, nn, nn, nn] [] s (cvP s q) := by
  refine rg_step 9 (G' := fun f => evT f 416 12 [oR 549 0, oI a1, oI (cI (-1)), oI (cI 0), oI ((s.1 549 125) - (cI 1))] [] s) (fun _ => rfl) (rg_ltI (P := fun v1 => RG (fun f => evT f 416 12 [oR 549 0, oI a1, oI (cI (-1)), oI (cI 0), oI v1] [] s) (cvP s q)) h fun v1 h => ?_)
  exact (t_fM_priceOf_h12) h
theorem t_fM_priceDue_b19 {s : ev_M} {y0 : Int32} {j0 : Option ev_V} {j1 : Option ev_V} {j2 : Option ev_V} {q : Int32} (h : fM_priceDue_b19 s y0 = some q) : RR 417 19 [j0, j1, j2] [vI y0] s (cvP s q) := by
  refine rg_step 4 (G' := fun f => if y0 = (cI (-1)) then evT f 417 25 [nn, nn, oI y0] [] s else evT f 417 29 [nn, nn, oI y0] [] s) (fun _ => rfl) (rg_if h (fun h => ?_) fun h => ?_)
  · exact rg_end 3 (fun _ => rfl) (by cases h; rfl)
  · exact rg_end 4 (fun _ => rfl) (by cases h; rfl)
theorem T_fM_priceDue {s : ev_M} {a1 : Int32} {q : Int32} (h : fM_priceDue s a1 = some q) : RR 417 0 [oR 549 0, oI a1, nn] [] s (cvP s q) := by
  refine rg_step 4 (G' := fun f => if inb a1 300 = true then evT f 417 6 [oR 549 0, oI a1, nn] [vI (s.1 600 (ix a1))] s else none) (fun _ => rfl) (rg_gd h fun h => ?_)
  refine rg_step 2 (G' := fun f => if (s.1 600 (ix a1)) = (cI (-1)) then evT f 417 10 [oR 549 0, oI a1, nn] [] s else evT f 417 18 [oR 549 0, oI a1, nn] [] s) (fun _ => rfl) (rg_if h (fun h => ?_) fun h => ?_)
  · refine rg_step 3 (G' := fun f => ev_after (evT f 416 0 [oR 549 0, oI a1, nn, nn, nn] [] s) (fun q => evT f 417 15 [oR 549 0, oI a1, nn] (q.2 ++ []) q.1)) (fun _ => rfl) (rg_bd1 h fun v1 hc h => rg_call (q := cvP s v1) (T_fM_priceOf hc) ?_)
    exact rg_step 1 (G' := fun f => evT f 417 19 [oR 549 0, oI a1, nn] [vI v1] s) (fun _ => rfl) ((t_fM_priceDue_b19) h)
  · exact rg_step 1 (G' := fun f => evT f 417 19 [oR 549 0, oI a1, nn] [vI (cI (-1))] s) (fun _ => rfl) ((t_fM_priceDue_b19) h)
theorem T_fM_centsDue {s : ev_M} {a1 : Int32} {q : Int32} (h : fM_centsDue s a1 = some q) : RR 418 0 [oR 549 0, oI a1] [] s (cvP s q) := by
  refine rg_step 4 (G' := fun f => if inb a1 300 = true then evT f 418 6 [oR 549 0, oI a1] [vI (s.1 599 (ix a1))] s else none) (fun _ => rfl) (rg_gd h fun h => ?_)
  refine rg_step 1 (G' := fun f => if (s.1 599 (ix a1)) = 0 then evT f 418 13 [oR 549 0, oI a1] [] s else evT f 418 9 [oR 549 0, oI a1] [] s) (fun _ => rfl) (rg_if h (fun h => ?_) fun h => ?_)
  · refine rg_step 4 (G' := fun f => if inb a1 300 = true then evT f 418 19 [oR 549 0, oI a1] [vI (s.1 589 (ix a1))] s else none) (fun _ => rfl) (rg_gd h fun h => ?_)
    exact rg_end 1 (fun _ => rfl) (by cases h; rfl)
  · exact rg_end 3 (fun _ => rfl) (by cases h; rfl)
theorem t_fM_handOver_b48 {s : ev_M} {j1 : Option ev_V} {j2 : Option ev_V} {j3 : Option ev_V} {j4 : Option ev_V} {j5 : Option ev_V} {j6 : Option ev_V} {j7 : Option ev_V} {q : ev_M × Int32} (h : fM_handOver_b48 s = some q) : RR 478 48 [oR 549 0, j1, j2, j3, j4, j5, j6, j7] [] s (cvI q) := by
  refine rg_step 3 (G' := fun f => ev_after (evT f 315 0 [oR 549 0, oI (cI (-102))] [] s) (fun q => evT f 478 54 [oR 549 0, nn, nn, nn, nn, nn, nn, nn] (q.2 ++ []) q.1)) (fun _ => rfl) (rg_bd2 h fun s1 v2 hc h => rg_call (q := cvI (s1, v2)) (T_fM_no hc) ?_)
  exact rg_end 1 (fun _ => rfl) (by cases h; rfl)
theorem t_fM_handOver_b94 {s : ev_M} {j1 : Option ev_V} {j2 : Option ev_V} {j3 : Option ev_V} {j4 : Option ev_V} {j5 : Option ev_V} {j6 : Option ev_V} {j7 : Option ev_V} {q : ev_M × Int32} (h : fM_handOver_b94 s = some q) : RR 478 94 [oR 549 0, j1, j2, j3, j4, j5, j6, j7] [] s (cvI q) := by
  refine rg_step 3 (G' := fun f => ev_after (evT f 315 0 [oR 549 0, oI (cI (-103))] [] s) (fun q => evT f 478 100 [oR 549 0, nn, nn, nn, nn, nn, nn, nn] (q.2 ++ []) q.1)) (fun _ => rfl) (rg_bd2 h fun s3 v4 hc h => rg_call (q := cvI (s3, v4)) (T_fM_no hc) ?_)
  exact rg_end 1 (fun _ => rfl) (by cases h; rfl)
theorem t_fM_handOver_b230 {s : ev_M} {j1 : Option ev_V} {j2 : Option ev_V} {j3 : Option ev_V} {j4 : Option ev_V} {j5 : Option ev_V} {j6 : Option ev_V} {j7 : Option ev_V} {q : ev_M × Int32} (h : fM_handOver_b230 s = some q) : RR 478 230 [oR 549 0, j1, j2, j3, j4, j5, j6, j7] [] s (cvI q) := by
  refine rg_step 3 (G' := fun f => ev_after (evT f 315 0 [oR 549 0, oI (cI (-104))] [] s) (fun q => evT f 478 236 [oR 549 0, nn, nn, nn, nn, nn, nn, nn] (q.2 ++ []) q.1)) (fun _ => rfl) (rg_bd2 h fun s5 v6 hc h => rg_call (q := cvI (s5, v6)) (T_fM_no hc) ?_)
  exact rg_end 1 (fun _ => rfl) (by cases h; rfl)
theorem t_fM_handOver_b212 {s : ev_M} {x1 : Int32} {x6 : Int32} {x7 : Int32} {y1 : Int32} {y2 : Int32} {j2 : Option ev_V} {j3 : Option ev_V} {j4 : Option ev_V} {j5 : Option ev_V} {q : ev_M × Int32} (h : fM_handOver_b212 s x1 x6 x7 y1 y2 = some q) : RR 478 212 [oR 549 0, oI x1, j2, j3, j4, j5, oI x6, oI x7] [vI y2, vI y1, vR 549 0] s (cvI q) := by
  refine rg_step 3 (G' := fun f => ev_after (evT f 474 0 [oR 549 0, nn, nn] [] s) (fun q => evT f 478 217 [oR 549 0, oI x1, nn, nn, nn, nn, oI x6, oI x7] (q.2 ++ [vI (y1 + y2), vR 549 0]) q.1)) (fun _ => rfl) (rg_bd1 h fun v7 hc h => rg_call (q := cvP s v7) (T_fM_openOrders hc) ?_)
  refine rg_step 1 (G' := fun f => ev_after (evT f 475 0 [oR 549 0, oI (y1 + y2), oI v7] [] s) (fun q => evT f 478 220 [oR 549 0, oI x1, nn, nn, nn, nn, oI x6, oI x7] (q.2 ++ []) q.1)) (fun _ => rfl) (rg_bd1 h fun v8 hc h => rg_call (q := cvP s v8) (T_fM_isLedgerFull hc) ?_)
  refine rg_step 1 (G' := fun f => if v8 = 0 then evT f 478 223 [oR 549 0, oI x1, nn, nn, nn, nn, oI x6, oI x7] [] s else evT f 478 230 [oR 549 0, oI x1, nn, nn, nn, nn, oI x6, oI x7] [] s) (fun _ => rfl) (rg_if h (fun h => ?_) fun h => ?_)
  · refine rg_step 2 (G' := fun f => ev_after (evT f 316 0 [oR 549 0, nn] [] s) (fun q => evT f 478 227 [oR 549 0, oI x1, nn, nn, nn, nn, oI x6, oI x7] (q.2 ++ []) q.1)) (fun _ => rfl) (rg_bd1 h fun v9 hc h => rg_call (q := cvP s v9) (T_fM_full hc) ?_)
    refine rg_step 1 (G' := fun f => if v9 = 0 then evT f 478 237 [oR 549 0, oI x1, nn, nn, nn, nn, oI x6, oI x7] [] s else evT f 478 230 [oR 549 0, oI x1, nn, nn, nn, nn, oI x6, oI x7] [] s) (fun _ => rfl) (rg_if h (fun h => ?_) fun h => ?_)
    · refine rg_step 3 (G' := fun f => ev_after (evT f 352 0 [oR 549 0, oI x1] [] s) (fun q => evT f 478 242 [oR 549 0, oI x1, nn, nn, nn, nn, oI x6, oI x7] (q.2 ++ []) q.1)) (fun _ => rfl) (rg_bd1 h fun s10 hc h => rg_call (q := cvV s10) (T_fM_leaves hc) ?_)
      refine rg_step 4 (G' := fun f => ev_after (evT f 351 0 [oR 549 0, oI x1, oI (cI 5)] [] s10) (fun q => evT f 478 248 [oR 549 0, oI x1, nn, nn, nn, nn, oI x6, oI x7] (q.2 ++ []) q.1)) (fun _ => rfl) (rg_bd1 h fun s11 hc h => rg_call (q := cvV s11) (T_fM_comes hc) ?_)
      refine rg_step 6 (G' := fun f => ev_after (evT f 476 0 [oR 549 0, oI (cI 1), oI (cI 0), oI x6, oI x1] [] s11) (fun q => evT f 478 257 [oR 549 0, oI x1, nn, nn, nn, nn, oI x6, oI x7] (q.2 ++ []) q.1)) (fun _ => rfl) (rg_bd1 h fun s12 hc h => rg_call (q := cvV s12) (T_fM_pay hc) ?_)
      refine rg_step 6 (G' := fun f => if inb x1 300 = true then evT f 478 265 [oR 549 0, oI x1, nn, nn, nn, nn, oI x6, oI x7] [vI (s12.1 587 (ix x1)), vI (cI 1), vR 549 0] s12 else none) (fun _ => rfl) (rg_gd h fun h => ?_)
      refine rg_step 3 (G' := fun f => ev_after (evT f 476 0 [oR 549 0, oI (cI 1), oI (s12.1 587 (ix x1)), oI x7, oI x1] [] s12) (fun q => evT f 478 271 [oR 549 0, oI x1, nn, nn, nn, nn, oI x6, oI x7] (q.2 ++ []) q.1)) (fun _ => rfl) (rg_bd1 h fun s13 hc h => rg_call (q := cvV s13) (T_fM_pay hc) ?_)
      exact rg_end 2 (fun _ => rfl) (by cases h; rfl)
    · exact (t_fM_handOver_b230) h
  · exact (t_fM_handOver_b230) h
theorem t_fM_handOver_b202 {s : ev_M} {x1 : Int32} {x6 : Int32} {x7 : Int32} {y1 : Int32} {j2 : Option ev_V} {j3 : Option ev_V} {j4 : Option ev_V} {j5 : Option ev_V} {q : ev_M × Int32} (h : fM_handOver_b202 s x1 x6 x7 y1 = some q) : RR 478 202 [oR 549 0, oI x1, j2, j3, j4, j5, oI x6, oI x7] [vI y1, vR 549 0] s (cvI q) := by
  refine rg_step 2 (G' := fun f => if x7 ≤ 0 then evT f 478 211 [oR 549 0, oI x1, nn, nn, nn, nn, oI x6, oI x7] [vI y1, vR 549 0] s else evT f 478 207 [oR 549 0, oI x1, nn, nn, nn, nn, oI x6, oI x7] [vI y1, vR 549 0] s) (fun _ => rfl) (rg_if h (fun h => ?_) fun h => ?_)
  · exact rg_step 1 (G' := fun f => evT f 478 212 [oR 549 0, oI x1, nn, nn, nn, nn, oI x6, oI x7] [vI (cI 0), vI y1, vR 549 0] s) (fun _ => rfl) ((t_fM_handOver_b212) h)
  · exact rg_step 2 (G' := fun f => evT f 478 212 [oR 549 0, oI x1, nn, nn, nn, nn, oI x6, oI x7] [vI (cI 1), vI y1, vR 549 0] s) (fun _ => rfl) ((t_fM_handOver_b212) h)
theorem t_fM_handOver_b160 {s : ev_M} {x1 : Int32} {x4 : Int32} {j2 : Option ev_V} {j3 : Option ev_V} {j5 : Option ev_V} {j6 : Option ev_V} {j7 : Option ev_V} {q : ev_M × Int32} (h : fM_handOver_b160 s x1 x4 = some q) : RR 478 160 [oR 549 0, oI x1, j2, j3, oI x4, j5, j6, j7] [] s (cvI q) := by
  refine rg_step 3 (G' := fun f => ev_after (evT f 417 0 [oR 549 0, oI x1, nn] [] s) (fun q => evT f 478 165 [oR 549 0, oI x1, nn, nn, oI x4, nn, nn, nn] (q.2 ++ []) q.1)) (fun _ => rfl) (rg_bd1 h fun v14 hc h => rg_call (q := cvP s v14) (T_fM_priceDue hc) ?_)
  refine rg_step 4 (G' := fun f => ev_after (evT f 418 0 [oR 549 0, oI x1] [] s) (fun q => evT f 478 172 [oR 549 0, oI x1, nn, nn, oI x4, nn, oI v14, nn] (q.2 ++ []) q.1)) (fun _ => rfl) (rg_bd1 h fun v15 hc h => rg_call (q := cvP s v15) (T_fM_centsDue hc) ?_)
  refine rg_step 6 (G' := fun f => if x4 = (v14 + v15) then evT f 478 191 [oR 549 0, oI x1, nn, nn, oI x4, nn, oI v14, oI v15] [] s else evT f 478 184 [oR 549 0, oI x1, nn, nn, oI x4, nn, oI v14, oI v15] [] s) (fun _ => rfl) (rg_if h (fun h => ?_) fun h => ?_)
  · refine rg_step 3 (G' := fun f => if v14 ≤ 0 then evT f 478 201 [oR 549 0, oI x1, nn, nn, oI x4, nn, oI v14, oI v15] [vR 549 0] s else evT f 478 197 [oR 549 0, oI x1, nn, nn, oI x4, nn, oI v14, oI v15] [vR 549 0] s) (fun _ => rfl) (rg_if h (fun h => ?_) fun h => ?_)
    · exact rg_step 1 (G' := fun f => evT f 478 202 [oR 549 0, oI x1, nn, nn, oI x4, nn, oI v14, oI v15] [vI (cI 0), vR 549 0] s) (fun _ => rfl) ((t_fM_handOver_b202) h)
    · exact rg_step 2 (G' := fun f => evT f 478 202 [oR 549 0, oI x1, nn, nn, oI x4, nn, oI v14, oI v15] [vI (cI 1), vR 549 0] s) (fun _ => rfl) ((t_fM_handOver_b202) h)
  · refine rg_step 3 (G' := fun f => ev_after (evT f 315 0 [oR 549 0, oI (cI (-114))] [] s) (fun q => evT f 478 190 [oR 549 0, oI x1, nn, nn, oI x4, nn, oI v14, oI v15] (q.2 ++ []) q.1)) (fun _ => rfl) (rg_bd2 h fun s16 v17 hc h => rg_call (q := cvI (s16, v17)) (T_fM_no hc) ?_)
    exact rg_end 1 (fun _ => rfl) (by cases h; rfl)
theorem t_fM_handOver_b138 {s : ev_M} {x1 : Int32} {x3 : Int32} {x4 : Int32} {j2 : Option ev_V} {j5 : Option ev_V} {j6 : Option ev_V} {j7 : Option ev_V} {q : ev_M × Int32} (h : fM_handOver_b138 s x1 x3 x4 = some q) : RR 478 138 [oR 549 0, oI x1, j2, oI x3, oI x4, j5, j6, j7] [] s (cvI q) := by
  refine rg_step 4 (G' := fun f => if inb x1 300 = true then evT f 478 144 [oR 549 0, oI x1, nn, oI x3, oI x4, nn, nn, nn] [vI (s.1 586 (ix x1))] s else none) (fun _ => rfl) (rg_gd h fun h => ?_)
  refine rg_step 3 (G' := fun f => if ((s.1 586 (ix x1)) &&& (cI 1)) ≤ 0 then evT f 478 160 [oR 549 0, oI x1, nn, oI x3, oI x4, nn, nn, nn] [] s else evT f 478 149 [oR 549 0, oI x1, nn, oI x3, oI x4, nn, nn, nn] [] s) (fun _ => rfl) (rg_if h (fun h => ?_) fun h => ?_)
  · exact (t_fM_handOver_b160) h
  · refine rg_step 2 (G' := fun f => if x3 = 0 then evT f 478 153 [oR 549 0, oI x1, nn, oI x3, oI x4, nn, nn, nn] [] s else evT f 478 160 [oR 549 0, oI x1, nn, oI x3, oI x4, nn, nn, nn] [] s) (fun _ => rfl) (rg_if h (fun h => ?_) fun h => ?_)
    · refine rg_step 3 (G' := fun f => ev_after (evT f 315 0 [oR 549 0, oI (cI (-113))] [] s) (fun q => evT f 478 159 [oR 549 0, oI x1, nn, oI x3, oI x4, nn, nn, nn] (q.2 ++ []) q.1)) (fun _ => rfl) (rg_bd2 h fun s18 v19 hc h => rg_call (q := cvI (s18, v19)) (T_fM_no hc) ?_)
      exact rg_end 1 (fun _ => rfl) (by cases h; rfl)
    · exact (t_fM_handOver_b160) h
theorem t_fM_handOver_b101 {s : ev_M} {x1 : Int32} {x2 : Int32} {x3 : Int32} {x4 : Int32} {j5 : Option ev_V} {j6 : Option ev_V} {j7 : Option ev_V} {q : ev_M × Int32} (h : fM_handOver_b101 s x1 x2 x3 x4 = some q) : RR 478 101 [oR 549 0, oI x1, oI x2, oI x3, oI x4, j5, j6, j7] [] s (cvI q) := by
  refine rg_step 4 (G' := fun f => if inb x1 300 = true then evT f 478 107 [oR 549 0, oI x1, oI x2, oI x3, oI x4, nn, nn, nn] [vI (s.1 586 (ix x1))] s else none) (fun _ => rfl) (rg_gd h fun h => ?_)
  refine rg_step 3 (G' := fun f => if ((s.1 586 (ix x1)) &&& (cI 4)) ≤ 0 then evT f 478 138 [oR 549 0, oI x1, oI x2, oI x3, oI x4, nn, nn, nn] [] s else evT f 478 112 [oR 549 0, oI x1, oI x2, oI x3, oI x4, nn, nn, nn] [] s) (fun _ => rfl) (rg_if h (fun h => ?_) fun h => ?_)
  · exact (t_fM_handOver_b138) h
  · refine rg_step 4 (G' := fun f => if inb x1 300 = true then evT f 478 118 [oR 549 0, oI x1, oI x2, oI x3, oI x4, nn, nn, nn] [vI (s.1 599 (ix x1))] s else none) (fun _ => rfl) (rg_gd h fun h => ?_)
    refine rg_step 1 (G' := fun f => if (s.1 599 (ix x1)) = 0 then evT f 478 121 [oR 549 0, oI x1, oI x2, oI x3, oI x4, nn, nn, nn] [] s else evT f 478 138 [oR 549 0, oI x1, oI x2, oI x3, oI x4, nn, nn, nn] [] s) (fun _ => rfl) (rg_if h (fun h => ?_) fun h => ?_)
    · refine rg_step 5 (G' := fun f => if inb x1 300 = true then evT f 478 128 [oR 549 0, oI x1, oI x2, oI x3, oI x4, nn, nn, nn] [vI (s.1 588 (ix x1)), vI x2] s else none) (fun _ => rfl) (rg_gd h fun h => ?_)
      refine rg_step 1 (G' := fun f => if x2 = (s.1 588 (ix x1)) then evT f 478 138 [oR 549 0, oI x1, oI x2, oI x3, oI x4, nn, nn, nn] [] s else evT f 478 131 [oR 549 0, oI x1, oI x2, oI x3, oI x4, nn, nn, nn] [] s) (fun _ => rfl) (rg_if h (fun h => ?_) fun h => ?_)
      · exact (t_fM_handOver_b138) h
      · refine rg_step 3 (G' := fun f => ev_after (evT f 315 0 [oR 549 0, oI (cI (-112))] [] s) (fun q => evT f 478 137 [oR 549 0, oI x1, oI x2, oI x3, oI x4, nn, nn, nn] (q.2 ++ []) q.1)) (fun _ => rfl) (rg_bd2 h fun s20 v21 hc h => rg_call (q := cvI (s20, v21)) (T_fM_no hc) ?_)
        exact rg_end 1 (fun _ => rfl) (by cases h; rfl)
    · exact (t_fM_handOver_b138) h
theorem T_fM_handOver {s : ev_M} {a1 : Int32} {a2 : Int32} {a3 : Int32} {a4 : Int32} {a5 : Int32} {q : ev_M × Int32} (h : fM_handOver s a1 a2 a3 a4 a5 = some q) : RR 478 0 [oR 549 0, oI a1, oI a2, oI a3, oI a4, oI a5, nn, nn] [] s (cvI q) := by
  refine rg_step 3 (G' := fun f => ev_after (evT f 342 0 [oR 549 0, oI a1] [] s) (fun q => evT f 478 5 [oR 549 0, oI a1, oI a2, oI a3, oI a4, oI a5, nn, nn] (q.2 ++ []) q.1)) (fun _ => rfl) (rg_bd1 h fun v22 hc h => rg_call (q := cvP s v22) (T_fM_isItem hc) ?_)
  refine rg_step 1 (G' := fun f => if v22 = 0 then evT f 478 8 [oR 549 0, oI a1, oI a2, oI a3, oI a4, oI a5, nn, nn] [] s else evT f 478 15 [oR 549 0, oI a1, oI a2, oI a3, oI a4, oI a5, nn, nn] [] s) (fun _ => rfl) (rg_if h (fun h => ?_) fun h => ?_)
  · refine rg_step 3 (G' := fun f => ev_after (evT f 315 0 [oR 549 0, oI (cI (-101))] [] s) (fun q => evT f 478 14 [oR 549 0, oI a1, oI a2, oI a3, oI a4, oI a5, nn, nn] (q.2 ++ []) q.1)) (fun _ => rfl) (rg_bd2 h fun s23 v24 hc h => rg_call (q := cvI (s23, v24)) (T_fM_no hc) ?_)
    exact rg_end 1 (fun _ => rfl) (by cases h; rfl)
  · refine rg_step 4 (G' := fun f => ev_after (evT f 311 0 [oI a2, oI (cI 1), oI (cI 99)] [] s) (fun q => evT f 478 22 [oR 549 0, oI a1, oI a2, oI a3, oI a4, oI a5, nn, nn] (q.2 ++ []) q.1)) (fun _ => rfl) (rg_bd1 h fun v25 hc h => rg_call (q := cvP s v25) (T_fM_in hc) ?_)
    refine rg_step 1 (G' := fun f => if v25 = 0 then evT f 478 48 [oR 549 0, oI a1, oI a2, oI a3, oI a4, oI a5, nn, nn] [] s else evT f 478 25 [oR 549 0, oI a1, oI a2, oI a3, oI a4, oI a5, nn, nn] [] s) (fun _ => rfl) (rg_if h (fun h => ?_) fun h => ?_)
    · exact (t_fM_handOver_b48) h
    · refine rg_step 4 (G' := fun f => ev_after (evT f 311 0 [oI a3, oI (cI 0), oI (cI 9999)] [] s) (fun q => evT f 478 33 [oR 549 0, oI a1, oI a2, oI a3, oI a4, oI a5, nn, nn] (q.2 ++ []) q.1)) (fun _ => rfl) (rg_bd1 h fun v26 hc h => rg_call (q := cvP s v26) (T_fM_in hc) ?_)
      refine rg_step 1 (G' := fun f => if v26 = 0 then evT f 478 48 [oR 549 0, oI a1, oI a2, oI a3, oI a4, oI a5, nn, nn] [] s else evT f 478 36 [oR 549 0, oI a1, oI a2, oI a3, oI a4, oI a5, nn, nn] [] s) (fun _ => rfl) (rg_if h (fun h => ?_) fun h => ?_)
      · exact (t_fM_handOver_b48) h
      · refine rg_step 4 (G' := fun f => ev_after (evT f 311 0 [oI a4, oI (cI 0), oI (cI 1000000)] [] s) (fun q => evT f 478 45 [oR 549 0, oI a1, oI a2, oI a3, oI a4, oI a5, nn, nn] (q.2 ++ []) q.1)) (fun _ => rfl) (rg_bd1 h fun v27 hc h => rg_call (q := cvP s v27) (T_fM_in hc) ?_)
        refine rg_step 1 (G' := fun f => if v27 = 0 then evT f 478 48 [oR 549 0, oI a1, oI a2, oI a3, oI a4, oI a5, nn, nn] [] s else evT f 478 55 [oR 549 0, oI a1, oI a2, oI a3, oI a4, oI a5, nn, nn] [] s) (fun _ => rfl) (rg_if h (fun h => ?_) fun h => ?_)
        · exact (t_fM_handOver_b48) h
        · refine rg_step 2 (G' := fun f => if a5 = 0 then evT f 478 73 [oR 549 0, oI a1, oI a2, oI a3, oI a4, oI a5, nn, nn] [] s else evT f 478 60 [oR 549 0, oI a1, oI a2, oI a3, oI a4, oI a5, nn, nn] [] s) (fun _ => rfl) (rg_if h (fun h => ?_) fun h => ?_)
          · refine rg_step 4 (G' := fun f => if inb a1 300 = true then evT f 478 79 [oR 549 0, oI a1, oI a2, oI a3, oI a4, oI a5, nn, nn] [vI (s.1 583 (ix a1))] s else none) (fun _ => rfl) (rg_gd h fun h => ?_)
            refine rg_step 2 (G' := fun f => if (s.1 583 (ix a1)) = (cI 6) then evT f 478 84 [oR 549 0, oI a1, oI a2, oI a3, oI a4, oI a5, nn, nn] [] s else evT f 478 94 [oR 549 0, oI a1, oI a2, oI a3, oI a4, oI a5, nn, nn] [] s) (fun _ => rfl) (rg_if h (fun h => ?_) fun h => ?_)
            · refine rg_step 4 (G' := fun f => if inb a1 300 = true then evT f 478 90 [oR 549 0, oI a1, oI a2, oI a3, oI a4, oI a5, nn, nn] [vI (s.1 597 (ix a1))] s else none) (fun _ => rfl) (rg_gd h fun h => ?_)
              refine rg_step 2 (G' := fun f => if (s.1 597 (ix a1)) = (cI (-1)) then evT f 478 101 [oR 549 0, oI a1, oI a2, oI a3, oI a4, oI a5, nn, nn] [] s else evT f 478 94 [oR 549 0, oI a1, oI a2, oI a3, oI a4, oI a5, nn, nn] [] s) (fun _ => rfl) (rg_if h (fun h => ?_) fun h => ?_)
              · exact (t_fM_handOver_b101) h
              · exact (t_fM_handOver_b94) h
            · exact (t_fM_handOver_b94) h
          · refine rg_step 4 (G' := fun f => if inb a1 300 = true then evT f 478 66 [oR 549 0, oI a1, oI a2, oI a3, oI a4, oI a5, nn, nn] [vI (s.1 583 (ix a1))] s else none) (fun _ => rfl) (rg_gd h fun h => ?_)
            refine rg_step 2 (G' := fun f => if (s.1 583 (ix a1)) = (cI 4) then evT f 478 101 [oR 549 0, oI a1, oI a2, oI a3, oI a4, oI a5, nn, nn] [] s else evT f 478 70 [oR 549 0, oI a1, oI a2, oI a3, oI a4, oI a5, nn, nn] [] s) (fun _ => rfl) (rg_if h (fun h => ?_) fun h => ?_)
            · exact (t_fM_handOver_b101) h
            · exact rg_step 1 (G' := fun f => evT f 478 94 [oR 549 0, oI a1, oI a2, oI a3, oI a4, oI a5, nn, nn] [] s) (fun _ => rfl) ((t_fM_handOver_b94) h)
theorem T_fM_doMiss {s : ev_M} {a1 : Int32} {q : ev_M × Int32} (h : fM_doMiss s a1 = some q) : RR 480 0 [oR 549 0, oI a1] [] s (cvI q) := by
  refine rg_step 3 (G' := fun f => ev_after (evT f 342 0 [oR 549 0, oI a1] [] s) (fun q => evT f 480 5 [oR 549 0, oI a1] (q.2 ++ []) q.1)) (fun _ => rfl) (rg_bd1 h fun v1 hc h => rg_call (q := cvP s v1) (T_fM_isItem hc) ?_)
  refine rg_step 1 (G' := fun f => if v1 = 0 then evT f 480 8 [oR 549 0, oI a1] [] s else evT f 480 15 [oR 549 0, oI a1] [] s) (fun _ => rfl) (rg_if h (fun h => ?_) fun h => ?_)
  · refine rg_step 3 (G' := fun f => ev_after (evT f 315 0 [oR 549 0, oI (cI (-101))] [] s) (fun q => evT f 480 14 [oR 549 0, oI a1] (q.2 ++ []) q.1)) (fun _ => rfl) (rg_bd2 h fun s2 v3 hc h => rg_call (q := cvI (s2, v3)) (T_fM_no hc) ?_)
    exact rg_end 1 (fun _ => rfl) (by cases h; rfl)
  · refine rg_step 4 (G' := fun f => if inb a1 300 = true then evT f 480 21 [oR 549 0, oI a1] [vI (s.1 583 (ix a1))] s else none) (fun _ => rfl) (rg_gd h fun h => ?_)
    refine rg_step 2 (G' := fun f => if (s.1 583 (ix a1)) = (cI 4) then evT f 480 32 [oR 549 0, oI a1] [] s else evT f 480 25 [oR 549 0, oI a1] [] s) (fun _ => rfl) (rg_if h (fun h => ?_) fun h => ?_)
    · refine rg_step 2 (G' := fun f => ev_after (evT f 316 0 [oR 549 0, nn] [] s) (fun q => evT f 480 36 [oR 549 0, oI a1] (q.2 ++ []) q.1)) (fun _ => rfl) (rg_bd1 h fun v4 hc h => rg_call (q := cvP s v4) (T_fM_full hc) ?_)
      refine rg_step 1 (G' := fun f => if v4 = 0 then evT f 480 46 [oR 549 0, oI a1] [] s else evT f 480 39 [oR 549 0, oI a1] [] s) (fun _ => rfl) (rg_if h (fun h => ?_) fun h => ?_)
      · refine rg_step 5 (G' := fun f => ev_after (evT f 340 0 [oR 549 0] [] s) (fun q => evT f 480 55 [oR 549 0, oI a1] (q.2 ++ [vI a1, vR 602 0]) q.1)) (fun _ => rfl) (rg_bd1 h fun v5 hc h => rg_call (q := cvP s v5) (T_fM_today hc) ?_)
        refine rg_step 3 (G' := fun f => if inb a1 300 = true then evT f 480 59 [oR 549 0, oI a1] [] (wI s 602 (ix a1) (v5 + (cI 7))) else none) (fun _ => rfl) (rg_gd h fun h => rg_ltM h fun s6 h => ?_)
        refine rg_step 4 (G' := fun f => ev_after (evT f 351 0 [oR 549 0, oI a1, oI (cI 6)] [] s6) (fun q => evT f 480 66 [oR 549 0, oI a1] (q.2 ++ []) q.1)) (fun _ => rfl) (rg_bd1 h fun s7 hc h => rg_call (q := cvV s7) (T_fM_comes hc) ?_)
        refine rg_step 4 (G' := fun f => if inb a1 300 = true then evT f 480 72 [oR 549 0, oI a1] [vI (s7.1 602 (ix a1))] s7 else none) (fun _ => rfl) (rg_gd h fun h => ?_)
        exact rg_end 1 (fun _ => rfl) (by cases h; rfl)
      · refine rg_step 3 (G' := fun f => ev_after (evT f 315 0 [oR 549 0, oI (cI (-104))] [] s) (fun q => evT f 480 45 [oR 549 0, oI a1] (q.2 ++ []) q.1)) (fun _ => rfl) (rg_bd2 h fun s8 v9 hc h => rg_call (q := cvI (s8, v9)) (T_fM_no hc) ?_)
        exact rg_end 1 (fun _ => rfl) (by cases h; rfl)
    · refine rg_step 3 (G' := fun f => ev_after (evT f 315 0 [oR 549 0, oI (cI (-103))] [] s) (fun q => evT f 480 31 [oR 549 0, oI a1] (q.2 ++ []) q.1)) (fun _ => rfl) (rg_bd2 h fun s10 v11 hc h => rg_call (q := cvI (s10, v11)) (T_fM_no hc) ?_)
      exact rg_end 1 (fun _ => rfl) (by cases h; rfl)
theorem T_fM_goesBack {s : ev_M} {a1 : Int32} {q : ev_M × Int32} (h : fM_goesBack s a1 = some q) : RR 354 0 [oR 549 0, oI a1] [] s (cvI q) := by
  refine rg_step 4 (G' := fun f => if inb a1 300 = true then evT f 354 6 [oR 549 0, oI a1] [vI (s.1 599 (ix a1))] s else none) (fun _ => rfl) (rg_gd h fun h => ?_)
  refine rg_step 1 (G' := fun f => if (s.1 599 (ix a1)) = 0 then evT f 354 24 [oR 549 0, oI a1] [] s else evT f 354 9 [oR 549 0, oI a1] [] s) (fun _ => rfl) (rg_if h (fun h => ?_) fun h => ?_)
  · refine rg_step 5 (G' := fun f => if inb a1 300 = true then evT f 354 31 [oR 549 0, oI a1] [] (wI s 599 (ix a1) ((cI 1) &&& 1)) else none) (fun _ => rfl) (rg_gd h fun h => rg_ltM h fun s1 h => ?_)
    refine rg_step 6 (G' := fun f => if inb a1 300 = true then evT f 354 39 [oR 549 0, oI a1] [vI (s1.1 591 (ix a1)), vI a1, vR 549 0] s1 else none) (fun _ => rfl) (rg_gd h fun h => ?_)
    refine rg_step 1 (G' := fun f => ev_after (evT f 353 0 [oR 549 0, oI a1, oI (s1.1 591 (ix a1))] [] s1) (fun q => evT f 354 42 [oR 549 0, oI a1] (q.2 ++ []) q.1)) (fun _ => rfl) (rg_bd1 h fun s2 hc h => rg_call (q := cvV s2) (T_fM_comesIn hc) ?_)
    exact rg_end 2 (fun _ => rfl) (by cases h; rfl)
  · refine rg_step 3 (G' := fun f => ev_after (evT f 352 0 [oR 549 0, oI a1] [] s) (fun q => evT f 354 14 [oR 549 0, oI a1] (q.2 ++ []) q.1)) (fun _ => rfl) (rg_bd1 h fun s3 hc h => rg_call (q := cvV s3) (T_fM_leaves hc) ?_)
    refine rg_step 4 (G' := fun f => ev_after (evT f 351 0 [oR 549 0, oI a1, oI (cI 7)] [] s3) (fun q => evT f 354 21 [oR 549 0, oI a1] (q.2 ++ []) q.1)) (fun _ => rfl) (rg_bd1 h fun s4 hc h => rg_call (q := cvV s4) (T_fM_comes hc) ?_)
    exact rg_end 2 (fun _ => rfl) (by cases h; rfl)
theorem t_fM_doRefuse_b46 {s : ev_M} {j1 : Option ev_V} {q : ev_M × Int32} (h : fM_doRefuse_b46 s = some q) : RR 482 46 [oR 549 0, j1] [] s (cvI q) := by
  refine rg_step 3 (G' := fun f => ev_after (evT f 315 0 [oR 549 0, oI (cI (-103))] [] s) (fun q => evT f 482 52 [oR 549 0, nn] (q.2 ++ []) q.1)) (fun _ => rfl) (rg_bd2 h fun s1 v2 hc h => rg_call (q := cvI (s1, v2)) (T_fM_no hc) ?_)
  exact rg_end 1 (fun _ => rfl) (by cases h; rfl)
theorem t_fM_doRefuse_b53 {s : ev_M} {x1 : Int32} {q : ev_M × Int32} (h : fM_doRefuse_b53 s x1 = some q) : RR 482 53 [oR 549 0, oI x1] [] s (cvI q) := by
  refine rg_step 2 (G' := fun f => ev_after (evT f 316 0 [oR 549 0, nn] [] s) (fun q => evT f 482 57 [oR 549 0, oI x1] (q.2 ++ []) q.1)) (fun _ => rfl) (rg_bd1 h fun v3 hc h => rg_call (q := cvP s v3) (T_fM_full hc) ?_)
  refine rg_step 1 (G' := fun f => if v3 = 0 then evT f 482 69 [oR 549 0, oI x1] [] s else evT f 482 60 [oR 549 0, oI x1] [] s) (fun _ => rfl) (rg_if h (fun h => ?_) fun h => ?_)
  · refine rg_step 3 (G' := fun f => ev_after (evT f 354 0 [oR 549 0, oI x1] [] s) (fun q => evT f 482 74 [oR 549 0, oI x1] (q.2 ++ []) q.1)) (fun _ => rfl) (rg_bd2 h fun s4 v5 hc h => rg_call (q := cvI (s4, v5)) (T_fM_goesBack hc) ?_)
    exact rg_end 1 (fun _ => rfl) (by cases h; rfl)
  · refine rg_step 3 (G' := fun f => ev_after (evT f 315 0 [oR 549 0, oI (cI (-104))] [] s) (fun q => evT f 482 66 [oR 549 0, oI x1] (q.2 ++ []) q.1)) (fun _ => rfl) (rg_bd2 h fun s6 v7 hc h => rg_call (q := cvI (s6, v7)) (T_fM_no hc) ?_)
    exact rg_end 2 (fun _ => rfl) (by cases h; rfl)
theorem T_fM_doRefuse {s : ev_M} {a1 : Int32} {q : ev_M × Int32} (h : fM_doRefuse s a1 = some q) : RR 482 0 [oR 549 0, oI a1] [] s (cvI q) := by
  refine rg_step 3 (G' := fun f => ev_after (evT f 342 0 [oR 549 0, oI a1] [] s) (fun q => evT f 482 5 [oR 549 0, oI a1] (q.2 ++ []) q.1)) (fun _ => rfl) (rg_bd1 h fun v8 hc h => rg_call (q := cvP s v8) (T_fM_isItem hc) ?_)
  refine rg_step 1 (G' := fun f => if v8 = 0 then evT f 482 8 [oR 549 0, oI a1] [] s else evT f 482 15 [oR 549 0, oI a1] [] s) (fun _ => rfl) (rg_if h (fun h => ?_) fun h => ?_)
  · refine rg_step 3 (G' := fun f => ev_after (evT f 315 0 [oR 549 0, oI (cI (-101))] [] s) (fun q => evT f 482 14 [oR 549 0, oI a1] (q.2 ++ []) q.1)) (fun _ => rfl) (rg_bd2 h fun s9 v10 hc h => rg_call (q := cvI (s9, v10)) (T_fM_no hc) ?_)
    exact rg_end 1 (fun _ => rfl) (by cases h; rfl)
  · refine rg_step 4 (G' := fun f => if inb a1 300 = true then evT f 482 21 [oR 549 0, oI a1] [vI (s.1 583 (ix a1))] s else none) (fun _ => rfl) (rg_gd h fun h => ?_)
    refine rg_step 2 (G' := fun f => if (s.1 583 (ix a1)) = (cI 4) then evT f 482 53 [oR 549 0, oI a1] [] s else evT f 482 25 [oR 549 0, oI a1] [] s) (fun _ => rfl) (rg_if h (fun h => ?_) fun h => ?_)
    · exact (t_fM_doRefuse_b53) h
    · refine rg_step 4 (G' := fun f => if inb a1 300 = true then evT f 482 31 [oR 549 0, oI a1] [vI (s.1 583 (ix a1))] s else none) (fun _ => rfl) (rg_gd h fun h => ?_)
      refine rg_step 2 (G' := fun f => if (s.1 583 (ix a1)) = (cI 6) then evT f 482 36 [oR 549 0, oI a1] [] s else evT f 482 46 [oR 549 0, oI a1] [] s) (fun _ => rfl) (rg_if h (fun h => ?_) fun h => ?_)
      · refine rg_step 4 (G' := fun f => if inb a1 300 = true then evT f 482 42 [oR 549 0, oI a1] [vI (s.1 597 (ix a1))] s else none) (fun _ => rfl) (rg_gd h fun h => ?_)
        refine rg_step 2 (G' := fun f => if (s.1 597 (ix a1)) = (cI (-1)) then evT f 482 53 [oR 549 0, oI a1] [] s else evT f 482 46 [oR 549 0, oI a1] [] s) (fun _ => rfl) (rg_if h (fun h => ?_) fun h => ?_)
        · exact (t_fM_doRefuse_b53) h
        · exact (t_fM_doRefuse_b46) h
      · exact (t_fM_doRefuse_b46) h
theorem t_fM_inBox_b42 {s : ev_M} {k5 : Int32 → Int32 → Int32 → Int32 → Option Int32} (hk5 : ∀ {x1 : Int32} {x2 : Int32} {x3 : Int32} {x4 : Int32} {q : Int32}, k5 x1 x2 x3 x4 = some q → RR 484 5 [oR 549 0, oI x1, oI x2, oI x3, oI x4] [] s (cvP s q)) {x1 : Int32} {x2 : Int32} {x4 : Int32} {y0 : Int32} {j3 : Option ev_V} {q : Int32} (h : fM_inBox_b42 s k5 x1 x2 x4 y0 = some q) : RR 484 42 [oR 549 0, oI x1, oI x2, j3, oI x4] [vI y0] s (cvP s q) := by
  exact rg_step 3 (G' := fun f => evT f 484 5 [oR 549 0, oI x1, oI x2, oI y0, oI (x4 + cI 1)] [] s) (fun _ => rfl) (hk5 h)
theorem t_fM_inBox_b41 {s : ev_M} {k5 : Int32 → Int32 → Int32 → Int32 → Option Int32} (hk5 : ∀ {x1 : Int32} {x2 : Int32} {x3 : Int32} {x4 : Int32} {q : Int32}, k5 x1 x2 x3 x4 = some q → RR 484 5 [oR 549 0, oI x1, oI x2, oI x3, oI x4] [] s (cvP s q)) {x1 : Int32} {x2 : Int32} {x3 : Int32} {x4 : Int32} {q : Int32} (h : fM_inBox_b41 s k5 x1 x2 x3 x4 = some q) : RR 484 41 [oR 549 0, oI x1, oI x2, oI x3, oI x4] [] s (cvP s q) := by
  exact rg_step 1 (G' := fun f => evT f 484 42 [oR 549 0, oI x1, oI x2, oI x3, oI x4] [vI x3] s) (fun _ => rfl) ((t_fM_inBox_b42 hk5) h)
theorem ti_fM_inBox_h5 {s : ev_M} : ∀ (n : Nat) (x1 : Int32) (x2 : Int32) (x3 : Int32) (x4 : Int32) (q : Int32), fM_inBox_h5 s n x1 x2 x3 x4 = some q → RR 484 5 [oR 549 0, oI x1, oI x2, oI x3, oI x4] [] s (cvP s q) := by
  intro n
  induction n with
  | zero => intro x1 x2 x3 x4 q h; cases h
  | succ n ih =>
    have hk5 : ∀ {x1 : Int32} {x2 : Int32} {x3 : Int32} {x4 : Int32} {q : Int32}, fM_inBox_h5 s n x1 x2 x3 x4 = some q → RR 484 5 [oR 549 0, oI x1, oI x2, oI x3, oI x4] [] s (cvP s q) := fun h => ih _ _ _ _ _ h
    intro x1 x2 x3 x4 q h
    refine rg_step 4 (G' := fun f => if x4 < (s.1 549 58) then evT f 484 14 [oR 549 0, oI x1, oI x2, oI x3, oI x4] [] s else evT f 484 49 [oR 549 0, oI x1, oI x2, oI x3, oI x4] [] s) (fun _ => rfl) (rg_if h (fun h => ?_) fun h => ?_)
    · refine rg_step 4 (G' := fun f => if inb x4 300 = true then evT f 484 21 [oR 549 0, oI x1, oI x2, oI x3, oI x4] [vI (s.1 597 (ix x4))] s else none) (fun _ => rfl) (rg_gd h fun h => ?_)
      refine rg_step 2 (G' := fun f => if (s.1 597 (ix x4)) = x1 then evT f 484 25 [oR 549 0, oI x1, oI x2, oI x3, oI x4] [] s else evT f 484 41 [oR 549 0, oI x1, oI x2, oI x3, oI x4] [] s) (fun _ => rfl) (rg_if h (fun h => ?_) fun h => ?_)
      · refine rg_step 4 (G' := fun f => if inb x4 300 = true then evT f 484 32 [oR 549 0, oI x1, oI x2, oI x3, oI x4] [vI (s.1 598 (ix x4))] s else none) (fun _ => rfl) (rg_gd h fun h => ?_)
        refine rg_step 2 (G' := fun f => if (s.1 598 (ix x4)) = x2 then evT f 484 36 [oR 549 0, oI x1, oI x2, oI x3, oI x4] [] s else evT f 484 41 [oR 549 0, oI x1, oI x2, oI x3, oI x4] [] s) (fun _ => rfl) (rg_if h (fun h => ?_) fun h => ?_)
        · exact rg_step 2 (G' := fun f => evT f 484 42 [oR 549 0, oI x1, oI x2, oI x3, oI x4] [vI x4] s) (fun _ => rfl) ((t_fM_inBox_b42 hk5) h)
        · exact (t_fM_inBox_b41 hk5) h
      · exact (t_fM_inBox_b41 hk5) h
    · exact rg_end 2 (fun _ => rfl) (by cases h; rfl)
theorem t_fM_inBox_h5 {s : ev_M} {n : Nat} {x1 : Int32} {x2 : Int32} {x3 : Int32} {x4 : Int32} {q : Int32} (h : fM_inBox_h5 s n x1 x2 x3 x4 = some q) : RR 484 5 [oR 549 0, oI x1, oI x2, oI x3, oI x4] [] s (cvP s q) := ti_fM_inBox_h5 n x1 x2 x3 x4 q h
theorem T_fM_inBox {s : ev_M} {a1 : Int32} {a2 : Int32} {q : Int32} (h : fM_inBox s a1 a2 = some q) : RR 484 0 [oR 549 0, oI a1, oI a2, nn, nn] [] s (cvP s q) := by
  exact rg_step 4 (G' := fun f => evT f 484 5 [oR 549 0, oI a1, oI a2, oI (cI (-1)), oI (cI 0)] [] s) (fun _ => rfl) ((t_fM_inBox_h5) h)
theorem T_fM_isLocker {s : ev_M} {a1 : Int32} {q : Int32} (h : fM_isLocker s a1 = some q) : RR 346 0 [oR 549 0, oI a1] [] s (cvP s q) := by
  refine rg_step 7 (G' := fun f => ev_after (evT f 311 0 [oI a1, oI (cI 0), oI ((s.1 549 107) - (cI 1))] [] s) (fun q => evT f 346 11 [oR 549 0, oI a1] (q.2 ++ []) q.1)) (fun _ => rfl) (rg_bd1 h fun v1 hc h => rg_call (q := cvP s v1) (T_fM_in hc) ?_)
  exact rg_step 1 (G' := fun f => if bz v1 = true then some (s, [vI v1]) else none) (fun _ => rfl) (rg_gd h fun h => rg_end 0 (fun _ => rfl) (by cases h; rfl))
theorem t_fM_doPut_b16 {s : ev_M} {j1 : Option ev_V} {j2 : Option ev_V} {j3 : Option ev_V} {j4 : Option ev_V} {q : ev_M × Int32} (h : fM_doPut_b16 s = some q) : RR 485 16 [oR 549 0, j1, j2, j3, j4] [] s (cvI q) := by
  refine rg_step 3 (G' := fun f => ev_after (evT f 315 0 [oR 549 0, oI (cI (-101))] [] s) (fun q => evT f 485 22 [oR 549 0, nn, nn, nn, nn] (q.2 ++ []) q.1)) (fun _ => rfl) (rg_bd2 h fun s1 v2 hc h => rg_call (q := cvI (s1, v2)) (T_fM_no hc) ?_)
  exact rg_end 1 (fun _ => rfl) (by cases h; rfl)
theorem t_fM_doPut_b93 {s : ev_M} {j1 : Option ev_V} {j2 : Option ev_V} {j3 : Option ev_V} {j4 : Option ev_V} {q : ev_M × Int32} (h : fM_doPut_b93 s = some q) : RR 485 93 [oR 549 0, j1, j2, j3, j4] [] s (cvI q) := by
  refine rg_step 3 (G' := fun f => ev_after (evT f 315 0 [oR 549 0, oI (cI (-103))] [] s) (fun q => evT f 485 99 [oR 549 0, nn, nn, nn, nn] (q.2 ++ []) q.1)) (fun _ => rfl) (rg_bd2 h fun s3 v4 hc h => rg_call (q := cvI (s3, v4)) (T_fM_no hc) ?_)
  exact rg_end 1 (fun _ => rfl) (by cases h; rfl)
theorem t_fM_doPut_b149 {s : ev_M} {j1 : Option ev_V} {j2 : Option ev_V} {j3 : Option ev_V} {j4 : Option ev_V} {q : ev_M × Int32} (h : fM_doPut_b149 s = some q) : RR 485 149 [oR 549 0, j1, j2, j3, j4] [] s (cvI q) := by
  refine rg_step 3 (G' := fun f => ev_after (evT f 315 0 [oR 549 0, oI (cI (-104))] [] s) (fun q => evT f 485 155 [oR 549 0, nn, nn, nn, nn] (q.2 ++ []) q.1)) (fun _ => rfl) (rg_bd2 h fun s5 v6 hc h => rg_call (q := cvI (s5, v6)) (T_fM_no hc) ?_)
  exact rg_end 1 (fun _ => rfl) (by cases h; rfl)
theorem t_fM_doPut_b131 {s : ev_M} {x1 : Int32} {x2 : Int32} {x4 : Int32} {j3 : Option ev_V} {q : ev_M × Int32} (h : fM_doPut_b131 s x1 x2 x4 = some q) : RR 485 131 [oR 549 0, oI x1, oI x2, j3, oI x4] [] s (cvI q) := by
  refine rg_step 5 (G' := fun f => if inb x2 8 = true then evT f 485 139 [oR 549 0, oI x1, oI x2, nn, oI x4] [vI (s.1 624 (ix x2)), vI x4] s else none) (fun _ => rfl) (rg_gd h fun h => ?_)
  refine rg_step 1 (G' := fun f => if x4 = (s.1 624 (ix x2)) then evT f 485 149 [oR 549 0, oI x1, oI x2, nn, oI x4] [] s else evT f 485 142 [oR 549 0, oI x1, oI x2, nn, oI x4] [] s) (fun _ => rfl) (rg_if h (fun h => ?_) fun h => ?_)
  · exact (t_fM_doPut_b149) h
  · refine rg_step 2 (G' := fun f => ev_after (evT f 316 0 [oR 549 0, nn] [] s) (fun q => evT f 485 146 [oR 549 0, oI x1, oI x2, nn, oI x4] (q.2 ++ []) q.1)) (fun _ => rfl) (rg_bd1 h fun v7 hc h => rg_call (q := cvP s v7) (T_fM_full hc) ?_)
    refine rg_step 1 (G' := fun f => if v7 = 0 then evT f 485 156 [oR 549 0, oI x1, oI x2, nn, oI x4] [] s else evT f 485 149 [oR 549 0, oI x1, oI x2, nn, oI x4] [] s) (fun _ => rfl) (rg_if h (fun h => ?_) fun h => ?_)
    · refine rg_step 5 (G' := fun f => if inb x1 300 = true then evT f 485 163 [oR 549 0, oI x1, oI x2, nn, oI x4] [] (wI s 597 (ix x1) x2) else none) (fun _ => rfl) (rg_gd h fun h => rg_ltM h fun s8 h => ?_)
      refine rg_step 5 (G' := fun f => if inb x1 300 = true then evT f 485 171 [oR 549 0, oI x1, oI x2, nn, oI x4] [] (wI s8 598 (ix x1) x4) else none) (fun _ => rfl) (rg_gd h fun h => rg_ltM h fun s9 h => ?_)
      refine rg_step 5 (G' := fun f => ev_after (evT f 340 0 [oR 549 0] [] s9) (fun q => evT f 485 180 [oR 549 0, oI x1, oI x2, nn, oI x4] (q.2 ++ [vI x1, vR 602 0]) q.1)) (fun _ => rfl) (rg_bd1 h fun v10 hc h => rg_call (q := cvP s9 v10) (T_fM_today hc) ?_)
      refine rg_step 3 (G' := fun f => if inb x1 300 = true then evT f 485 183 [oR 549 0, oI x1, oI x2, nn, oI x4] [] (wI s9 602 (ix x1) (v10 + (cI 3))) else none) (fun _ => rfl) (rg_gd h fun h => rg_ltM h fun s11 h => ?_)
      refine rg_step 4 (G' := fun f => ev_after (evT f 351 0 [oR 549 0, oI x1, oI (cI 6)] [] s11) (fun q => evT f 485 190 [oR 549 0, oI x1, oI x2, nn, oI x4] (q.2 ++ []) q.1)) (fun _ => rfl) (rg_bd1 h fun s12 hc h => rg_call (q := cvV s12) (T_fM_comes hc) ?_)
      exact rg_end 2 (fun _ => rfl) (by cases h; rfl)
    · exact (t_fM_doPut_b149) h
theorem ti_fM_doPut_h103 : ∀ (n : Nat) (s : ev_M) (x1 : Int32) (x2 : Int32) (x4 : Int32) (j3 : Option ev_V) (q : ev_M × Int32), fM_doPut_h103 n s x1 x2 x4 = some q → RR 485 103 [oR 549 0, oI x1, oI x2, j3, oI x4] [] s (cvI q) := by
  intro n
  induction n with
  | zero => intro s x1 x2 x4 j3 q h; cases h
  | succ n ih =>
    have hk103 : ∀ {s : ev_M} {x1 : Int32} {x2 : Int32} {x4 : Int32} {j3 : Option ev_V} {q : ev_M × Int32}, fM_doPut_h103 n s x1 x2 x4 = some q → RR 485 103 [oR 549 0, oI x1, oI x2, j3, oI x4] [] s (cvI q) := fun h => ih _ _ _ _ _ _ h
    intro s x1 x2 x4 j3 q h
    refine rg_step 5 (G' := fun f => if inb x2 8 = true then evT f 485 111 [oR 549 0, oI x1, oI x2, nn, oI x4] [vI (s.1 624 (ix x2)), vI x4] s else none) (fun _ => rfl) (rg_gd h fun h => ?_)
    refine rg_step 1 (G' := fun f => if x4 < (s.1 624 (ix x2)) then evT f 485 114 [oR 549 0, oI x1, oI x2, nn, oI x4] [] s else evT f 485 131 [oR 549 0, oI x1, oI x2, nn, oI x4] [] s) (fun _ => rfl) (rg_if h (fun h => ?_) fun h => ?_)
    · refine rg_step 4 (G' := fun f => ev_after (evT f 484 0 [oR 549 0, oI x2, oI x4, nn, nn] [] s) (fun q => evT f 485 121 [oR 549 0, oI x1, oI x2, nn, oI x4] (q.2 ++ []) q.1)) (fun _ => rfl) (rg_bd1 h fun v13 hc h => rg_call (q := cvP s v13) (T_fM_inBox hc) ?_)
      refine rg_step 2 (G' := fun f => if v13 = (cI (-1)) then evT f 485 131 [oR 549 0, oI x1, oI x2, nn, oI x4] [] s else evT f 485 125 [oR 549 0, oI x1, oI x2, nn, oI x4] [] s) (fun _ => rfl) (rg_if h (fun h => ?_) fun h => ?_)
      · exact (t_fM_doPut_b131) h
      · exact rg_step 2 (G' := fun f => evT f 485 103 [oR 549 0, oI x1, oI x2, nn, oI (x4 + cI 1)] [] s) (fun _ => rfl) (hk103 h)
    · exact (t_fM_doPut_b131) h
theorem t_fM_doPut_h103 {n : Nat} {s : ev_M} {x1 : Int32} {x2 : Int32} {x4 : Int32} {j3 : Option ev_V} {q : ev_M × Int32} (h : fM_doPut_h103 n s x1 x2 x4 = some q) : RR 485 103 [oR 549 0, oI x1, oI x2, j3, oI x4] [] s (cvI q) := ti_fM_doPut_h103 n s x1 x2 x4 j3 q h
theorem t_fM_doPut_b53 {s : ev_M} {x1 : Int32} {x2 : Int32} {y0 : Int32} {j3 : Option ev_V} {j4 : Option ev_V} {q : ev_M × Int32} (h : fM_doPut_b53 s x1 x2 y0 = some q) : RR 485 53 [oR 549 0, oI x1, oI x2, j3, j4] [vI y0] s (cvI q) := by
  refine rg_step 3 (G' := fun f => if y0 = 0 then evT f 485 93 [oR 549 0, oI x1, oI x2, oI y0, nn] [] s else evT f 485 58 [oR 549 0, oI x1, oI x2, oI y0, nn] [] s) (fun _ => rfl) (rg_if h (fun h => ?_) fun h => ?_)
  · exact (t_fM_doPut_b93) h
  · refine rg_step 4 (G' := fun f => if inb x1 300 = true then evT f 485 64 [oR 549 0, oI x1, oI x2, oI y0, nn] [vI (s.1 584 (ix x1))] s else none) (fun _ => rfl) (rg_gd h fun h => ?_)
    refine rg_step 2 (G' := fun f => if (s.1 584 (ix x1)) ≤ (cI 1) then evT f 485 68 [oR 549 0, oI x1, oI x2, oI y0, nn] [] s else evT f 485 93 [oR 549 0, oI x1, oI x2, oI y0, nn] [] s) (fun _ => rfl) (rg_if h (fun h => ?_) fun h => ?_)
    · refine rg_step 4 (G' := fun f => if inb x1 300 = true then evT f 485 74 [oR 549 0, oI x1, oI x2, oI y0, nn] [vI (s.1 586 (ix x1))] s else none) (fun _ => rfl) (rg_gd h fun h => ?_)
      refine rg_step 3 (G' := fun f => if ((s.1 586 (ix x1)) &&& (cI 5)) ≤ 0 then evT f 485 79 [oR 549 0, oI x1, oI x2, oI y0, nn] [] s else evT f 485 93 [oR 549 0, oI x1, oI x2, oI y0, nn] [] s) (fun _ => rfl) (rg_if h (fun h => ?_) fun h => ?_)
      · refine rg_step 3 (G' := fun f => ev_after (evT f 417 0 [oR 549 0, oI x1, nn] [] s) (fun q => evT f 485 84 [oR 549 0, oI x1, oI x2, oI y0, nn] (q.2 ++ []) q.1)) (fun _ => rfl) (rg_bd1 h fun v14 hc h => rg_call (q := cvP s v14) (T_fM_priceDue hc) ?_)
        refine rg_step 3 (G' := fun f => ev_after (evT f 418 0 [oR 549 0, oI x1] [] s) (fun q => evT f 485 89 [oR 549 0, oI x1, oI x2, oI y0, nn] (q.2 ++ [vI v14]) q.1)) (fun _ => rfl) (rg_bd1 h fun v15 hc h => rg_call (q := cvP s v15) (T_fM_centsDue hc) ?_)
        refine rg_step 2 (G' := fun f => if (v14 + v15) ≤ 0 then evT f 485 100 [oR 549 0, oI x1, oI x2, oI y0, nn] [] s else evT f 485 93 [oR 549 0, oI x1, oI x2, oI y0, nn] [] s) (fun _ => rfl) (rg_if h (fun h => ?_) fun h => ?_)
        · exact rg_step 2 (G' := fun f => evT f 485 103 [oR 549 0, oI x1, oI x2, oI y0, oI (cI 0)] [] s) (fun _ => rfl) ((t_fM_doPut_h103) h)
        · exact (t_fM_doPut_b93) h
      · exact (t_fM_doPut_b93) h
    · exact (t_fM_doPut_b93) h
theorem t_fM_doPut_b52 {s : ev_M} {x1 : Int32} {x2 : Int32} {j3 : Option ev_V} {j4 : Option ev_V} {q : ev_M × Int32} (h : fM_doPut_b52 s x1 x2 = some q) : RR 485 52 [oR 549 0, oI x1, oI x2, j3, j4] [] s (cvI q) := by
  exact rg_step 1 (G' := fun f => evT f 485 53 [oR 549 0, oI x1, oI x2, nn, nn] [vI (cI 0)] s) (fun _ => rfl) ((t_fM_doPut_b53) h)
theorem T_fM_doPut {s : ev_M} {a1 : Int32} {a2 : Int32} {q : ev_M × Int32} (h : fM_doPut s a1 a2 = some q) : RR 485 0 [oR 549 0, oI a1, oI a2, nn, nn] [] s (cvI q) := by
  refine rg_step 3 (G' := fun f => ev_after (evT f 342 0 [oR 549 0, oI a1] [] s) (fun q => evT f 485 5 [oR 549 0, oI a1, oI a2, nn, nn] (q.2 ++ []) q.1)) (fun _ => rfl) (rg_bd1 h fun v16 hc h => rg_call (q := cvP s v16) (T_fM_isItem hc) ?_)
  refine rg_step 1 (G' := fun f => if v16 = 0 then evT f 485 16 [oR 549 0, oI a1, oI a2, nn, nn] [] s else evT f 485 8 [oR 549 0, oI a1, oI a2, nn, nn] [] s) (fun _ => rfl) (rg_if h (fun h => ?_) fun h => ?_)
  · exact (t_fM_doPut_b16) h
  · refine rg_step 3 (G' := fun f => ev_after (evT f 346 0 [oR 549 0, oI a2] [] s) (fun q => evT f 485 13 [oR 549 0, oI a1, oI a2, nn, nn] (q.2 ++ []) q.1)) (fun _ => rfl) (rg_bd1 h fun v17 hc h => rg_call (q := cvP s v17) (T_fM_isLocker hc) ?_)
    refine rg_step 1 (G' := fun f => if v17 = 0 then evT f 485 16 [oR 549 0, oI a1, oI a2, nn, nn] [] s else evT f 485 23 [oR 549 0, oI a1, oI a2, nn, nn] [] s) (fun _ => rfl) (rg_if h (fun h => ?_) fun h => ?_)
    · exact (t_fM_doPut_b16) h
    · refine rg_step 4 (G' := fun f => if inb a1 300 = true then evT f 485 29 [oR 549 0, oI a1, oI a2, nn, nn] [vI (s.1 583 (ix a1))] s else none) (fun _ => rfl) (rg_gd h fun h => ?_)
      refine rg_step 2 (G' := fun f => if (s.1 583 (ix a1)) = (cI 4) then evT f 485 33 [oR 549 0, oI a1, oI a2, nn, nn] [] s else evT f 485 52 [oR 549 0, oI a1, oI a2, nn, nn] [] s) (fun _ => rfl) (rg_if h (fun h => ?_) fun h => ?_)
      · refine rg_step 4 (G' := fun f => if inb a2 8 = true then evT f 485 39 [oR 549 0, oI a1, oI a2, nn, nn] [vI (s.1 623 (ix a2))] s else none) (fun _ => rfl) (rg_gd h fun h => ?_)
        refine rg_step 4 (G' := fun f => if inb a1 300 = true then evT f 485 45 [oR 549 0, oI a1, oI a2, nn, nn] [vI (s.1 591 (ix a1)), vI (s.1 623 (ix a2))] s else none) (fun _ => rfl) (rg_gd h fun h => ?_)
        refine rg_step 1 (G' := fun f => if (s.1 623 (ix a2)) = (s.1 591 (ix a1)) then evT f 485 48 [oR 549 0, oI a1, oI a2, nn, nn] [] s else evT f 485 52 [oR 549 0, oI a1, oI a2, nn, nn] [] s) (fun _ => rfl) (rg_if h (fun h => ?_) fun h => ?_)
        · exact rg_step 2 (G' := fun f => evT f 485 53 [oR 549 0, oI a1, oI a2, nn, nn] [vI (cI 1)] s) (fun _ => rfl) ((t_fM_doPut_b53) h)
        · exact (t_fM_doPut_b52) h
      · exact (t_fM_doPut_b52) h
theorem T_fM_keyOf {s : ev_M} {a0 : Int32} {q : Int32} (h : fM_keyOf s a0 = some q) : RR 488 0 [oI a0] [] s (cvP s q) := by
  refine rg_step 12 (G' := fun f => if (cI 9000) = 0 then none else evT f 488 21 [oI a0] [vI (irem (iushr (((a0 + (cI 1)) * (cI 1103515245)) + (cI 12345)) (cI 16)) (cI 9000)), vI (cI 1000)] s) (fun _ => rfl) (rg_dv h fun h => ?_)
  exact rg_end 2 (fun _ => rfl) (by cases h; rfl)
theorem t_fM_doBox_b97 {k48 : ev_M → Int32 → Int32 → Int32 → Option (ev_M × Int32)} (hk48 : ∀ {s : ev_M} {x1 : Int32} {x2 : Int32} {x3 : Int32} {j4 : Option ev_V} {q : ev_M × Int32}, k48 s x1 x2 x3 = some q → RR 489 48 [oR 549 0, oI x1, oI x2, oI x3, j4] [] s (cvI q)) {s : ev_M} {x1 : Int32} {x2 : Int32} {x3 : Int32} {j4 : Option ev_V} {q : ev_M × Int32} (h : fM_doBox_b97 k48 s x1 x2 x3 = some q) : RR 489 97 [oR 549 0, oI x1, oI x2, oI x3, j4] [] s (cvI q) := by
  exact rg_step 2 (G' := fun f => evT f 489 48 [oR 549 0, oI x1, oI x2, oI (x3 + cI 1), nn] [] s) (fun _ => rfl) (hk48 h)
theorem ti_fM_doBox_h48 : ∀ (n : Nat) (s : ev_M) (x1 : Int32) (x2 : Int32) (x3 : Int32) (j4 : Option ev_V) (q : ev_M × Int32), fM_doBox_h48 n s x1 x2 x3 = some q → RR 489 48 [oR 549 0, oI x1, oI x2, oI x3, j4] [] s (cvI q) := by
  intro n
  induction n with
  | zero => intro s x1 x2 x3 j4 q h; cases h
  | succ n ih =>
    have hk48 : ∀ {s : ev_M} {x1 : Int32} {x2 : Int32} {x3 : Int32} {j4 : Option ev_V} {q : ev_M × Int32}, fM_doBox_h48 n s x1 x2 x3 = some q → RR 489 48 [oR 549 0, oI x1, oI x2, oI x3, j4] [] s (cvI q) := fun h => ih _ _ _ _ _ _ h
    intro s x1 x2 x3 j4 q h
    refine rg_step 5 (G' := fun f => if inb x1 8 = true then evT f 489 55 [oR 549 0, oI x1, oI x2, oI x3, nn] [vI (s.1 624 (ix x1)), vI x3] s else none) (fun _ => rfl) (rg_gd h fun h => ?_)
    refine rg_step 1 (G' := fun f => if x3 < (s.1 624 (ix x1)) then evT f 489 58 [oR 549 0, oI x1, oI x2, oI x3, nn] [] s else evT f 489 103 [oR 549 0, oI x1, oI x2, oI x3, nn] [] s) (fun _ => rfl) (rg_if h (fun h => ?_) fun h => ?_)
    · refine rg_step 4 (G' := fun f => ev_after (evT f 484 0 [oR 549 0, oI x1, oI x3, nn, nn] [] s) (fun q => evT f 489 64 [oR 549 0, oI x1, oI x2, oI x3, nn] (q.2 ++ []) q.1)) (fun _ => rfl) (rg_bd1 h fun v1 hc h => rg_call (q := cvP s v1) (T_fM_inBox hc) ?_)
      refine rg_step 4 (G' := fun f => if v1 = (cI (-1)) then evT f 489 97 [oR 549 0, oI x1, oI x2, oI x3, oI v1] [] s else evT f 489 72 [oR 549 0, oI x1, oI x2, oI x3, oI v1] [] s) (fun _ => rfl) (rg_if h (fun h => ?_) fun h => ?_)
      · exact (t_fM_doBox_b97 hk48) h
      · refine rg_step 2 (G' := fun f => ev_after (evT f 488 0 [oI v1] [] s) (fun q => evT f 489 77 [oR 549 0, oI x1, oI x2, oI x3, oI v1] (q.2 ++ []) q.1)) (fun _ => rfl) (rg_bd1 h fun v2 hc h => rg_call (q := cvP s v2) (T_fM_keyOf hc) ?_)
        refine rg_step 2 (G' := fun f => if v2 = x2 then evT f 489 81 [oR 549 0, oI x1, oI x2, oI x3, oI v1] [] s else evT f 489 97 [oR 549 0, oI x1, oI x2, oI x3, oI v1] [] s) (fun _ => rfl) (rg_if h (fun h => ?_) fun h => ?_)
        · refine rg_step 3 (G' := fun f => ev_after (evT f 352 0 [oR 549 0, oI v1] [] s) (fun q => evT f 489 87 [oR 549 0, oI x1, oI x2, oI x3, oI v1] (q.2 ++ []) q.1)) (fun _ => rfl) (rg_bd1 h fun s3 hc h => rg_call (q := cvV s3) (T_fM_leaves hc) ?_)
          refine rg_step 4 (G' := fun f => ev_after (evT f 351 0 [oR 549 0, oI v1, oI (cI 5)] [] s3) (fun q => evT f 489 94 [oR 549 0, oI x1, oI x2, oI x3, oI v1] (q.2 ++ []) q.1)) (fun _ => rfl) (rg_bd1 h fun s4 hc h => rg_call (q := cvV s4) (T_fM_comes hc) ?_)
          exact rg_end 2 (fun _ => rfl) (by cases h; rfl)
        · exact (t_fM_doBox_b97 hk48) h
    · refine rg_step 5 (G' := fun f => if inb x1 8 = true then evT f 489 110 [oR 549 0, oI x1, oI x2, oI x3, nn] [vI (s.1 625 (ix x1)), vI x1, vR 625 0] s else none) (fun _ => rfl) (rg_gd h fun h => ?_)
      refine rg_step 3 (G' := fun f => if inb x1 8 = true then evT f 489 113 [oR 549 0, oI x1, oI x2, oI x3, nn] [] (wI s 625 (ix x1) ((s.1 625 (ix x1)) + (cI 1))) else none) (fun _ => rfl) (rg_gd h fun h => rg_ltM h fun s5 h => ?_)
      exact rg_end 2 (fun _ => rfl) (by cases h; rfl)
theorem t_fM_doBox_h48 {n : Nat} {s : ev_M} {x1 : Int32} {x2 : Int32} {x3 : Int32} {j4 : Option ev_V} {q : ev_M × Int32} (h : fM_doBox_h48 n s x1 x2 x3 = some q) : RR 489 48 [oR 549 0, oI x1, oI x2, oI x3, j4] [] s (cvI q) := ti_fM_doBox_h48 n s x1 x2 x3 j4 q h
theorem T_fM_doBox {s : ev_M} {a1 : Int32} {a2 : Int32} {q : ev_M × Int32} (h : fM_doBox s a1 a2 = some q) : RR 489 0 [oR 549 0, oI a1, oI a2, nn, nn] [] s (cvI q) := by
  refine rg_step 3 (G' := fun f => ev_after (evT f 346 0 [oR 549 0, oI a1] [] s) (fun q => evT f 489 5 [oR 549 0, oI a1, oI a2, nn, nn] (q.2 ++ []) q.1)) (fun _ => rfl) (rg_bd1 h fun v6 hc h => rg_call (q := cvP s v6) (T_fM_isLocker hc) ?_)
  refine rg_step 1 (G' := fun f => if v6 = 0 then evT f 489 8 [oR 549 0, oI a1, oI a2, nn, nn] [] s else evT f 489 15 [oR 549 0, oI a1, oI a2, nn, nn] [] s) (fun _ => rfl) (rg_if h (fun h => ?_) fun h => ?_)
  · refine rg_step 3 (G' := fun f => ev_after (evT f 315 0 [oR 549 0, oI (cI (-101))] [] s) (fun q => evT f 489 14 [oR 549 0, oI a1, oI a2, nn, nn] (q.2 ++ []) q.1)) (fun _ => rfl) (rg_bd2 h fun s7 v8 hc h => rg_call (q := cvI (s7, v8)) (T_fM_no hc) ?_)
    exact rg_end 1 (fun _ => rfl) (by cases h; rfl)
  · refine rg_step 4 (G' := fun f => if inb a1 8 = true then evT f 489 21 [oR 549 0, oI a1, oI a2, nn, nn] [vI (s.1 625 (ix a1))] s else none) (fun _ => rfl) (rg_gd h fun h => ?_)
    refine rg_step 2 (G' := fun f => if (s.1 625 (ix a1)) < (cI 3) then evT f 489 32 [oR 549 0, oI a1, oI a2, nn, nn] [] s else evT f 489 25 [oR 549 0, oI a1, oI a2, nn, nn] [] s) (fun _ => rfl) (rg_if h (fun h => ?_) fun h => ?_)
    · refine rg_step 2 (G' := fun f => ev_after (evT f 316 0 [oR 549 0, nn] [] s) (fun q => evT f 489 36 [oR 549 0, oI a1, oI a2, nn, nn] (q.2 ++ []) q.1)) (fun _ => rfl) (rg_bd1 h fun v9 hc h => rg_call (q := cvP s v9) (T_fM_full hc) ?_)
      refine rg_step 1 (G' := fun f => if v9 = 0 then evT f 489 46 [oR 549 0, oI a1, oI a2, nn, nn] [] s else evT f 489 39 [oR 549 0, oI a1, oI a2, nn, nn] [] s) (fun _ => rfl) (rg_if h (fun h => ?_) fun h => ?_)
      · exact rg_step 2 (G' := fun f => evT f 489 48 [oR 549 0, oI a1, oI a2, oI (cI 0), nn] [] s) (fun _ => rfl) ((t_fM_doBox_h48) h)
      · refine rg_step 3 (G' := fun f => ev_after (evT f 315 0 [oR 549 0, oI (cI (-104))] [] s) (fun q => evT f 489 45 [oR 549 0, oI a1, oI a2, nn, nn] (q.2 ++ []) q.1)) (fun _ => rfl) (rg_bd2 h fun s10 v11 hc h => rg_call (q := cvI (s10, v11)) (T_fM_no hc) ?_)
        exact rg_end 1 (fun _ => rfl) (by cases h; rfl)
    · refine rg_step 3 (G' := fun f => ev_after (evT f 315 0 [oR 549 0, oI (cI (-115))] [] s) (fun q => evT f 489 31 [oR 549 0, oI a1, oI a2, nn, nn] (q.2 ++ []) q.1)) (fun _ => rfl) (rg_bd2 h fun s12 v13 hc h => rg_call (q := cvI (s12, v13)) (T_fM_no hc) ?_)
      exact rg_end 1 (fun _ => rfl) (by cases h; rfl)
theorem t_fM_doLose_b47 {s : ev_M} {j1 : Option ev_V} {q : ev_M × Int32} (h : fM_doLose_b47 s = some q) : RR 491 47 [oR 549 0, j1] [] s (cvI q) := by
  refine rg_step 3 (G' := fun f => ev_after (evT f 315 0 [oR 549 0, oI (cI (-103))] [] s) (fun q => evT f 491 53 [oR 549 0, nn] (q.2 ++ []) q.1)) (fun _ => rfl) (rg_bd2 h fun s1 v2 hc h => rg_call (q := cvI (s1, v2)) (T_fM_no hc) ?_)
  exact rg_end 1 (fun _ => rfl) (by cases h; rfl)
theorem T_fM_doLose {s : ev_M} {a1 : Int32} {q : ev_M × Int32} (h : fM_doLose s a1 = some q) : RR 491 0 [oR 549 0, oI a1] [] s (cvI q) := by
  refine rg_step 3 (G' := fun f => ev_after (evT f 342 0 [oR 549 0, oI a1] [] s) (fun q => evT f 491 5 [oR 549 0, oI a1] (q.2 ++ []) q.1)) (fun _ => rfl) (rg_bd1 h fun v3 hc h => rg_call (q := cvP s v3) (T_fM_isItem hc) ?_)
  refine rg_step 1 (G' := fun f => if v3 = 0 then evT f 491 8 [oR 549 0, oI a1] [] s else evT f 491 15 [oR 549 0, oI a1] [] s) (fun _ => rfl) (rg_if h (fun h => ?_) fun h => ?_)
  · refine rg_step 3 (G' := fun f => ev_after (evT f 315 0 [oR 549 0, oI (cI (-101))] [] s) (fun q => evT f 491 14 [oR 549 0, oI a1] (q.2 ++ []) q.1)) (fun _ => rfl) (rg_bd2 h fun s4 v5 hc h => rg_call (q := cvI (s4, v5)) (T_fM_no hc) ?_)
    exact rg_end 1 (fun _ => rfl) (by cases h; rfl)
  · refine rg_step 4 (G' := fun f => if inb a1 300 = true then evT f 491 21 [oR 549 0, oI a1] [vI (s.1 583 (ix a1))] s else none) (fun _ => rfl) (rg_gd h fun h => ?_)
    refine rg_step 2 (G' := fun f => if (s.1 583 (ix a1)) = (cI 5) then evT f 491 47 [oR 549 0, oI a1] [] s else evT f 491 25 [oR 549 0, oI a1] [] s) (fun _ => rfl) (rg_if h (fun h => ?_) fun h => ?_)
    · exact (t_fM_doLose_b47) h
    · refine rg_step 4 (G' := fun f => if inb a1 300 = true then evT f 491 31 [oR 549 0, oI a1] [vI (s.1 583 (ix a1))] s else none) (fun _ => rfl) (rg_gd h fun h => ?_)
      refine rg_step 2 (G' := fun f => if (s.1 583 (ix a1)) = (cI 7) then evT f 491 47 [oR 549 0, oI a1] [] s else evT f 491 36 [oR 549 0, oI a1] [] s) (fun _ => rfl) (rg_if h (fun h => ?_) fun h => ?_)
      · exact (t_fM_doLose_b47) h
      · refine rg_step 4 (G' := fun f => if inb a1 300 = true then evT f 491 42 [oR 549 0, oI a1] [vI (s.1 583 (ix a1))] s else none) (fun _ => rfl) (rg_gd h fun h => ?_)
        refine rg_step 2 (G' := fun f => if (s.1 583 (ix a1)) = (cI 8) then evT f 491 47 [oR 549 0, oI a1] [] s else evT f 491 54 [oR 549 0, oI a1] [] s) (fun _ => rfl) (rg_if h (fun h => ?_) fun h => ?_)
        · exact (t_fM_doLose_b47) h
        · refine rg_step 2 (G' := fun f => ev_after (evT f 316 0 [oR 549 0, nn] [] s) (fun q => evT f 491 58 [oR 549 0, oI a1] (q.2 ++ []) q.1)) (fun _ => rfl) (rg_bd1 h fun v6 hc h => rg_call (q := cvP s v6) (T_fM_full hc) ?_)
          refine rg_step 1 (G' := fun f => if v6 = 0 then evT f 491 68 [oR 549 0, oI a1] [] s else evT f 491 61 [oR 549 0, oI a1] [] s) (fun _ => rfl) (rg_if h (fun h => ?_) fun h => ?_)
          · refine rg_step 3 (G' := fun f => ev_after (evT f 352 0 [oR 549 0, oI a1] [] s) (fun q => evT f 491 73 [oR 549 0, oI a1] (q.2 ++ []) q.1)) (fun _ => rfl) (rg_bd1 h fun s7 hc h => rg_call (q := cvV s7) (T_fM_leaves hc) ?_)
            refine rg_step 4 (G' := fun f => ev_after (evT f 351 0 [oR 549 0, oI a1, oI (cI 8)] [] s7) (fun q => evT f 491 80 [oR 549 0, oI a1] (q.2 ++ []) q.1)) (fun _ => rfl) (rg_bd1 h fun s8 hc h => rg_call (q := cvV s8) (T_fM_comes hc) ?_)
            exact rg_end 2 (fun _ => rfl) (by cases h; rfl)
          · refine rg_step 3 (G' := fun f => ev_after (evT f 315 0 [oR 549 0, oI (cI (-104))] [] s) (fun q => evT f 491 67 [oR 549 0, oI a1] (q.2 ++ []) q.1)) (fun _ => rfl) (rg_bd2 h fun s9 v10 hc h => rg_call (q := cvI (s9, v10)) (T_fM_no hc) ?_)
            exact rg_end 1 (fun _ => rfl) (by cases h; rfl)
theorem t_fM_doAccount_b31 {s : ev_M} {j1 : Option ev_V} {q : ev_M × Int32} (h : fM_doAccount_b31 s = some q) : RR 493 31 [oR 549 0, j1] [] s (cvI q) := by
  refine rg_step 3 (G' := fun f => ev_after (evT f 315 0 [oR 549 0, oI (cI (-104))] [] s) (fun q => evT f 493 37 [oR 549 0, nn] (q.2 ++ []) q.1)) (fun _ => rfl) (rg_bd2 h fun s1 v2 hc h => rg_call (q := cvI (s1, v2)) (T_fM_no hc) ?_)
  exact rg_end 1 (fun _ => rfl) (by cases h; rfl)
theorem T_fM_doAccount {s : ev_M} {a1 : Int32} {q : ev_M × Int32} (h : fM_doAccount s a1 = some q) : RR 493 0 [oR 549 0, oI a1] [] s (cvI q) := by
  refine rg_step 3 (G' := fun f => ev_after (evT f 341 0 [oR 549 0, oI a1] [] s) (fun q => evT f 493 5 [oR 549 0, oI a1] (q.2 ++ []) q.1)) (fun _ => rfl) (rg_bd1 h fun v3 hc h => rg_call (q := cvP s v3) (T_fM_isPoint hc) ?_)
  refine rg_step 1 (G' := fun f => if v3 = 0 then evT f 493 8 [oR 549 0, oI a1] [] s else evT f 493 15 [oR 549 0, oI a1] [] s) (fun _ => rfl) (rg_if h (fun h => ?_) fun h => ?_)
  · refine rg_step 3 (G' := fun f => ev_after (evT f 315 0 [oR 549 0, oI (cI (-101))] [] s) (fun q => evT f 493 14 [oR 549 0, oI a1] (q.2 ++ []) q.1)) (fun _ => rfl) (rg_bd2 h fun s4 v5 hc h => rg_call (q := cvI (s4, v5)) (T_fM_no hc) ?_)
    exact rg_end 1 (fun _ => rfl) (by cases h; rfl)
  · refine rg_step 4 (G' := fun f => if (s.1 549 111) = (cI 30) then evT f 493 31 [oR 549 0, oI a1] [] s else evT f 493 24 [oR 549 0, oI a1] [] s) (fun _ => rfl) (rg_if h (fun h => ?_) fun h => ?_)
    · exact (t_fM_doAccount_b31) h
    · refine rg_step 2 (G' := fun f => ev_after (evT f 316 0 [oR 549 0, nn] [] s) (fun q => evT f 493 28 [oR 549 0, oI a1] (q.2 ++ []) q.1)) (fun _ => rfl) (rg_bd1 h fun v6 hc h => rg_call (q := cvP s v6) (T_fM_full hc) ?_)
      refine rg_step 1 (G' := fun f => if v6 = 0 then evT f 493 38 [oR 549 0, oI a1] [] s else evT f 493 31 [oR 549 0, oI a1] [] s) (fun _ => rfl) (rg_if h (fun h => ?_) fun h => ?_)
      · refine rg_step 6 (G' := fun f => if inb (s.1 549 111) 30 = true then evT f 493 48 [oR 549 0, oI a1] [] (wI s 626 (ix (s.1 549 111)) a1) else none) (fun _ => rfl) (rg_gd h fun h => rg_ltM h fun s7 h => ?_)
        refine rg_step 6 (G' := fun f => if inb (s7.1 549 111) 30 = true then evT f 493 58 [oR 549 0, oI a1] [] (wI s7 627 (ix (s7.1 549 111)) (cI 0)) else none) (fun _ => rfl) (rg_gd h fun h => rg_ltM h fun s8 h => ?_)
        refine rg_step 6 (G' := fun f => evT f 493 68 [oR 549 0, oI a1] [] (wI s8 549 111 ((s8.1 549 111) + (cI 1)))) (fun _ => rfl) (rg_ltM h fun s9 h => ?_)
        exact rg_end 7 (fun _ => rfl) (by cases h; rfl)
      · exact (t_fM_doAccount_b31) h
theorem t_fM_balanceOf_b65 {s : ev_M} {k5 : Int32 → Int64 → Int32 → Option Int64} (hk5 : ∀ {x1 : Int32} {x2 : Int64} {x4 : Int32} {j3 : Option ev_V} {q : Int64}, k5 x1 x2 x4 = some q → RR 477 5 [oR 549 0, oI x1, oL x2, j3, oI x4] [] s (cvPL s q)) {x1 : Int32} {x4 : Int32} {y0 : Int64} {j2 : Option ev_V} {j3 : Option ev_V} {q : Int64} (h : fM_balanceOf_b65 s k5 x1 x4 y0 = some q) : RR 477 65 [oR 549 0, oI x1, j2, j3, oI x4] [vL y0] s (cvPL s q) := by
  exact rg_step 3 (G' := fun f => evT f 477 5 [oR 549 0, oI x1, oL y0, nn, oI (x4 + cI 1)] [] s) (fun _ => rfl) (hk5 h)
theorem t_fM_balanceOf_b39 {s : ev_M} {k5 : Int32 → Int64 → Int32 → Option Int64} (hk5 : ∀ {x1 : Int32} {x2 : Int64} {x4 : Int32} {j3 : Option ev_V} {q : Int64}, k5 x1 x2 x4 = some q → RR 477 5 [oR 549 0, oI x1, oL x2, j3, oI x4] [] s (cvPL s q)) {x1 : Int32} {x4 : Int32} {y0 : Int64} {j2 : Option ev_V} {j3 : Option ev_V} {q : Int64} (h : fM_balanceOf_b39 s k5 x1 x4 y0 = some q) : RR 477 39 [oR 549 0, oI x1, j2, j3, oI x4] [vL y0] s (cvPL s q) := by
  refine rg_step 5 (G' := fun f => if inb x4 2000 = true then evT f 477 47 [oR 549 0, oI x1, oL y0, nn, oI x4] [vI (s.1 628 (ix x4))] s else none) (fun _ => rfl) (rg_gd h fun h => ?_)
  refine rg_step 2 (G' := fun f => if (s.1 628 (ix x4)) = x1 then evT f 477 51 [oR 549 0, oI x1, oL y0, nn, oI x4] [] s else evT f 477 64 [oR 549 0, oI x1, oL y0, nn, oI x4] [] s) (fun _ => rfl) (rg_if h (fun h => ?_) fun h => ?_)
  · refine rg_step 5 (G' := fun f => if inb x4 2000 = true then evT f 477 59 [oR 549 0, oI x1, oL y0, nn, oI x4] [vI (s.1 630 (ix x4)), vL y0] s else none) (fun _ => rfl) (rg_gd h fun h => ?_)
    exact rg_step 3 (G' := fun f => evT f 477 65 [oR 549 0, oI x1, oL y0, nn, oI x4] [vL (y0 - (Int32.toInt64 (s.1 630 (ix x4))))] s) (fun _ => rfl) ((t_fM_balanceOf_b65 hk5) h)
  · exact rg_step 1 (G' := fun f => evT f 477 65 [oR 549 0, oI x1, oL y0, nn, oI x4] [vL y0] s) (fun _ => rfl) ((t_fM_balanceOf_b65 hk5) h)
