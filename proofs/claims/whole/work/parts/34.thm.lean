/-! ===== the interpreter does what the functions say, 3 ===== -/
theorem ti_fM_balanceOf_h5 {s : ev_M} : ∀ (n : Nat) (x1 : Int32) (x2 : Int64) (x4 : Int32) (j3 : Option ev_V) (q : Int64), fM_balanceOf_h5 s n x1 x2 x4 = some q → RR 477 5 [oR 549 0, oI x1, oL x2, j3, oI x4] [] s (cvPL s q) := by
  intro n
  induction n with
  | zero => intro x1 x2 x4 j3 q h; cases h
  | succ n ih =>
    have hk5 : ∀ {x1 : Int32} {x2 : Int64} {x4 : Int32} {j3 : Option ev_V} {q : Int64}, fM_balanceOf_h5 s n x1 x2 x4 = some q → RR 477 5 [oR 549 0, oI x1, oL x2, j3, oI x4] [] s (cvPL s q) := fun h => ih _ _ _ _ _ h
    intro x1 x2 x4 j3 q h
    refine rg_step 4 (G' := fun f => if x4 < (s.1 549 114) then evT f 477 14 [oR 549 0, oI x1, oL x2, nn, oI x4] [] s else evT f 477 72 [oR 549 0, oI x1, oL x2, nn, oI x4] [] s) (fun _ => rfl) (rg_if h (fun h => ?_) fun h => ?_)
    · refine rg_step 4 (G' := fun f => if inb x4 2000 = true then evT f 477 21 [oR 549 0, oI x1, oL x2, nn, oI x4] [vI (s.1 629 (ix x4))] s else none) (fun _ => rfl) (rg_gd h fun h => ?_)
      refine rg_step 2 (G' := fun f => if (s.1 629 (ix x4)) = x1 then evT f 477 25 [oR 549 0, oI x1, oL x2, nn, oI x4] [] s else evT f 477 38 [oR 549 0, oI x1, oL x2, nn, oI x4] [] s) (fun _ => rfl) (rg_if h (fun h => ?_) fun h => ?_)
      · refine rg_step 5 (G' := fun f => if inb x4 2000 = true then evT f 477 33 [oR 549 0, oI x1, oL x2, nn, oI x4] [vI (s.1 630 (ix x4)), vL x2] s else none) (fun _ => rfl) (rg_gd h fun h => ?_)
        exact rg_step 3 (G' := fun f => evT f 477 39 [oR 549 0, oI x1, oL x2, nn, oI x4] [vL (x2 + (Int32.toInt64 (s.1 630 (ix x4))))] s) (fun _ => rfl) ((t_fM_balanceOf_b39 hk5) h)
      · exact rg_step 1 (G' := fun f => evT f 477 39 [oR 549 0, oI x1, oL x2, nn, oI x4] [vL x2] s) (fun _ => rfl) ((t_fM_balanceOf_b39 hk5) h)
    · exact rg_end 2 (fun _ => rfl) (by cases h; rfl)
theorem t_fM_balanceOf_h5 {s : ev_M} {n : Nat} {x1 : Int32} {x2 : Int64} {x4 : Int32} {j3 : Option ev_V} {q : Int64} (h : fM_balanceOf_h5 s n x1 x2 x4 = some q) : RR 477 5 [oR 549 0, oI x1, oL x2, j3, oI x4] [] s (cvPL s q) := ti_fM_balanceOf_h5 n x1 x2 x4 j3 q h
theorem T_fM_balanceOf {s : ev_M} {a1 : Int32} {q : Int64} (h : fM_balanceOf s a1 = some q) : RR 477 0 [oR 549 0, oI a1, nn, nn, nn] [] s (cvPL s q) := by
  exact rg_step 4 (G' := fun f => evT f 477 5 [oR 549 0, oI a1, oL (cL 0), nn, oI (cI 0)] [] s) (fun _ => rfl) ((t_fM_balanceOf_h5) h)
theorem t_fM_doDeposit_b52 {s : ev_M} {j1 : Option ev_V} {j2 : Option ev_V} {q : ev_M × Int32} (h : fM_doDeposit_b52 s = some q) : RR 495 52 [oR 549 0, j1, j2] [] s (cvI q) := by
  refine rg_step 3 (G' := fun f => ev_after (evT f 315 0 [oR 549 0, oI (cI (-104))] [] s) (fun q => evT f 495 58 [oR 549 0, nn, nn] (q.2 ++ []) q.1)) (fun _ => rfl) (rg_bd2 h fun s1 v2 hc h => rg_call (q := cvI (s1, v2)) (T_fM_no hc) ?_)
  exact rg_end 1 (fun _ => rfl) (by cases h; rfl)
theorem T_fM_doDeposit {s : ev_M} {a1 : Int32} {a2 : Int32} {q : ev_M × Int32} (h : fM_doDeposit s a1 a2 = some q) : RR 495 0 [oR 549 0, oI a1, oI a2] [] s (cvI q) := by
  refine rg_step 3 (G' := fun f => ev_after (evT f 347 0 [oR 549 0, oI a1] [] s) (fun q => evT f 495 5 [oR 549 0, oI a1, oI a2] (q.2 ++ []) q.1)) (fun _ => rfl) (rg_bd1 h fun v3 hc h => rg_call (q := cvP s v3) (T_fM_isCustomer hc) ?_)
  refine rg_step 1 (G' := fun f => if v3 = 0 then evT f 495 8 [oR 549 0, oI a1, oI a2] [] s else evT f 495 15 [oR 549 0, oI a1, oI a2] [] s) (fun _ => rfl) (rg_if h (fun h => ?_) fun h => ?_)
  · refine rg_step 3 (G' := fun f => ev_after (evT f 315 0 [oR 549 0, oI (cI (-101))] [] s) (fun q => evT f 495 14 [oR 549 0, oI a1, oI a2] (q.2 ++ []) q.1)) (fun _ => rfl) (rg_bd2 h fun s4 v5 hc h => rg_call (q := cvI (s4, v5)) (T_fM_no hc) ?_)
    exact rg_end 1 (fun _ => rfl) (by cases h; rfl)
  · refine rg_step 4 (G' := fun f => ev_after (evT f 311 0 [oI a2, oI (cI 1), oI (cI 1000000)] [] s) (fun q => evT f 495 23 [oR 549 0, oI a1, oI a2] (q.2 ++ []) q.1)) (fun _ => rfl) (rg_bd1 h fun v6 hc h => rg_call (q := cvP s v6) (T_fM_in hc) ?_)
    refine rg_step 1 (G' := fun f => if v6 = 0 then evT f 495 26 [oR 549 0, oI a1, oI a2] [] s else evT f 495 33 [oR 549 0, oI a1, oI a2] [] s) (fun _ => rfl) (rg_if h (fun h => ?_) fun h => ?_)
    · refine rg_step 3 (G' := fun f => ev_after (evT f 315 0 [oR 549 0, oI (cI (-102))] [] s) (fun q => evT f 495 32 [oR 549 0, oI a1, oI a2] (q.2 ++ []) q.1)) (fun _ => rfl) (rg_bd2 h fun s7 v8 hc h => rg_call (q := cvI (s7, v8)) (T_fM_no hc) ?_)
      exact rg_end 1 (fun _ => rfl) (by cases h; rfl)
    · refine rg_step 4 (G' := fun f => ev_after (evT f 474 0 [oR 549 0, nn, nn] [] s) (fun q => evT f 495 39 [oR 549 0, oI a1, oI a2] (q.2 ++ [vI (cI 1), vR 549 0]) q.1)) (fun _ => rfl) (rg_bd1 h fun v9 hc h => rg_call (q := cvP s v9) (T_fM_openOrders hc) ?_)
      refine rg_step 1 (G' := fun f => ev_after (evT f 475 0 [oR 549 0, oI (cI 1), oI v9] [] s) (fun q => evT f 495 42 [oR 549 0, oI a1, oI a2] (q.2 ++ []) q.1)) (fun _ => rfl) (rg_bd1 h fun v10 hc h => rg_call (q := cvP s v10) (T_fM_isLedgerFull hc) ?_)
      refine rg_step 1 (G' := fun f => if v10 = 0 then evT f 495 45 [oR 549 0, oI a1, oI a2] [] s else evT f 495 52 [oR 549 0, oI a1, oI a2] [] s) (fun _ => rfl) (rg_if h (fun h => ?_) fun h => ?_)
      · refine rg_step 2 (G' := fun f => ev_after (evT f 316 0 [oR 549 0, nn] [] s) (fun q => evT f 495 49 [oR 549 0, oI a1, oI a2] (q.2 ++ []) q.1)) (fun _ => rfl) (rg_bd1 h fun v11 hc h => rg_call (q := cvP s v11) (T_fM_full hc) ?_)
        refine rg_step 1 (G' := fun f => if v11 = 0 then evT f 495 59 [oR 549 0, oI a1, oI a2] [] s else evT f 495 52 [oR 549 0, oI a1, oI a2] [] s) (fun _ => rfl) (rg_if h (fun h => ?_) fun h => ?_)
        · refine rg_step 6 (G' := fun f => ev_after (evT f 476 0 [oR 549 0, oI (cI 1), oI a1, oI a2, oI (cI (-1))] [] s) (fun q => evT f 495 67 [oR 549 0, oI a1, oI a2] (q.2 ++ []) q.1)) (fun _ => rfl) (rg_bd1 h fun s12 hc h => rg_call (q := cvV s12) (T_fM_pay hc) ?_)
          refine rg_step 3 (G' := fun f => ev_after (evT f 477 0 [oR 549 0, oI a1, nn, nn, nn] [] s12) (fun q => evT f 495 72 [oR 549 0, oI a1, oI a2] (q.2 ++ []) q.1)) (fun _ => rfl) (rg_bd1 h fun v13 hc h => rg_call (q := cvPL s12 v13) (T_fM_balanceOf hc) ?_)
          exact rg_end 2 (fun _ => rfl) (by cases h; rfl)
        · exact (t_fM_doDeposit_b52) h
      · exact (t_fM_doDeposit_b52) h
theorem t_fM_rowOfTariff_b273 {k184 : ev_M → Int32 → Int32 → Int32 → Int32 → Int32 → Int32 → Option (ev_M × Int32)} (hk184 : ∀ {s : ev_M} {x1 : Int32} {x2 : Int32} {x3 : Int32} {x4 : Int32} {x5 : Int32} {x6 : Int32} {j7 : Option ev_V} {q : ev_M × Int32}, k184 s x1 x2 x3 x4 x5 x6 = some q → RR 499 184 [oR 549 0, oI x1, oI x2, oI x3, oI x4, oI x5, oI x6, j7] [] s (cvI q)) {s : ev_M} {x1 : Int32} {x2 : Int32} {x3 : Int32} {x4 : Int32} {x6 : Int32} {y0 : Int32} {j5 : Option ev_V} {j7 : Option ev_V} {q : ev_M × Int32} (h : fM_rowOfTariff_b273 k184 s x1 x2 x3 x4 x6 y0 = some q) : RR 499 273 [oR 549 0, oI x1, oI x2, oI x3, oI x4, j5, oI x6, j7] [vI y0] s (cvI q) := by
  exact rg_step 3 (G' := fun f => evT f 499 184 [oR 549 0, oI x1, oI x2, oI x3, oI x4, oI y0, oI (x6 + cI 1), nn] [] s) (fun _ => rfl) (hk184 h)
theorem t_fM_rowOfTariff_b272 {k184 : ev_M → Int32 → Int32 → Int32 → Int32 → Int32 → Int32 → Option (ev_M × Int32)} (hk184 : ∀ {s : ev_M} {x1 : Int32} {x2 : Int32} {x3 : Int32} {x4 : Int32} {x5 : Int32} {x6 : Int32} {j7 : Option ev_V} {q : ev_M × Int32}, k184 s x1 x2 x3 x4 x5 x6 = some q → RR 499 184 [oR 549 0, oI x1, oI x2, oI x3, oI x4, oI x5, oI x6, j7] [] s (cvI q)) {s : ev_M} {x1 : Int32} {x2 : Int32} {x3 : Int32} {x4 : Int32} {x6 : Int32} {j5 : Option ev_V} {j7 : Option ev_V} {q : ev_M × Int32} (h : fM_rowOfTariff_b272 k184 s x1 x2 x3 x4 x6 = some q) : RR 499 272 [oR 549 0, oI x1, oI x2, oI x3, oI x4, j5, oI x6, j7] [] s (cvI q) := by
  exact rg_step 1 (G' := fun f => evT f 499 273 [oR 549 0, oI x1, oI x2, oI x3, oI x4, nn, oI x6, nn] [vI (cI 0)] s) (fun _ => rfl) ((t_fM_rowOfTariff_b273 hk184) h)
theorem t_fM_rowOfTariff_b256 {k184 : ev_M → Int32 → Int32 → Int32 → Int32 → Int32 → Int32 → Option (ev_M × Int32)} (hk184 : ∀ {s : ev_M} {x1 : Int32} {x2 : Int32} {x3 : Int32} {x4 : Int32} {x5 : Int32} {x6 : Int32} {j7 : Option ev_V} {q : ev_M × Int32}, k184 s x1 x2 x3 x4 x5 x6 = some q → RR 499 184 [oR 549 0, oI x1, oI x2, oI x3, oI x4, oI x5, oI x6, j7] [] s (cvI q)) {s : ev_M} {x1 : Int32} {x2 : Int32} {x3 : Int32} {x4 : Int32} {x5 : Int32} {x6 : Int32} {y0 : Int32} {j7 : Option ev_V} {q : ev_M × Int32} (h : fM_rowOfTariff_b256 k184 s x1 x2 x3 x4 x5 x6 y0 = some q) : RR 499 256 [oR 549 0, oI x1, oI x2, oI x3, oI x4, oI x5, oI x6, j7] [vI y0] s (cvI q) := by
  refine rg_step 3 (G' := fun f => if x5 = 0 then evT f 499 272 [oR 549 0, oI x1, oI x2, oI x3, oI x4, oI x5, oI x6, oI y0] [] s else evT f 499 263 [oR 549 0, oI x1, oI x2, oI x3, oI x4, oI x5, oI x6, oI y0] [] s) (fun _ => rfl) (rg_if h (fun h => ?_) fun h => ?_)
  · exact (t_fM_rowOfTariff_b272 hk184) h
  · refine rg_step 2 (G' := fun f => if y0 = 0 then evT f 499 268 [oR 549 0, oI x1, oI x2, oI x3, oI x4, oI x5, oI x6, oI y0] [] s else evT f 499 272 [oR 549 0, oI x1, oI x2, oI x3, oI x4, oI x5, oI x6, oI y0] [] s) (fun _ => rfl) (rg_if h (fun h => ?_) fun h => ?_)
    · exact rg_step 2 (G' := fun f => evT f 499 273 [oR 549 0, oI x1, oI x2, oI x3, oI x4, oI x5, oI x6, oI y0] [vI (cI 1)] s) (fun _ => rfl) ((t_fM_rowOfTariff_b273 hk184) h)
    · exact (t_fM_rowOfTariff_b272 hk184) h
theorem t_fM_rowOfTariff_b225 {k184 : ev_M → Int32 → Int32 → Int32 → Int32 → Int32 → Int32 → Option (ev_M × Int32)} (hk184 : ∀ {s : ev_M} {x1 : Int32} {x2 : Int32} {x3 : Int32} {x4 : Int32} {x5 : Int32} {x6 : Int32} {j7 : Option ev_V} {q : ev_M × Int32}, k184 s x1 x2 x3 x4 x5 x6 = some q → RR 499 184 [oR 549 0, oI x1, oI x2, oI x3, oI x4, oI x5, oI x6, j7] [] s (cvI q)) {s : ev_M} {x1 : Int32} {x2 : Int32} {x3 : Int32} {x4 : Int32} {x5 : Int32} {x6 : Int32} {j7 : Option ev_V} {q : ev_M × Int32} (h : fM_rowOfTariff_b225 k184 s x1 x2 x3 x4 x5 x6 = some q) : RR 499 225 [oR 549 0, oI x1, oI x2, oI x3, oI x4, oI x5, oI x6, j7] [] s (cvI q) := by
  exact rg_step 2 (G' := fun f => evT f 499 256 [oR 549 0, oI x1, oI x2, oI x3, oI x4, oI x5, oI x6, nn] [vI (cI 0)] s) (fun _ => rfl) ((t_fM_rowOfTariff_b256 hk184) h)
theorem t_fM_rowOfTariff_b255 {k184 : ev_M → Int32 → Int32 → Int32 → Int32 → Int32 → Int32 → Option (ev_M × Int32)} (hk184 : ∀ {s : ev_M} {x1 : Int32} {x2 : Int32} {x3 : Int32} {x4 : Int32} {x5 : Int32} {x6 : Int32} {j7 : Option ev_V} {q : ev_M × Int32}, k184 s x1 x2 x3 x4 x5 x6 = some q → RR 499 184 [oR 549 0, oI x1, oI x2, oI x3, oI x4, oI x5, oI x6, j7] [] s (cvI q)) {s : ev_M} {x1 : Int32} {x2 : Int32} {x3 : Int32} {x4 : Int32} {x5 : Int32} {x6 : Int32} {j7 : Option ev_V} {q : ev_M × Int32} (h : fM_rowOfTariff_b255 k184 s x1 x2 x3 x4 x5 x6 = some q) : RR 499 255 [oR 549 0, oI x1, oI x2, oI x3, oI x4, oI x5, oI x6, j7] [] s (cvI q) := by
  exact rg_step 1 (G' := fun f => evT f 499 256 [oR 549 0, oI x1, oI x2, oI x3, oI x4, oI x5, oI x6, nn] [vI (cI 0)] s) (fun _ => rfl) ((t_fM_rowOfTariff_b256 hk184) h)
theorem t_fM_rowOfTariff_b325 {s : ev_M} {x4 : Int32} {x5 : Int32} {y1 : Int32} {y2 : Int32} {j1 : Option ev_V} {j2 : Option ev_V} {j3 : Option ev_V} {j6 : Option ev_V} {j7 : Option ev_V} {q : ev_M × Int32} (h : fM_rowOfTariff_b325 s x4 x5 y1 y2 = some q) : RR 499 325 [oR 549 0, j1, j2, j3, oI x4, oI x5, j6, j7] [vI y2, vI y1, vR 638 0] s (cvI q) := by
  refine rg_step 1 (G' := fun f => if inb y1 40 = true then evT f 499 326 [oR 549 0, nn, nn, nn, oI x4, oI x5, nn, nn] [] (wI s 638 (ix y1) y2) else none) (fun _ => rfl) (rg_gd h fun h => rg_ltM h fun s1 h => ?_)
  refine rg_step 6 (G' := fun f => if inb (s1.1 549 125) 40 = true then evT f 499 337 [oR 549 0, nn, nn, nn, oI x4, oI x5, nn, nn] [] (wI s1 639 (ix (s1.1 549 125)) x4) else none) (fun _ => rfl) (rg_gd h fun h => rg_ltM h fun s2 h => ?_)
  refine rg_step 6 (G' := fun f => evT f 499 347 [oR 549 0, nn, nn, nn, oI x4, oI x5, nn, nn] [] (wI s2 549 125 ((s2.1 549 125) + (cI 1)))) (fun _ => rfl) (rg_ltM h fun s3 h => ?_)
  exact rg_step 2 (G' := fun f => if bz x5 = true then some (s3, [vI x5]) else none) (fun _ => rfl) (rg_gd h fun h => rg_end 0 (fun _ => rfl) (by cases h; rfl))
theorem t_fM_rowOfTariff_b305 {s : ev_M} {x1 : Int32} {x2 : Int32} {x3 : Int32} {x4 : Int32} {x5 : Int32} {y1 : Int32} {y2 : Int32} {j6 : Option ev_V} {j7 : Option ev_V} {q : ev_M × Int32} (h : fM_rowOfTariff_b305 s x1 x2 x3 x4 x5 y1 y2 = some q) : RR 499 305 [oR 549 0, oI x1, oI x2, oI x3, oI x4, oI x5, j6, j7] [vI y2, vI y1, vR 637 0] s (cvI q) := by
  refine rg_step 1 (G' := fun f => if inb y1 40 = true then evT f 499 306 [oR 549 0, oI x1, oI x2, oI x3, oI x4, oI x5, nn, nn] [] (wI s 637 (ix y1) y2) else none) (fun _ => rfl) (rg_gd h fun h => rg_ltM h fun s4 h => ?_)
  refine rg_step 7 (G' := fun f => if x1 = (cI 75) then evT f 499 320 [oR 549 0, oI x1, oI x2, oI x3, oI x4, oI x5, nn, nn] [vI (s4.1 549 125), vR 638 0] s4 else evT f 499 324 [oR 549 0, oI x1, oI x2, oI x3, oI x4, oI x5, nn, nn] [vI (s4.1 549 125), vR 638 0] s4) (fun _ => rfl) (rg_if h (fun h => ?_) fun h => ?_)
  · exact rg_step 2 (G' := fun f => evT f 499 325 [oR 549 0, oI x1, oI x2, oI x3, oI x4, oI x5, nn, nn] [vI x3, vI (s4.1 549 125), vR 638 0] s4) (fun _ => rfl) ((t_fM_rowOfTariff_b325) h)
  · exact rg_step 1 (G' := fun f => evT f 499 325 [oR 549 0, oI x1, oI x2, oI x3, oI x4, oI x5, nn, nn] [vI x2, vI (s4.1 549 125), vR 638 0] s4) (fun _ => rfl) ((t_fM_rowOfTariff_b325) h)
theorem ti_fM_rowOfTariff_h184 : ∀ (n : Nat) (s : ev_M) (x1 : Int32) (x2 : Int32) (x3 : Int32) (x4 : Int32) (x5 : Int32) (x6 : Int32) (j7 : Option ev_V) (q : ev_M × Int32), fM_rowOfTariff_h184 n s x1 x2 x3 x4 x5 x6 = some q → RR 499 184 [oR 549 0, oI x1, oI x2, oI x3, oI x4, oI x5, oI x6, j7] [] s (cvI q) := by
  intro n
  induction n with
  | zero => intro s x1 x2 x3 x4 x5 x6 j7 q h; cases h
  | succ n ih =>
    have hk184 : ∀ {s : ev_M} {x1 : Int32} {x2 : Int32} {x3 : Int32} {x4 : Int32} {x5 : Int32} {x6 : Int32} {j7 : Option ev_V} {q : ev_M × Int32}, fM_rowOfTariff_h184 n s x1 x2 x3 x4 x5 x6 = some q → RR 499 184 [oR 549 0, oI x1, oI x2, oI x3, oI x4, oI x5, oI x6, j7] [] s (cvI q) := fun h => ih _ _ _ _ _ _ _ _ _ h
    intro s x1 x2 x3 x4 x5 x6 j7 q h
    refine rg_step 4 (G' := fun f => if x6 < (s.1 549 125) then evT f 499 193 [oR 549 0, oI x1, oI x2, oI x3, oI x4, oI x5, oI x6, nn] [] s else evT f 499 281 [oR 549 0, oI x1, oI x2, oI x3, oI x4, oI x5, oI x6, nn] [] s) (fun _ => rfl) (rg_if h (fun h => ?_) fun h => ?_)
    · refine rg_step 3 (G' := fun f => if x1 = (cI 75) then evT f 499 199 [oR 549 0, oI x1, oI x2, oI x3, oI x4, oI x5, oI x6, nn] [] s else evT f 499 229 [oR 549 0, oI x1, oI x2, oI x3, oI x4, oI x5, oI x6, nn] [] s) (fun _ => rfl) (rg_if h (fun h => ?_) fun h => ?_)
      · refine rg_step 4 (G' := fun f => if inb x6 40 = true then evT f 499 206 [oR 549 0, oI x1, oI x2, oI x3, oI x4, oI x5, oI x6, nn] [vI (s.1 637 (ix x6))] s else none) (fun _ => rfl) (rg_gd h fun h => ?_)
        refine rg_step 2 (G' := fun f => if (s.1 637 (ix x6)) = x2 then evT f 499 210 [oR 549 0, oI x1, oI x2, oI x3, oI x4, oI x5, oI x6, nn] [] s else evT f 499 225 [oR 549 0, oI x1, oI x2, oI x3, oI x4, oI x5, oI x6, nn] [] s) (fun _ => rfl) (rg_if h (fun h => ?_) fun h => ?_)
        · refine rg_step 4 (G' := fun f => if inb x6 40 = true then evT f 499 217 [oR 549 0, oI x1, oI x2, oI x3, oI x4, oI x5, oI x6, nn] [vI (s.1 638 (ix x6))] s else none) (fun _ => rfl) (rg_gd h fun h => ?_)
          refine rg_step 2 (G' := fun f => if (s.1 638 (ix x6)) < x3 then evT f 499 225 [oR 549 0, oI x1, oI x2, oI x3, oI x4, oI x5, oI x6, nn] [] s else evT f 499 221 [oR 549 0, oI x1, oI x2, oI x3, oI x4, oI x5, oI x6, nn] [] s) (fun _ => rfl) (rg_if h (fun h => ?_) fun h => ?_)
          · exact (t_fM_rowOfTariff_b225 hk184) h
          · exact rg_step 2 (G' := fun f => evT f 499 256 [oR 549 0, oI x1, oI x2, oI x3, oI x4, oI x5, oI x6, nn] [vI (cI 1)] s) (fun _ => rfl) ((t_fM_rowOfTariff_b256 hk184) h)
        · exact (t_fM_rowOfTariff_b225 hk184) h
      · refine rg_step 4 (G' := fun f => if inb x6 40 = true then evT f 499 236 [oR 549 0, oI x1, oI x2, oI x3, oI x4, oI x5, oI x6, nn] [vI (s.1 637 (ix x6))] s else none) (fun _ => rfl) (rg_gd h fun h => ?_)
        refine rg_step 2 (G' := fun f => if (s.1 637 (ix x6)) = (cI 4) then evT f 499 240 [oR 549 0, oI x1, oI x2, oI x3, oI x4, oI x5, oI x6, nn] [] s else evT f 499 255 [oR 549 0, oI x1, oI x2, oI x3, oI x4, oI x5, oI x6, nn] [] s) (fun _ => rfl) (rg_if h (fun h => ?_) fun h => ?_)
        · refine rg_step 4 (G' := fun f => if inb x6 40 = true then evT f 499 247 [oR 549 0, oI x1, oI x2, oI x3, oI x4, oI x5, oI x6, nn] [vI (s.1 638 (ix x6))] s else none) (fun _ => rfl) (rg_gd h fun h => ?_)
          refine rg_step 2 (G' := fun f => if (s.1 638 (ix x6)) = x2 then evT f 499 251 [oR 549 0, oI x1, oI x2, oI x3, oI x4, oI x5, oI x6, nn] [] s else evT f 499 255 [oR 549 0, oI x1, oI x2, oI x3, oI x4, oI x5, oI x6, nn] [] s) (fun _ => rfl) (rg_if h (fun h => ?_) fun h => ?_)
          · exact rg_step 2 (G' := fun f => evT f 499 256 [oR 549 0, oI x1, oI x2, oI x3, oI x4, oI x5, oI x6, nn] [vI (cI 1)] s) (fun _ => rfl) ((t_fM_rowOfTariff_b256 hk184) h)
          · exact (t_fM_rowOfTariff_b255 hk184) h
        · exact (t_fM_rowOfTariff_b255 hk184) h
    · refine rg_step 2 (G' := fun f => if x5 = 0 then evT f 499 347 [oR 549 0, oI x1, oI x2, oI x3, oI x4, oI x5, oI x6, nn] [] s else evT f 499 286 [oR 549 0, oI x1, oI x2, oI x3, oI x4, oI x5, oI x6, nn] [] s) (fun _ => rfl) (rg_if h (fun h => ?_) fun h => ?_)
      · exact rg_step 2 (G' := fun f => if bz x5 = true then some (s, [vI x5]) else none) (fun _ => rfl) (rg_gd h fun h => rg_end 0 (fun _ => rfl) (by cases h; rfl))
      · refine rg_step 7 (G' := fun f => if x1 = (cI 75) then evT f 499 300 [oR 549 0, oI x1, oI x2, oI x3, oI x4, oI x5, oI x6, nn] [vI (s.1 549 125), vR 637 0] s else evT f 499 304 [oR 549 0, oI x1, oI x2, oI x3, oI x4, oI x5, oI x6, nn] [vI (s.1 549 125), vR 637 0] s) (fun _ => rfl) (rg_if h (fun h => ?_) fun h => ?_)
        · exact rg_step 2 (G' := fun f => evT f 499 305 [oR 549 0, oI x1, oI x2, oI x3, oI x4, oI x5, oI x6, nn] [vI x2, vI (s.1 549 125), vR 637 0] s) (fun _ => rfl) ((t_fM_rowOfTariff_b305) h)
        · exact rg_step 1 (G' := fun f => evT f 499 305 [oR 549 0, oI x1, oI x2, oI x3, oI x4, oI x5, oI x6, nn] [vI (cI 4), vI (s.1 549 125), vR 637 0] s) (fun _ => rfl) ((t_fM_rowOfTariff_b305) h)
theorem t_fM_rowOfTariff_h184 {n : Nat} {s : ev_M} {x1 : Int32} {x2 : Int32} {x3 : Int32} {x4 : Int32} {x5 : Int32} {x6 : Int32} {j7 : Option ev_V} {q : ev_M × Int32} (h : fM_rowOfTariff_h184 n s x1 x2 x3 x4 x5 x6 = some q) : RR 499 184 [oR 549 0, oI x1, oI x2, oI x3, oI x4, oI x5, oI x6, j7] [] s (cvI q) := ti_fM_rowOfTariff_h184 n s x1 x2 x3 x4 x5 x6 j7 q h
theorem t_fM_rowOfTariff_b179 {s : ev_M} {x1 : Int32} {x2 : Int32} {x3 : Int32} {x4 : Int32} {y0 : Int32} {j5 : Option ev_V} {j6 : Option ev_V} {j7 : Option ev_V} {q : ev_M × Int32} (h : fM_rowOfTariff_b179 s x1 x2 x3 x4 y0 = some q) : RR 499 179 [oR 549 0, oI x1, oI x2, oI x3, oI x4, j5, j6, j7] [vI y0] s (cvI q) := by
  exact rg_step 3 (G' := fun f => evT f 499 184 [oR 549 0, oI x1, oI x2, oI x3, oI x4, oI y0, oI (cI 0), nn] [] s) (fun _ => rfl) ((t_fM_rowOfTariff_h184) h)
theorem t_fM_rowOfTariff_b174 {s : ev_M} {x1 : Int32} {x2 : Int32} {x3 : Int32} {x4 : Int32} {j5 : Option ev_V} {j6 : Option ev_V} {j7 : Option ev_V} {q : ev_M × Int32} (h : fM_rowOfTariff_b174 s x1 x2 x3 x4 = some q) : RR 499 174 [oR 549 0, oI x1, oI x2, oI x3, oI x4, j5, j6, j7] [] s (cvI q) := by
  exact rg_step 2 (G' := fun f => evT f 499 179 [oR 549 0, oI x1, oI x2, oI x3, oI x4, nn, nn, nn] [vI (cI 1)] s) (fun _ => rfl) ((t_fM_rowOfTariff_b179) h)
theorem t_fM_rowOfTariff_b178 {s : ev_M} {x1 : Int32} {x2 : Int32} {x3 : Int32} {x4 : Int32} {j5 : Option ev_V} {j6 : Option ev_V} {j7 : Option ev_V} {q : ev_M × Int32} (h : fM_rowOfTariff_b178 s x1 x2 x3 x4 = some q) : RR 499 178 [oR 549 0, oI x1, oI x2, oI x3, oI x4, j5, j6, j7] [] s (cvI q) := by
  exact rg_step 1 (G' := fun f => evT f 499 179 [oR 549 0, oI x1, oI x2, oI x3, oI x4, nn, nn, nn] [vI (cI 0)] s) (fun _ => rfl) ((t_fM_rowOfTariff_b179) h)
theorem t_fM_rowOfTariff_b123 {s : ev_M} {x1 : Int32} {x2 : Int32} {x3 : Int32} {x4 : Int32} {y0 : Int32} {j5 : Option ev_V} {j6 : Option ev_V} {j7 : Option ev_V} {q : ev_M × Int32} (h : fM_rowOfTariff_b123 s x1 x2 x3 x4 y0 = some q) : RR 499 123 [oR 549 0, oI x1, oI x2, oI x3, oI x4, j5, j6, j7] [vI y0] s (cvI q) := by
  refine rg_step 3 (G' := fun f => if y0 = 0 then evT f 499 178 [oR 549 0, oI x1, oI x2, oI x3, oI x4, oI y0, nn, nn] [] s else evT f 499 130 [oR 549 0, oI x1, oI x2, oI x3, oI x4, oI y0, nn, nn] [] s) (fun _ => rfl) (rg_if h (fun h => ?_) fun h => ?_)
  · exact (t_fM_rowOfTariff_b178) h
  · refine rg_step 3 (G' := fun f => if x1 = (cI 75) then evT f 499 136 [oR 549 0, oI x1, oI x2, oI x3, oI x4, oI y0, nn, nn] [] s else evT f 499 159 [oR 549 0, oI x1, oI x2, oI x3, oI x4, oI y0, nn, nn] [] s) (fun _ => rfl) (rg_if h (fun h => ?_) fun h => ?_)
    · refine rg_step 4 (G' := fun f => ev_after (evT f 311 0 [oI x2, oI (cI 0), oI (cI 3)] [] s) (fun q => evT f 499 142 [oR 549 0, oI x1, oI x2, oI x3, oI x4, oI y0, nn, nn] (q.2 ++ []) q.1)) (fun _ => rfl) (rg_bd1 h fun v5 hc h => rg_call (q := cvP s v5) (T_fM_in hc) ?_)
      refine rg_step 1 (G' := fun f => if v5 = 0 then evT f 499 178 [oR 549 0, oI x1, oI x2, oI x3, oI x4, oI y0, nn, nn] [] s else evT f 499 145 [oR 549 0, oI x1, oI x2, oI x3, oI x4, oI y0, nn, nn] [] s) (fun _ => rfl) (rg_if h (fun h => ?_) fun h => ?_)
      · exact (t_fM_rowOfTariff_b178) h
      · refine rg_step 4 (G' := fun f => ev_after (evT f 311 0 [oI x3, oI (cI 1), oI (cI 30000)] [] s) (fun q => evT f 499 153 [oR 549 0, oI x1, oI x2, oI x3, oI x4, oI y0, nn, nn] (q.2 ++ []) q.1)) (fun _ => rfl) (rg_bd1 h fun v6 hc h => rg_call (q := cvP s v6) (T_fM_in hc) ?_)
        refine rg_step 1 (G' := fun f => if v6 = 0 then evT f 499 178 [oR 549 0, oI x1, oI x2, oI x3, oI x4, oI y0, nn, nn] [] s else evT f 499 156 [oR 549 0, oI x1, oI x2, oI x3, oI x4, oI y0, nn, nn] [] s) (fun _ => rfl) (rg_if h (fun h => ?_) fun h => ?_)
        · exact (t_fM_rowOfTariff_b178) h
        · exact rg_step 1 (G' := fun f => evT f 499 174 [oR 549 0, oI x1, oI x2, oI x3, oI x4, oI y0, nn, nn] [] s) (fun _ => rfl) ((t_fM_rowOfTariff_b174) h)
    · refine rg_step 3 (G' := fun f => if x2 = (cI 1) then evT f 499 174 [oR 549 0, oI x1, oI x2, oI x3, oI x4, oI y0, nn, nn] [] s else evT f 499 164 [oR 549 0, oI x1, oI x2, oI x3, oI x4, oI y0, nn, nn] [] s) (fun _ => rfl) (rg_if h (fun h => ?_) fun h => ?_)
      · exact (t_fM_rowOfTariff_b174) h
      · refine rg_step 3 (G' := fun f => if x2 = (cI 2) then evT f 499 174 [oR 549 0, oI x1, oI x2, oI x3, oI x4, oI y0, nn, nn] [] s else evT f 499 169 [oR 549 0, oI x1, oI x2, oI x3, oI x4, oI y0, nn, nn] [] s) (fun _ => rfl) (rg_if h (fun h => ?_) fun h => ?_)
        · exact (t_fM_rowOfTariff_b174) h
        · refine rg_step 3 (G' := fun f => if x2 = (cI 4) then evT f 499 174 [oR 549 0, oI x1, oI x2, oI x3, oI x4, oI y0, nn, nn] [] s else evT f 499 178 [oR 549 0, oI x1, oI x2, oI x3, oI x4, oI y0, nn, nn] [] s) (fun _ => rfl) (rg_if h (fun h => ?_) fun h => ?_)
          · exact (t_fM_rowOfTariff_b174) h
          · exact (t_fM_rowOfTariff_b178) h
theorem t_fM_rowOfTariff_b122 {s : ev_M} {x1 : Int32} {x2 : Int32} {x3 : Int32} {x4 : Int32} {j5 : Option ev_V} {j6 : Option ev_V} {j7 : Option ev_V} {q : ev_M × Int32} (h : fM_rowOfTariff_b122 s x1 x2 x3 x4 = some q) : RR 499 122 [oR 549 0, oI x1, oI x2, oI x3, oI x4, j5, j6, j7] [] s (cvI q) := by
  exact rg_step 1 (G' := fun f => evT f 499 123 [oR 549 0, oI x1, oI x2, oI x3, oI x4, nn, nn, nn] [vI (cI 0)] s) (fun _ => rfl) ((t_fM_rowOfTariff_b123) h)
theorem t_fM_rowOfTariff_b69 {s : ev_M} {x1 : Int32} {x2 : Int32} {y0 : Int32} {j3 : Option ev_V} {j4 : Option ev_V} {j5 : Option ev_V} {j6 : Option ev_V} {j7 : Option ev_V} {q : ev_M × Int32} (h : fM_rowOfTariff_b69 s x1 x2 y0 = some q) : RR 499 69 [oR 549 0, oI x1, oI x2, j3, j4, j5, j6, j7] [vI y0] s (cvI q) := by
  refine rg_step 4 (G' := fun f => ev_after (evT f 356 0 [oR 549 0, oI (cI 61)] [] s) (fun q => evT f 499 76 [oR 549 0, oI x1, oI x2, oI y0, nn, nn, nn, nn] (q.2 ++ []) q.1)) (fun _ => rfl) (rg_bd1 h fun s7 hc h => rg_call (q := cvV s7) (T_fM_eat hc) ?_)
  refine rg_step 2 (G' := fun f => ev_after (evT f 357 0 [oR 549 0, nn, nn] [] s7) (fun q => evT f 499 80 [oR 549 0, oI x1, oI x2, oI y0, nn, nn, nn, nn] (q.2 ++ []) q.1)) (fun _ => rfl) (rg_bd2 h fun s8 v9 hc h => rg_call (q := cvI (s8, v9)) (T_fM_digits hc) ?_)
  refine rg_step 4 (G' := fun f => ev_after (evT f 356 0 [oR 549 0, oI (cI 59)] [] s8) (fun q => evT f 499 88 [oR 549 0, oI x1, oI x2, oI y0, oI v9, nn, nn, nn] (q.2 ++ []) q.1)) (fun _ => rfl) (rg_bd1 h fun s10 hc h => rg_call (q := cvV s10) (T_fM_eat hc) ?_)
  refine rg_step 3 (G' := fun f => if (s10.1 549 140) = 0 then evT f 499 97 [oR 549 0, oI x1, oI x2, oI y0, oI v9, nn, nn, nn] [] s10 else evT f 499 95 [oR 549 0, oI x1, oI x2, oI y0, oI v9, nn, nn, nn] [] s10) (fun _ => rfl) (rg_if h (fun h => ?_) fun h => ?_)
  · refine rg_step 4 (G' := fun f => ev_after (evT f 311 0 [oI v9, oI (cI 0), oI (cI 9999)] [] s10) (fun q => evT f 499 106 [oR 549 0, oI x1, oI x2, oI y0, oI v9, nn, nn, nn] (q.2 ++ []) q.1)) (fun _ => rfl) (rg_bd1 h fun v11 hc h => rg_call (q := cvP s10 v11) (T_fM_in hc) ?_)
    refine rg_step 1 (G' := fun f => if v11 = 0 then evT f 499 122 [oR 549 0, oI x1, oI x2, oI y0, oI v9, nn, nn, nn] [] s10 else evT f 499 109 [oR 549 0, oI x1, oI x2, oI y0, oI v9, nn, nn, nn] [] s10) (fun _ => rfl) (rg_if h (fun h => ?_) fun h => ?_)
    · exact (t_fM_rowOfTariff_b122) h
    · refine rg_step 4 (G' := fun f => if (s10.1 549 125) < (cI 40) then evT f 499 118 [oR 549 0, oI x1, oI x2, oI y0, oI v9, nn, nn, nn] [] s10 else evT f 499 122 [oR 549 0, oI x1, oI x2, oI y0, oI v9, nn, nn, nn] [] s10) (fun _ => rfl) (rg_if h (fun h => ?_) fun h => ?_)
      · exact rg_step 2 (G' := fun f => evT f 499 123 [oR 549 0, oI x1, oI x2, oI y0, oI v9, nn, nn, nn] [vI (cI 1)] s10) (fun _ => rfl) ((t_fM_rowOfTariff_b123) h)
      · exact (t_fM_rowOfTariff_b122) h
  · exact rg_end 2 (fun _ => rfl) (by cases h; rfl)
theorem t_fM_rowOfTariff_b47 {s : ev_M} {x1 : Int32} {y1 : Int32} {j2 : Option ev_V} {j3 : Option ev_V} {j4 : Option ev_V} {j5 : Option ev_V} {j6 : Option ev_V} {j7 : Option ev_V} {q : ev_M × Int32} (h : fM_rowOfTariff_b47 s x1 y1 = some q) : RR 499 47 [oR 549 0, oI x1, j2, j3, j4, j5, j6, j7] [vI y1, vR 549 0] s (cvI q) := by
  refine rg_step 1 (G' := fun f => evT f 499 50 [oR 549 0, oI x1, nn, nn, nn, nn, nn, nn] [] (wI s 549 139 y1)) (fun _ => rfl) (rg_ltM h fun s12 h => ?_)
  refine rg_step 2 (G' := fun f => ev_after (evT f 357 0 [oR 549 0, nn, nn] [] s12) (fun q => evT f 499 54 [oR 549 0, oI x1, nn, nn, nn, nn, nn, nn] (q.2 ++ []) q.1)) (fun _ => rfl) (rg_bd2 h fun s13 v14 hc h => rg_call (q := cvI (s13, v14)) (T_fM_digits hc) ?_)
  refine rg_step 4 (G' := fun f => if x1 = (cI 75) then evT f 499 61 [oR 549 0, oI x1, oI v14, nn, nn, nn, nn, nn] [] s13 else evT f 499 68 [oR 549 0, oI x1, oI v14, nn, nn, nn, nn, nn] [] s13) (fun _ => rfl) (rg_if h (fun h => ?_) fun h => ?_)
  · refine rg_step 2 (G' := fun f => ev_after (evT f 359 0 [oR 549 0] [] s13) (fun q => evT f 499 65 [oR 549 0, oI x1, oI v14, nn, nn, nn, nn, nn] (q.2 ++ []) q.1)) (fun _ => rfl) (rg_bd2 h fun s15 v16 hc h => rg_call (q := cvI (s15, v16)) (T_fM_comma hc) ?_)
    exact rg_step 1 (G' := fun f => evT f 499 69 [oR 549 0, oI x1, oI v14, nn, nn, nn, nn, nn] [vI v16] s15) (fun _ => rfl) ((t_fM_rowOfTariff_b69) h)
  · exact rg_step 1 (G' := fun f => evT f 499 69 [oR 549 0, oI x1, oI v14, nn, nn, nn, nn, nn] [vI (cI 0)] s13) (fun _ => rfl) ((t_fM_rowOfTariff_b69) h)
theorem t_fM_rowOfTariff_b23 {s : ev_M} {x1 : Int32} {y1 : Int32} {j2 : Option ev_V} {j3 : Option ev_V} {j4 : Option ev_V} {j5 : Option ev_V} {j6 : Option ev_V} {j7 : Option ev_V} {q : ev_M × Int32} (h : fM_rowOfTariff_b23 s x1 y1 = some q) : RR 499 23 [oR 549 0, oI x1, j2, j3, j4, j5, j6, j7] [vI y1, vR 549 0] s (cvI q) := by
  refine rg_step 1 (G' := fun f => if bz y1 = true then evT f 499 26 [oR 549 0, oI x1, nn, nn, nn, nn, nn, nn] [] (wI s 549 140 y1) else none) (fun _ => rfl) (rg_gd h fun h => rg_ltM h fun s17 h => ?_)
  refine rg_step 4 (G' := fun f => if (s17.1 549 140) = 0 then evT f 499 41 [oR 549 0, oI x1, nn, nn, nn, nn, nn, nn] [vR 549 0] s17 else evT f 499 34 [oR 549 0, oI x1, nn, nn, nn, nn, nn, nn] [vR 549 0] s17) (fun _ => rfl) (rg_if h (fun h => ?_) fun h => ?_)
  · exact rg_step 4 (G' := fun f => evT f 499 47 [oR 549 0, oI x1, nn, nn, nn, nn, nn, nn] [vI ((s17.1 549 139) + (cI 1)), vR 549 0] s17) (fun _ => rfl) ((t_fM_rowOfTariff_b47) h)
  · exact rg_step 3 (G' := fun f => evT f 499 47 [oR 549 0, oI x1, nn, nn, nn, nn, nn, nn] [vI (s17.1 549 139), vR 549 0] s17) (fun _ => rfl) ((t_fM_rowOfTariff_b47) h)
theorem t_fM_rowOfTariff_b22 {s : ev_M} {x1 : Int32} {j2 : Option ev_V} {j3 : Option ev_V} {j4 : Option ev_V} {j5 : Option ev_V} {j6 : Option ev_V} {j7 : Option ev_V} {q : ev_M × Int32} (h : fM_rowOfTariff_b22 s x1 = some q) : RR 499 22 [oR 549 0, oI x1, j2, j3, j4, j5, j6, j7] [vR 549 0] s (cvI q) := by
  exact rg_step 1 (G' := fun f => evT f 499 23 [oR 549 0, oI x1, nn, nn, nn, nn, nn, nn] [vI (cI 0), vR 549 0] s) (fun _ => rfl) ((t_fM_rowOfTariff_b23) h)
theorem T_fM_rowOfTariff {s : ev_M} {q : ev_M × Int32} (h : fM_rowOfTariff s = some q) : RR 499 0 [oR 549 0, nn, nn, nn, nn, nn, nn, nn] [] s (cvI q) := by
  refine rg_step 2 (G' := fun f => ev_after (evT f 355 0 [oR 549 0] [] s) (fun q => evT f 499 4 [oR 549 0, nn, nn, nn, nn, nn, nn, nn] (q.2 ++ []) q.1)) (fun _ => rfl) (rg_bd1 h fun v18 hc h => rg_call (q := cvP s v18) (T_fM_look hc) ?_)
  refine rg_step 5 (G' := fun f => if v18 = (cI 75) then evT f 499 22 [oR 549 0, oI v18, nn, nn, nn, nn, nn, nn] [vR 549 0] s else evT f 499 12 [oR 549 0, oI v18, nn, nn, nn, nn, nn, nn] [vR 549 0] s) (fun _ => rfl) (rg_if h (fun h => ?_) fun h => ?_)
  · exact (t_fM_rowOfTariff_b22) h
  · refine rg_step 3 (G' := fun f => if v18 = (cI 86) then evT f 499 22 [oR 549 0, oI v18, nn, nn, nn, nn, nn, nn] [vR 549 0] s else evT f 499 18 [oR 549 0, oI v18, nn, nn, nn, nn, nn, nn] [vR 549 0] s) (fun _ => rfl) (rg_if h (fun h => ?_) fun h => ?_)
    · exact (t_fM_rowOfTariff_b22) h
    · exact rg_step 2 (G' := fun f => evT f 499 23 [oR 549 0, oI v18, nn, nn, nn, nn, nn, nn] [vI (cI 1), vR 549 0] s) (fun _ => rfl) ((t_fM_rowOfTariff_b23) h)
theorem t_fM_doTariff_b124 {k66 : ev_M → Int32 → Int32 → Option (ev_M × Int32)} (hk66 : ∀ {s : ev_M} {x1 : Int32} {x2 : Int32} {j3 : Option ev_V} {j4 : Option ev_V} {q : ev_M × Int32}, k66 s x1 x2 = some q → RR 500 66 [oR 549 0, oI x1, oI x2, j3, j4] [] s (cvI q)) {s : ev_M} {x1 : Int32} {y0 : Int32} {j2 : Option ev_V} {j3 : Option ev_V} {j4 : Option ev_V} {q : ev_M × Int32} (h : fM_doTariff_b124 k66 s x1 y0 = some q) : RR 500 124 [oR 549 0, oI x1, j2, j3, j4] [vI y0] s (cvI q) := by
  exact rg_step 2 (G' := fun f => evT f 500 66 [oR 549 0, oI x1, oI y0, nn, nn] [] s) (fun _ => rfl) (hk66 h)
theorem t_fM_doTariff_b89 {k66 : ev_M → Int32 → Int32 → Option (ev_M × Int32)} (hk66 : ∀ {s : ev_M} {x1 : Int32} {x2 : Int32} {j3 : Option ev_V} {j4 : Option ev_V} {q : ev_M × Int32}, k66 s x1 x2 = some q → RR 500 66 [oR 549 0, oI x1, oI x2, j3, j4] [] s (cvI q)) {s : ev_M} {x1 : Int32} {j2 : Option ev_V} {j3 : Option ev_V} {j4 : Option ev_V} {q : ev_M × Int32} (h : fM_doTariff_b89 k66 s x1 = some q) : RR 500 89 [oR 549 0, oI x1, j2, j3, j4] [] s (cvI q) := by
  refine rg_step 3 (G' := fun f => evT f 500 94 [oR 549 0, oI x1, nn, oI (s.1 549 139), nn] [] s) (fun _ => rfl) (rg_ltI (P := fun v1 => RG (fun f => evT f 500 94 [oR 549 0, oI x1, nn, oI v1, nn] [] s) (cvI q)) h fun v1 h => ?_)
  refine rg_step 2 (G' := fun f => ev_after (evT f 499 0 [oR 549 0, nn, nn, nn, nn, nn, nn, nn] [] s) (fun q => evT f 500 98 [oR 549 0, oI x1, nn, oI v1, nn] (q.2 ++ []) q.1)) (fun _ => rfl) (rg_bd2 h fun s2 v3 hc h => rg_call (q := cvI (s2, v3)) (T_fM_rowOfTariff hc) ?_)
  refine rg_step 3 (G' := fun f => if v3 = 0 then evT f 500 109 [oR 549 0, oI x1, nn, oI v1, oI v3] [] s2 else evT f 500 105 [oR 549 0, oI x1, nn, oI v1, oI v3] [] s2) (fun _ => rfl) (rg_if h (fun h => ?_) fun h => ?_)
  · refine rg_step 3 (G' := fun f => if (s2.1 549 140) = 0 then evT f 500 123 [oR 549 0, oI x1, nn, oI v1, oI v3] [] s2 else evT f 500 116 [oR 549 0, oI x1, nn, oI v1, oI v3] [] s2) (fun _ => rfl) (rg_if h (fun h => ?_) fun h => ?_)
    · exact rg_step 1 (G' := fun f => evT f 500 124 [oR 549 0, oI x1, nn, oI v1, oI v3] [vI v1] s2) (fun _ => rfl) ((t_fM_doTariff_b124 hk66) h)
    · exact rg_step 3 (G' := fun f => evT f 500 124 [oR 549 0, oI x1, nn, oI v1, oI v3] [vI (s2.1 549 139)] s2) (fun _ => rfl) ((t_fM_doTariff_b124 hk66) h)
  · exact rg_step 2 (G' := fun f => evT f 500 124 [oR 549 0, oI x1, nn, oI v1, oI v3] [vI (cI (-1))] s2) (fun _ => rfl) ((t_fM_doTariff_b124 hk66) h)
theorem t_fM_doTariff_b232 {s : ev_M} {y1 : Int32} {j0 : Option ev_V} {j1 : Option ev_V} {j2 : Option ev_V} {j3 : Option ev_V} {j4 : Option ev_V} {q : ev_M × Int32} (h : fM_doTariff_b232 s y1 = some q) : RR 500 232 [j0, j1, j2, j3, j4] [vI y1, vR 549 0] s (cvI q) := by
  refine rg_step 1 (G' := fun f => ev_after (evT f 315 0 [oR 549 0, oI y1] [] s) (fun q => evT f 500 235 [nn, nn, nn, nn, nn] (q.2 ++ []) q.1)) (fun _ => rfl) (rg_bd2 h fun s4 v5 hc h => rg_call (q := cvI (s4, v5)) (T_fM_no hc) ?_)
  exact rg_end 1 (fun _ => rfl) (by cases h; rfl)
theorem ti_fM_doTariff_h158 : ∀ (n : Nat) (s : ev_M) (x1 : Int32) (x2 : Int32) (x3 : Int32) (x4 : Int32) (q : ev_M × Int32), fM_doTariff_h158 n s x1 x2 x3 x4 = some q → RR 500 158 [oR 549 0, oI x1, oI x2, oI x3, oI x4] [] s (cvI q) := by
  intro n
  induction n with
  | zero => intro s x1 x2 x3 x4 q h; cases h
  | succ n ih =>
    have hk158 : ∀ {s : ev_M} {x1 : Int32} {x2 : Int32} {x3 : Int32} {x4 : Int32} {q : ev_M × Int32}, fM_doTariff_h158 n s x1 x2 x3 x4 = some q → RR 500 158 [oR 549 0, oI x1, oI x2, oI x3, oI x4] [] s (cvI q) := fun h => ih _ _ _ _ _ _ h
    intro s x1 x2 x3 x4 q h
    refine rg_step 3 (G' := fun f => if x4 < x1 then evT f 500 164 [oR 549 0, oI x1, oI x2, oI x3, oI x4] [] s else evT f 500 212 [oR 549 0, oI x1, oI x2, oI x3, oI x4] [] s) (fun _ => rfl) (rg_if h (fun h => ?_) fun h => ?_)
    · refine rg_step 7 (G' := fun f => if inb x4 40 = true then evT f 500 177 [oR 549 0, oI x1, oI x2, oI x3, oI x4] [vI (s.1 678 (ix x4)), vI x4, vR 637 0] s else none) (fun _ => rfl) (rg_gd h fun h => ?_)
      refine rg_step 1 (G' := fun f => if inb x4 40 = true then evT f 500 178 [oR 549 0, oI x1, oI x2, oI x3, oI x4] [] (wI s 637 (ix x4) (s.1 678 (ix x4))) else none) (fun _ => rfl) (rg_gd h fun h => rg_ltM h fun s6 h => ?_)
      refine rg_step 7 (G' := fun f => if inb x4 40 = true then evT f 500 191 [oR 549 0, oI x1, oI x2, oI x3, oI x4] [vI (s6.1 679 (ix x4)), vI x4, vR 638 0] s6 else none) (fun _ => rfl) (rg_gd h fun h => ?_)
      refine rg_step 1 (G' := fun f => if inb x4 40 = true then evT f 500 192 [oR 549 0, oI x1, oI x2, oI x3, oI x4] [] (wI s6 638 (ix x4) (s6.1 679 (ix x4))) else none) (fun _ => rfl) (rg_gd h fun h => rg_ltM h fun s7 h => ?_)
      refine rg_step 7 (G' := fun f => if inb x4 40 = true then evT f 500 205 [oR 549 0, oI x1, oI x2, oI x3, oI x4] [vI (s7.1 680 (ix x4)), vI x4, vR 639 0] s7 else none) (fun _ => rfl) (rg_gd h fun h => ?_)
      refine rg_step 1 (G' := fun f => if inb x4 40 = true then evT f 500 206 [oR 549 0, oI x1, oI x2, oI x3, oI x4] [] (wI s7 639 (ix x4) (s7.1 680 (ix x4))) else none) (fun _ => rfl) (rg_gd h fun h => rg_ltM h fun s8 h => ?_)
      exact rg_step 2 (G' := fun f => evT f 500 158 [oR 549 0, oI x1, oI x2, oI x3, oI (x4 + cI 1)] [] s8) (fun _ => rfl) (hk158 h)
    · refine rg_step 3 (G' := fun f => evT f 500 217 [oR 549 0, oI x1, oI x2, oI x3, oI x4] [] (wI s 549 125 x1)) (fun _ => rfl) (rg_ltM h fun s9 h => ?_)
      refine rg_step 3 (G' := fun f => if x3 = 0 then evT f 500 227 [oR 549 0, oI x1, oI x2, oI x3, oI x4] [vR 549 0] s9 else evT f 500 222 [oR 549 0, oI x1, oI x2, oI x3, oI x4] [vR 549 0] s9) (fun _ => rfl) (rg_if h (fun h => ?_) fun h => ?_)
      · exact rg_step 3 (G' := fun f => evT f 500 232 [oR 549 0, oI x1, oI x2, oI x3, oI x4] [vI ((cI (-1000)) - x2), vR 549 0] s9) (fun _ => rfl) ((t_fM_doTariff_b232) h)
      · exact rg_step 2 (G' := fun f => evT f 500 232 [oR 549 0, oI x1, oI x2, oI x3, oI x4] [vI (cI (-104)), vR 549 0] s9) (fun _ => rfl) ((t_fM_doTariff_b232) h)
theorem t_fM_doTariff_h158 {n : Nat} {s : ev_M} {x1 : Int32} {x2 : Int32} {x3 : Int32} {x4 : Int32} {q : ev_M × Int32} (h : fM_doTariff_h158 n s x1 x2 x3 x4 = some q) : RR 500 158 [oR 549 0, oI x1, oI x2, oI x3, oI x4] [] s (cvI q) := ti_fM_doTariff_h158 n s x1 x2 x3 x4 q h
theorem t_fM_doTariff_b155 {s : ev_M} {x1 : Int32} {x2 : Int32} {x3 : Int32} {j4 : Option ev_V} {q : ev_M × Int32} (h : fM_doTariff_b155 s x1 x2 x3 = some q) : RR 500 155 [oR 549 0, oI x1, oI x2, oI x3, j4] [] s (cvI q) := by
  exact rg_step 2 (G' := fun f => evT f 500 158 [oR 549 0, oI x1, oI x2, oI x3, oI (cI 0)] [] s) (fun _ => rfl) ((t_fM_doTariff_h158) h)
theorem t_fM_doTariff_b145 {s : ev_M} {x1 : Int32} {x2 : Int32} {y0 : Int32} {j3 : Option ev_V} {j4 : Option ev_V} {q : ev_M × Int32} (h : fM_doTariff_b145 s x1 x2 y0 = some q) : RR 500 145 [oR 549 0, oI x1, oI x2, j3, j4] [vI y0] s (cvI q) := by
  refine rg_step 4 (G' := fun f => if x2 = (cI (-1)) then evT f 500 151 [oR 549 0, oI x1, oI x2, oI y0, nn] [] s else evT f 500 155 [oR 549 0, oI x1, oI x2, oI y0, nn] [] s) (fun _ => rfl) (rg_if h (fun h => ?_) fun h => ?_)
  · refine rg_step 2 (G' := fun f => if y0 = 0 then evT f 500 236 [oR 549 0, oI x1, oI x2, oI y0, nn] [] s else evT f 500 155 [oR 549 0, oI x1, oI x2, oI y0, nn] [] s) (fun _ => rfl) (rg_if h (fun h => ?_) fun h => ?_)
    · exact rg_end 3 (fun _ => rfl) (by cases h; rfl)
    · exact (t_fM_doTariff_b155) h
  · exact (t_fM_doTariff_b155) h
theorem t_fM_doTariff_b144 {s : ev_M} {x1 : Int32} {x2 : Int32} {j3 : Option ev_V} {j4 : Option ev_V} {q : ev_M × Int32} (h : fM_doTariff_b144 s x1 x2 = some q) : RR 500 144 [oR 549 0, oI x1, oI x2, j3, j4] [] s (cvI q) := by
  exact rg_step 1 (G' := fun f => evT f 500 145 [oR 549 0, oI x1, oI x2, nn, nn] [vI (cI 0)] s) (fun _ => rfl) ((t_fM_doTariff_b145) h)
theorem t_fM_doTariff_b128 {s : ev_M} {x1 : Int32} {x2 : Int32} {j3 : Option ev_V} {j4 : Option ev_V} {q : ev_M × Int32} (h : fM_doTariff_b128 s x1 x2 = some q) : RR 500 128 [oR 549 0, oI x1, oI x2, j3, j4] [] s (cvI q) := by
  refine rg_step 3 (G' := fun f => if x2 = (cI (-1)) then evT f 500 133 [oR 549 0, oI x1, oI x2, nn, nn] [] s else evT f 500 144 [oR 549 0, oI x1, oI x2, nn, nn] [] s) (fun _ => rfl) (rg_if h (fun h => ?_) fun h => ?_)
  · refine rg_step 2 (G' := fun f => ev_after (evT f 316 0 [oR 549 0, nn] [] s) (fun q => evT f 500 137 [oR 549 0, oI x1, oI x2, nn, nn] (q.2 ++ []) q.1)) (fun _ => rfl) (rg_bd1 h fun v10 hc h => rg_call (q := cvP s v10) (T_fM_full hc) ?_)
    refine rg_step 1 (G' := fun f => if v10 = 0 then evT f 500 144 [oR 549 0, oI x1, oI x2, nn, nn] [] s else evT f 500 140 [oR 549 0, oI x1, oI x2, nn, nn] [] s) (fun _ => rfl) (rg_if h (fun h => ?_) fun h => ?_)
    · exact (t_fM_doTariff_b144) h
    · exact rg_step 2 (G' := fun f => evT f 500 145 [oR 549 0, oI x1, oI x2, nn, nn] [vI (cI 1)] s) (fun _ => rfl) ((t_fM_doTariff_b145) h)
  · exact (t_fM_doTariff_b144) h
theorem ti_fM_doTariff_h66 : ∀ (n : Nat) (s : ev_M) (x1 : Int32) (x2 : Int32) (j3 : Option ev_V) (j4 : Option ev_V) (q : ev_M × Int32), fM_doTariff_h66 n s x1 x2 = some q → RR 500 66 [oR 549 0, oI x1, oI x2, j3, j4] [] s (cvI q) := by
  intro n
  induction n with
  | zero => intro s x1 x2 j3 j4 q h; cases h
  | succ n ih =>
    have hk66 : ∀ {s : ev_M} {x1 : Int32} {x2 : Int32} {j3 : Option ev_V} {j4 : Option ev_V} {q : ev_M × Int32}, fM_doTariff_h66 n s x1 x2 = some q → RR 500 66 [oR 549 0, oI x1, oI x2, j3, j4] [] s (cvI q) := fun h => ih _ _ _ _ _ _ h
    intro s x1 x2 j3 j4 q h
    refine rg_step 3 (G' := fun f => if x2 = (cI (-1)) then evT f 500 71 [oR 549 0, oI x1, oI x2, nn, nn] [] s else evT f 500 128 [oR 549 0, oI x1, oI x2, nn, nn] [] s) (fun _ => rfl) (rg_if h (fun h => ?_) fun h => ?_)
    · refine rg_step 5 (G' := fun f => if (s.1 549 139) < (s.1 549 13) then evT f 500 89 [oR 549 0, oI x1, oI x2, nn, nn] [] s else evT f 500 82 [oR 549 0, oI x1, oI x2, nn, nn] [] s) (fun _ => rfl) (rg_if h (fun h => ?_) fun h => ?_)
      · exact (t_fM_doTariff_b89 hk66) h
      · refine rg_step 3 (G' := fun f => if (s.1 549 125) = 0 then evT f 500 89 [oR 549 0, oI x1, oI x2, nn, nn] [] s else evT f 500 128 [oR 549 0, oI x1, oI x2, nn, nn] [] s) (fun _ => rfl) (rg_if h (fun h => ?_) fun h => ?_)
        · exact (t_fM_doTariff_b89 hk66) h
        · exact (t_fM_doTariff_b128) h
    · exact (t_fM_doTariff_b128) h
theorem t_fM_doTariff_h66 {n : Nat} {s : ev_M} {x1 : Int32} {x2 : Int32} {j3 : Option ev_V} {j4 : Option ev_V} {q : ev_M × Int32} (h : fM_doTariff_h66 n s x1 x2 = some q) : RR 500 66 [oR 549 0, oI x1, oI x2, j3, j4] [] s (cvI q) := ti_fM_doTariff_h66 n s x1 x2 j3 j4 q h
theorem ti_fM_doTariff_h7 : ∀ (n : Nat) (s : ev_M) (x1 : Int32) (x2 : Int32) (j3 : Option ev_V) (j4 : Option ev_V) (q : ev_M × Int32), fM_doTariff_h7 n s x1 x2 = some q → RR 500 7 [oR 549 0, oI x1, oI x2, j3, j4] [] s (cvI q) := by
  intro n
  induction n with
  | zero => intro s x1 x2 j3 j4 q h; cases h
  | succ n ih =>
    have hk7 : ∀ {s : ev_M} {x1 : Int32} {x2 : Int32} {j3 : Option ev_V} {j4 : Option ev_V} {q : ev_M × Int32}, fM_doTariff_h7 n s x1 x2 = some q → RR 500 7 [oR 549 0, oI x1, oI x2, j3, j4] [] s (cvI q) := fun h => ih _ _ _ _ _ _ h
    intro s x1 x2 j3 j4 q h
    refine rg_step 3 (G' := fun f => if x2 < x1 then evT f 500 12 [oR 549 0, oI x1, oI x2, nn, nn] [] s else evT f 500 54 [oR 549 0, oI x1, oI x2, nn, nn] [] s) (fun _ => rfl) (rg_if h (fun h => ?_) fun h => ?_)
    · refine rg_step 7 (G' := fun f => if inb x2 40 = true then evT f 500 23 [oR 549 0, oI x1, oI x2, nn, nn] [vI (s.1 637 (ix x2)), vI x2, vR 678 0] s else none) (fun _ => rfl) (rg_gd h fun h => ?_)
      refine rg_step 1 (G' := fun f => if inb x2 40 = true then evT f 500 24 [oR 549 0, oI x1, oI x2, nn, nn] [] (wI s 678 (ix x2) (s.1 637 (ix x2))) else none) (fun _ => rfl) (rg_gd h fun h => rg_ltM h fun s11 h => ?_)
      refine rg_step 7 (G' := fun f => if inb x2 40 = true then evT f 500 35 [oR 549 0, oI x1, oI x2, nn, nn] [vI (s11.1 638 (ix x2)), vI x2, vR 679 0] s11 else none) (fun _ => rfl) (rg_gd h fun h => ?_)
      refine rg_step 1 (G' := fun f => if inb x2 40 = true then evT f 500 36 [oR 549 0, oI x1, oI x2, nn, nn] [] (wI s11 679 (ix x2) (s11.1 638 (ix x2))) else none) (fun _ => rfl) (rg_gd h fun h => rg_ltM h fun s12 h => ?_)
      refine rg_step 7 (G' := fun f => if inb x2 40 = true then evT f 500 47 [oR 549 0, oI x1, oI x2, nn, nn] [vI (s12.1 639 (ix x2)), vI x2, vR 680 0] s12 else none) (fun _ => rfl) (rg_gd h fun h => ?_)
      refine rg_step 1 (G' := fun f => if inb x2 40 = true then evT f 500 48 [oR 549 0, oI x1, oI x2, nn, nn] [] (wI s12 680 (ix x2) (s12.1 639 (ix x2))) else none) (fun _ => rfl) (rg_gd h fun h => rg_ltM h fun s13 h => ?_)
      exact rg_step 2 (G' := fun f => evT f 500 7 [oR 549 0, oI x1, oI (x2 + cI 1), nn, nn] [] s13) (fun _ => rfl) (hk7 h)
    · refine rg_step 3 (G' := fun f => evT f 500 59 [oR 549 0, oI x1, oI x2, nn, nn] [] (wI s 549 125 (cI 0))) (fun _ => rfl) (rg_ltM h fun s14 h => ?_)
      refine rg_step 5 (G' := fun f => evT f 500 66 [oR 549 0, oI x1, oI (cI (-1)), nn, nn] [] (wI s14 549 139 (cI 0))) (fun _ => rfl) (rg_ltM h fun s15 h => ?_)
      exact (t_fM_doTariff_h66) h
theorem t_fM_doTariff_h7 {n : Nat} {s : ev_M} {x1 : Int32} {x2 : Int32} {j3 : Option ev_V} {j4 : Option ev_V} {q : ev_M × Int32} (h : fM_doTariff_h7 n s x1 x2 = some q) : RR 500 7 [oR 549 0, oI x1, oI x2, j3, j4] [] s (cvI q) := ti_fM_doTariff_h7 n s x1 x2 j3 j4 q h
theorem T_fM_doTariff {s : ev_M} {q : ev_M × Int32} (h : fM_doTariff s = some q) : RR 500 0 [oR 549 0, nn, nn, nn, nn] [] s (cvI q) := by
  refine rg_step 3 (G' := fun f => evT f 500 5 [oR 549 0, oI (s.1 549 125), nn, nn, nn] [] s) (fun _ => rfl) (rg_ltI (P := fun v16 => RG (fun f => evT f 500 5 [oR 549 0, oI v16, nn, nn, nn] [] s) (cvI q)) h fun v16 h => ?_)
  exact rg_step 2 (G' := fun f => evT f 500 7 [oR 549 0, oI v16, oI (cI 0), nn, nn] [] s) (fun _ => rfl) ((t_fM_doTariff_h7) h)
theorem t_fM_doFrank_b44 {s : ev_M} {j1 : Option ev_V} {j2 : Option ev_V} {q : ev_M × Int32} (h : fM_doFrank_b44 s = some q) : RR 503 44 [oR 549 0, j1, j2] [] s (cvI q) := by
  refine rg_step 3 (G' := fun f => ev_after (evT f 315 0 [oR 549 0, oI (cI (-103))] [] s) (fun q => evT f 503 50 [oR 549 0, nn, nn] (q.2 ++ []) q.1)) (fun _ => rfl) (rg_bd2 h fun s1 v2 hc h => rg_call (q := cvI (s1, v2)) (T_fM_no hc) ?_)
  exact rg_end 1 (fun _ => rfl) (by cases h; rfl)
theorem t_fM_doFrank_b101 {s : ev_M} {j1 : Option ev_V} {j2 : Option ev_V} {q : ev_M × Int32} (h : fM_doFrank_b101 s = some q) : RR 503 101 [oR 549 0, j1, j2] [] s (cvI q) := by
  refine rg_step 3 (G' := fun f => ev_after (evT f 315 0 [oR 549 0, oI (cI (-104))] [] s) (fun q => evT f 503 107 [oR 549 0, nn, nn] (q.2 ++ []) q.1)) (fun _ => rfl) (rg_bd2 h fun s3 v4 hc h => rg_call (q := cvI (s3, v4)) (T_fM_no hc) ?_)
  exact rg_end 1 (fun _ => rfl) (by cases h; rfl)
theorem t_fM_doFrank_b84 {s : ev_M} {x1 : Int32} {x2 : Int32} {y1 : Int32} {q : ev_M × Int32} (h : fM_doFrank_b84 s x1 x2 y1 = some q) : RR 503 84 [oR 549 0, oI x1, oI x2] [vI y1, vR 549 0] s (cvI q) := by
  refine rg_step 2 (G' := fun f => ev_after (evT f 474 0 [oR 549 0, nn, nn] [] s) (fun q => evT f 503 88 [oR 549 0, oI x1, oI x2] (q.2 ++ [vI y1, vR 549 0]) q.1)) (fun _ => rfl) (rg_bd1 h fun v5 hc h => rg_call (q := cvP s v5) (T_fM_openOrders hc) ?_)
  refine rg_step 1 (G' := fun f => ev_after (evT f 475 0 [oR 549 0, oI y1, oI v5] [] s) (fun q => evT f 503 91 [oR 549 0, oI x1, oI x2] (q.2 ++ []) q.1)) (fun _ => rfl) (rg_bd1 h fun v6 hc h => rg_call (q := cvP s v6) (T_fM_isLedgerFull hc) ?_)
  refine rg_step 1 (G' := fun f => if v6 = 0 then evT f 503 94 [oR 549 0, oI x1, oI x2] [] s else evT f 503 101 [oR 549 0, oI x1, oI x2] [] s) (fun _ => rfl) (rg_if h (fun h => ?_) fun h => ?_)
  · refine rg_step 2 (G' := fun f => ev_after (evT f 316 0 [oR 549 0, nn] [] s) (fun q => evT f 503 98 [oR 549 0, oI x1, oI x2] (q.2 ++ []) q.1)) (fun _ => rfl) (rg_bd1 h fun v7 hc h => rg_call (q := cvP s v7) (T_fM_full hc) ?_)
    refine rg_step 1 (G' := fun f => if v7 = 0 then evT f 503 108 [oR 549 0, oI x1, oI x2] [] s else evT f 503 101 [oR 549 0, oI x1, oI x2] [] s) (fun _ => rfl) (rg_if h (fun h => ?_) fun h => ?_)
    · refine rg_step 5 (G' := fun f => if inb x1 300 = true then evT f 503 115 [oR 549 0, oI x1, oI x2] [] (wI s 600 (ix x1) x2) else none) (fun _ => rfl) (rg_gd h fun h => rg_ltM h fun s8 h => ?_)
      refine rg_step 5 (G' := fun f => if inb x1 300 = true then evT f 503 122 [oR 549 0, oI x1, oI x2] [vI (s8.1 587 (ix x1)), vR 549 0] s8 else none) (fun _ => rfl) (rg_gd h fun h => ?_)
      refine rg_step 4 (G' := fun f => ev_after (evT f 476 0 [oR 549 0, oI (s8.1 587 (ix x1)), oI (cI 0), oI x2, oI x1] [] s8) (fun q => evT f 503 128 [oR 549 0, oI x1, oI x2] (q.2 ++ []) q.1)) (fun _ => rfl) (rg_bd1 h fun s9 hc h => rg_call (q := cvV s9) (T_fM_pay hc) ?_)
      exact rg_end 2 (fun _ => rfl) (by cases h; rfl)
    · exact (t_fM_doFrank_b101) h
  · exact (t_fM_doFrank_b101) h
theorem T_fM_doFrank {s : ev_M} {a1 : Int32} {q : ev_M × Int32} (h : fM_doFrank s a1 = some q) : RR 503 0 [oR 549 0, oI a1, nn] [] s (cvI q) := by
  refine rg_step 3 (G' := fun f => ev_after (evT f 342 0 [oR 549 0, oI a1] [] s) (fun q => evT f 503 5 [oR 549 0, oI a1, nn] (q.2 ++ []) q.1)) (fun _ => rfl) (rg_bd1 h fun v10 hc h => rg_call (q := cvP s v10) (T_fM_isItem hc) ?_)
  refine rg_step 1 (G' := fun f => if v10 = 0 then evT f 503 8 [oR 549 0, oI a1, nn] [] s else evT f 503 15 [oR 549 0, oI a1, nn] [] s) (fun _ => rfl) (rg_if h (fun h => ?_) fun h => ?_)
  · refine rg_step 3 (G' := fun f => ev_after (evT f 315 0 [oR 549 0, oI (cI (-101))] [] s) (fun q => evT f 503 14 [oR 549 0, oI a1, nn] (q.2 ++ []) q.1)) (fun _ => rfl) (rg_bd2 h fun s11 v12 hc h => rg_call (q := cvI (s11, v12)) (T_fM_no hc) ?_)
    exact rg_end 1 (fun _ => rfl) (by cases h; rfl)
  · refine rg_step 3 (G' := fun f => ev_after (evT f 416 0 [oR 549 0, oI a1, nn, nn, nn] [] s) (fun q => evT f 503 20 [oR 549 0, oI a1, nn] (q.2 ++ []) q.1)) (fun _ => rfl) (rg_bd1 h fun v13 hc h => rg_call (q := cvP s v13) (T_fM_priceOf hc) ?_)
    refine rg_step 5 (G' := fun f => if inb a1 300 = true then evT f 503 27 [oR 549 0, oI a1, oI v13] [vI (s.1 600 (ix a1))] s else none) (fun _ => rfl) (rg_gd h fun h => ?_)
    refine rg_step 2 (G' := fun f => if (s.1 600 (ix a1)) = (cI (-1)) then evT f 503 31 [oR 549 0, oI a1, oI v13] [] s else evT f 503 44 [oR 549 0, oI a1, oI v13] [] s) (fun _ => rfl) (rg_if h (fun h => ?_) fun h => ?_)
    · refine rg_step 3 (G' := fun f => ev_after (evT f 405 0 [oR 549 0, oI a1] [] s) (fun q => evT f 503 36 [oR 549 0, oI a1, oI v13] (q.2 ++ []) q.1)) (fun _ => rfl) (rg_bd1 h fun v14 hc h => rg_call (q := cvP s v14) (T_fM_isEarly hc) ?_)
      refine rg_step 1 (G' := fun f => if v14 = 0 then evT f 503 44 [oR 549 0, oI a1, oI v13] [] s else evT f 503 39 [oR 549 0, oI a1, oI v13] [] s) (fun _ => rfl) (rg_if h (fun h => ?_) fun h => ?_)
      · exact (t_fM_doFrank_b44) h
      · refine rg_step 3 (G' := fun f => if v13 = (cI (-1)) then evT f 503 44 [oR 549 0, oI a1, oI v13] [] s else evT f 503 51 [oR 549 0, oI a1, oI v13] [] s) (fun _ => rfl) (rg_if h (fun h => ?_) fun h => ?_)
        · exact (t_fM_doFrank_b44) h
        · refine rg_step 5 (G' := fun f => if inb a1 300 = true then evT f 503 58 [oR 549 0, oI a1, oI v13] [vI (s.1 587 (ix a1)), vR 549 0] s else none) (fun _ => rfl) (rg_gd h fun h => ?_)
          refine rg_step 1 (G' := fun f => ev_after (evT f 477 0 [oR 549 0, oI (s.1 587 (ix a1)), nn, nn, nn] [] s) (fun q => evT f 503 61 [oR 549 0, oI a1, oI v13] (q.2 ++ []) q.1)) (fun _ => rfl) (rg_bd1 h fun v15 hc h => rg_call (q := cvPL s v15) (T_fM_balanceOf hc) ?_)
          refine rg_step 4 (G' := fun f => if (lg_cmp v15 (Int32.toInt64 v13)) < 0 then evT f 503 67 [oR 549 0, oI a1, oI v13] [] s else evT f 503 74 [oR 549 0, oI a1, oI v13] [] s) (fun _ => rfl) (rg_if h (fun h => ?_) fun h => ?_)
          · refine rg_step 3 (G' := fun f => ev_after (evT f 315 0 [oR 549 0, oI (cI (-116))] [] s) (fun q => evT f 503 73 [oR 549 0, oI a1, oI v13] (q.2 ++ []) q.1)) (fun _ => rfl) (rg_bd2 h fun s16 v17 hc h => rg_call (q := cvI (s16, v17)) (T_fM_no hc) ?_)
            exact rg_end 1 (fun _ => rfl) (by cases h; rfl)
          · refine rg_step 3 (G' := fun f => if v13 ≤ 0 then evT f 503 83 [oR 549 0, oI a1, oI v13] [vR 549 0] s else evT f 503 79 [oR 549 0, oI a1, oI v13] [vR 549 0] s) (fun _ => rfl) (rg_if h (fun h => ?_) fun h => ?_)
            · exact rg_step 1 (G' := fun f => evT f 503 84 [oR 549 0, oI a1, oI v13] [vI (cI 0), vR 549 0] s) (fun _ => rfl) ((t_fM_doFrank_b84) h)
            · exact rg_step 2 (G' := fun f => evT f 503 84 [oR 549 0, oI a1, oI v13] [vI (cI 1), vR 549 0] s) (fun _ => rfl) ((t_fM_doFrank_b84) h)
    · exact (t_fM_doFrank_b44) h
theorem t_fM_doOrder_b36 {s : ev_M} {j1 : Option ev_V} {j2 : Option ev_V} {j3 : Option ev_V} {q : ev_M × Int32} (h : fM_doOrder_b36 s = some q) : RR 505 36 [oR 549 0, j1, j2, j3] [] s (cvI q) := by
  refine rg_step 3 (G' := fun f => ev_after (evT f 315 0 [oR 549 0, oI (cI (-102))] [] s) (fun q => evT f 505 42 [oR 549 0, nn, nn, nn] (q.2 ++ []) q.1)) (fun _ => rfl) (rg_bd2 h fun s1 v2 hc h => rg_call (q := cvI (s1, v2)) (T_fM_no hc) ?_)
  exact rg_end 1 (fun _ => rfl) (by cases h; rfl)
theorem t_fM_doOrder_b91 {s : ev_M} {j1 : Option ev_V} {j2 : Option ev_V} {j3 : Option ev_V} {q : ev_M × Int32} (h : fM_doOrder_b91 s = some q) : RR 505 91 [oR 549 0, j1, j2, j3] [] s (cvI q) := by
  refine rg_step 3 (G' := fun f => ev_after (evT f 315 0 [oR 549 0, oI (cI (-104))] [] s) (fun q => evT f 505 97 [oR 549 0, nn, nn, nn] (q.2 ++ []) q.1)) (fun _ => rfl) (rg_bd2 h fun s3 v4 hc h => rg_call (q := cvI (s3, v4)) (T_fM_no hc) ?_)
  exact rg_end 1 (fun _ => rfl) (by cases h; rfl)
theorem T_fM_doOrder {s : ev_M} {a1 : Int32} {a2 : Int32} {a3 : Int32} {q : ev_M × Int32} (h : fM_doOrder s a1 a2 a3 = some q) : RR 505 0 [oR 549 0, oI a1, oI a2, oI a3] [] s (cvI q) := by
  refine rg_step 3 (G' := fun f => ev_after (evT f 347 0 [oR 549 0, oI a1] [] s) (fun q => evT f 505 5 [oR 549 0, oI a1, oI a2, oI a3] (q.2 ++ []) q.1)) (fun _ => rfl) (rg_bd1 h fun v5 hc h => rg_call (q := cvP s v5) (T_fM_isCustomer hc) ?_)
  refine rg_step 1 (G' := fun f => if v5 = 0 then evT f 505 8 [oR 549 0, oI a1, oI a2, oI a3] [] s else evT f 505 15 [oR 549 0, oI a1, oI a2, oI a3] [] s) (fun _ => rfl) (rg_if h (fun h => ?_) fun h => ?_)
  · refine rg_step 3 (G' := fun f => ev_after (evT f 315 0 [oR 549 0, oI (cI (-101))] [] s) (fun q => evT f 505 14 [oR 549 0, oI a1, oI a2, oI a3] (q.2 ++ []) q.1)) (fun _ => rfl) (rg_bd2 h fun s6 v7 hc h => rg_call (q := cvI (s6, v7)) (T_fM_no hc) ?_)
    exact rg_end 1 (fun _ => rfl) (by cases h; rfl)
  · refine rg_step 4 (G' := fun f => ev_after (evT f 311 0 [oI a2, oI (cI 1), oI (cI 99)] [] s) (fun q => evT f 505 22 [oR 549 0, oI a1, oI a2, oI a3] (q.2 ++ []) q.1)) (fun _ => rfl) (rg_bd1 h fun v8 hc h => rg_call (q := cvP s v8) (T_fM_in hc) ?_)
    refine rg_step 1 (G' := fun f => if v8 = 0 then evT f 505 36 [oR 549 0, oI a1, oI a2, oI a3] [] s else evT f 505 25 [oR 549 0, oI a1, oI a2, oI a3] [] s) (fun _ => rfl) (rg_if h (fun h => ?_) fun h => ?_)
    · exact (t_fM_doOrder_b36) h
    · refine rg_step 4 (G' := fun f => ev_after (evT f 311 0 [oI a3, oI (cI 1), oI (cI 100000)] [] s) (fun q => evT f 505 33 [oR 549 0, oI a1, oI a2, oI a3] (q.2 ++ []) q.1)) (fun _ => rfl) (rg_bd1 h fun v9 hc h => rg_call (q := cvP s v9) (T_fM_in hc) ?_)
      refine rg_step 1 (G' := fun f => if v9 = 0 then evT f 505 36 [oR 549 0, oI a1, oI a2, oI a3] [] s else evT f 505 43 [oR 549 0, oI a1, oI a2, oI a3] [] s) (fun _ => rfl) (rg_if h (fun h => ?_) fun h => ?_)
      · exact (t_fM_doOrder_b36) h
      · refine rg_step 3 (G' := fun f => ev_after (evT f 477 0 [oR 549 0, oI a1, nn, nn, nn] [] s) (fun q => evT f 505 48 [oR 549 0, oI a1, oI a2, oI a3] (q.2 ++ []) q.1)) (fun _ => rfl) (rg_bd1 h fun v10 hc h => rg_call (q := cvPL s v10) (T_fM_balanceOf hc) ?_)
        refine rg_step 4 (G' := fun f => if (lg_cmp v10 (Int32.toInt64 a3)) < 0 then evT f 505 54 [oR 549 0, oI a1, oI a2, oI a3] [] s else evT f 505 61 [oR 549 0, oI a1, oI a2, oI a3] [] s) (fun _ => rfl) (rg_if h (fun h => ?_) fun h => ?_)
        · refine rg_step 3 (G' := fun f => ev_after (evT f 315 0 [oR 549 0, oI (cI (-116))] [] s) (fun q => evT f 505 60 [oR 549 0, oI a1, oI a2, oI a3] (q.2 ++ []) q.1)) (fun _ => rfl) (rg_bd2 h fun s11 v12 hc h => rg_call (q := cvI (s11, v12)) (T_fM_no hc) ?_)
          exact rg_end 1 (fun _ => rfl) (by cases h; rfl)
        · refine rg_step 4 (G' := fun f => if (s.1 549 119) = (cI 60) then evT f 505 91 [oR 549 0, oI a1, oI a2, oI a3] [] s else evT f 505 70 [oR 549 0, oI a1, oI a2, oI a3] [] s) (fun _ => rfl) (rg_if h (fun h => ?_) fun h => ?_)
          · exact (t_fM_doOrder_b91) h
          · refine rg_step 4 (G' := fun f => ev_after (evT f 474 0 [oR 549 0, nn, nn] [] s) (fun q => evT f 505 76 [oR 549 0, oI a1, oI a2, oI a3] (q.2 ++ [vI (cI 1), vR 549 0]) q.1)) (fun _ => rfl) (rg_bd1 h fun v13 hc h => rg_call (q := cvP s v13) (T_fM_openOrders hc) ?_)
            refine rg_step 3 (G' := fun f => ev_after (evT f 475 0 [oR 549 0, oI (cI 1), oI (v13 + (cI 1))] [] s) (fun q => evT f 505 81 [oR 549 0, oI a1, oI a2, oI a3] (q.2 ++ []) q.1)) (fun _ => rfl) (rg_bd1 h fun v14 hc h => rg_call (q := cvP s v14) (T_fM_isLedgerFull hc) ?_)
            refine rg_step 1 (G' := fun f => if v14 = 0 then evT f 505 84 [oR 549 0, oI a1, oI a2, oI a3] [] s else evT f 505 91 [oR 549 0, oI a1, oI a2, oI a3] [] s) (fun _ => rfl) (rg_if h (fun h => ?_) fun h => ?_)
            · refine rg_step 2 (G' := fun f => ev_after (evT f 316 0 [oR 549 0, nn] [] s) (fun q => evT f 505 88 [oR 549 0, oI a1, oI a2, oI a3] (q.2 ++ []) q.1)) (fun _ => rfl) (rg_bd1 h fun v15 hc h => rg_call (q := cvP s v15) (T_fM_full hc) ?_)
              refine rg_step 1 (G' := fun f => if v15 = 0 then evT f 505 98 [oR 549 0, oI a1, oI a2, oI a3] [] s else evT f 505 91 [oR 549 0, oI a1, oI a2, oI a3] [] s) (fun _ => rfl) (rg_if h (fun h => ?_) fun h => ?_)
              · refine rg_step 6 (G' := fun f => if inb (s.1 549 119) 60 = true then evT f 505 108 [oR 549 0, oI a1, oI a2, oI a3] [] (wI s 632 (ix (s.1 549 119)) (cI 0)) else none) (fun _ => rfl) (rg_gd h fun h => rg_ltM h fun s16 h => ?_)
                refine rg_step 6 (G' := fun f => if inb (s16.1 549 119) 60 = true then evT f 505 118 [oR 549 0, oI a1, oI a2, oI a3] [] (wI s16 633 (ix (s16.1 549 119)) a1) else none) (fun _ => rfl) (rg_gd h fun h => rg_ltM h fun s17 h => ?_)
                refine rg_step 6 (G' := fun f => if inb (s17.1 549 119) 60 = true then evT f 505 128 [oR 549 0, oI a1, oI a2, oI a3] [] (wI s17 634 (ix (s17.1 549 119)) a2) else none) (fun _ => rfl) (rg_gd h fun h => rg_ltM h fun s18 h => ?_)
                refine rg_step 6 (G' := fun f => if inb (s18.1 549 119) 60 = true then evT f 505 138 [oR 549 0, oI a1, oI a2, oI a3] [] (wI s18 635 (ix (s18.1 549 119)) a3) else none) (fun _ => rfl) (rg_gd h fun h => rg_ltM h fun s19 h => ?_)
                refine rg_step 6 (G' := fun f => ev_after (evT f 340 0 [oR 549 0] [] s19) (fun q => evT f 505 150 [oR 549 0, oI a1, oI a2, oI a3] (q.2 ++ [vI (s19.1 549 119), vR 636 0]) q.1)) (fun _ => rfl) (rg_bd1 h fun v20 hc h => rg_call (q := cvP s19 v20) (T_fM_today hc) ?_)
                refine rg_step 3 (G' := fun f => if inb (s19.1 549 119) 60 = true then evT f 505 154 [oR 549 0, oI a1, oI a2, oI a3] [] (wI s19 636 (ix (s19.1 549 119)) (v20 + (cI 30))) else none) (fun _ => rfl) (rg_gd h fun h => rg_ltM h fun s21 h => ?_)
                refine rg_step 6 (G' := fun f => evT f 505 164 [oR 549 0, oI a1, oI a2, oI a3] [] (wI s21 549 119 ((s21.1 549 119) + (cI 1)))) (fun _ => rfl) (rg_ltM h fun s22 h => ?_)
                refine rg_step 6 (G' := fun f => ev_after (evT f 476 0 [oR 549 0, oI a1, oI (cI 3), oI a3, oI (cI (-1))] [] s22) (fun q => evT f 505 172 [oR 549 0, oI a1, oI a2, oI a3] (q.2 ++ []) q.1)) (fun _ => rfl) (rg_bd1 h fun s23 hc h => rg_call (q := cvV s23) (T_fM_pay hc) ?_)
                exact rg_end 5 (fun _ => rfl) (by cases h; rfl)
              · exact (t_fM_doOrder_b91) h
            · exact (t_fM_doOrder_b91) h
theorem t_fM_doPayOut_b42 {s : ev_M} {j1 : Option ev_V} {j2 : Option ev_V} {j3 : Option ev_V} {q : ev_M × Int32} (h : fM_doPayOut_b42 s = some q) : RR 507 42 [oR 549 0, j1, j2, j3] [] s (cvI q) := by
  refine rg_step 3 (G' := fun f => ev_after (evT f 315 0 [oR 549 0, oI (cI (-102))] [] s) (fun q => evT f 507 48 [oR 549 0, nn, nn, nn] (q.2 ++ []) q.1)) (fun _ => rfl) (rg_bd2 h fun s1 v2 hc h => rg_call (q := cvI (s1, v2)) (T_fM_no hc) ?_)
  exact rg_end 1 (fun _ => rfl) (by cases h; rfl)
theorem T_fM_doPayOut {s : ev_M} {a1 : Int32} {a2 : Int32} {a3 : Int32} {q : ev_M × Int32} (h : fM_doPayOut s a1 a2 a3 = some q) : RR 507 0 [oR 549 0, oI a1, oI a2, oI a3] [] s (cvI q) := by
  refine rg_step 7 (G' := fun f => ev_after (evT f 311 0 [oI a1, oI (cI 0), oI ((s.1 549 119) - (cI 1))] [] s) (fun q => evT f 507 11 [oR 549 0, oI a1, oI a2, oI a3] (q.2 ++ []) q.1)) (fun _ => rfl) (rg_bd1 h fun v3 hc h => rg_call (q := cvP s v3) (T_fM_in hc) ?_)
  refine rg_step 1 (G' := fun f => if v3 = 0 then evT f 507 14 [oR 549 0, oI a1, oI a2, oI a3] [] s else evT f 507 21 [oR 549 0, oI a1, oI a2, oI a3] [] s) (fun _ => rfl) (rg_if h (fun h => ?_) fun h => ?_)
  · refine rg_step 3 (G' := fun f => ev_after (evT f 315 0 [oR 549 0, oI (cI (-101))] [] s) (fun q => evT f 507 20 [oR 549 0, oI a1, oI a2, oI a3] (q.2 ++ []) q.1)) (fun _ => rfl) (rg_bd2 h fun s4 v5 hc h => rg_call (q := cvI (s4, v5)) (T_fM_no hc) ?_)
    exact rg_end 1 (fun _ => rfl) (by cases h; rfl)
  · refine rg_step 4 (G' := fun f => ev_after (evT f 311 0 [oI a2, oI (cI 1), oI (cI 99)] [] s) (fun q => evT f 507 28 [oR 549 0, oI a1, oI a2, oI a3] (q.2 ++ []) q.1)) (fun _ => rfl) (rg_bd1 h fun v6 hc h => rg_call (q := cvP s v6) (T_fM_in hc) ?_)
    refine rg_step 1 (G' := fun f => if v6 = 0 then evT f 507 42 [oR 549 0, oI a1, oI a2, oI a3] [] s else evT f 507 31 [oR 549 0, oI a1, oI a2, oI a3] [] s) (fun _ => rfl) (rg_if h (fun h => ?_) fun h => ?_)
    · exact (t_fM_doPayOut_b42) h
    · refine rg_step 4 (G' := fun f => ev_after (evT f 311 0 [oI a3, oI (cI 0), oI (cI 9999)] [] s) (fun q => evT f 507 39 [oR 549 0, oI a1, oI a2, oI a3] (q.2 ++ []) q.1)) (fun _ => rfl) (rg_bd1 h fun v7 hc h => rg_call (q := cvP s v7) (T_fM_in hc) ?_)
      refine rg_step 1 (G' := fun f => if v7 = 0 then evT f 507 42 [oR 549 0, oI a1, oI a2, oI a3] [] s else evT f 507 49 [oR 549 0, oI a1, oI a2, oI a3] [] s) (fun _ => rfl) (rg_if h (fun h => ?_) fun h => ?_)
      · exact (t_fM_doPayOut_b42) h
      · refine rg_step 4 (G' := fun f => if inb a1 60 = true then evT f 507 55 [oR 549 0, oI a1, oI a2, oI a3] [vI (s.1 632 (ix a1))] s else none) (fun _ => rfl) (rg_gd h fun h => ?_)
        refine rg_step 1 (G' := fun f => if (s.1 632 (ix a1)) = 0 then evT f 507 65 [oR 549 0, oI a1, oI a2, oI a3] [] s else evT f 507 58 [oR 549 0, oI a1, oI a2, oI a3] [] s) (fun _ => rfl) (rg_if h (fun h => ?_) fun h => ?_)
        · refine rg_step 5 (G' := fun f => if inb a1 60 = true then evT f 507 72 [oR 549 0, oI a1, oI a2, oI a3] [vI (s.1 634 (ix a1)), vI a2] s else none) (fun _ => rfl) (rg_gd h fun h => ?_)
          refine rg_step 1 (G' := fun f => if a2 = (s.1 634 (ix a1)) then evT f 507 82 [oR 549 0, oI a1, oI a2, oI a3] [] s else evT f 507 75 [oR 549 0, oI a1, oI a2, oI a3] [] s) (fun _ => rfl) (rg_if h (fun h => ?_) fun h => ?_)
          · refine rg_step 2 (G' := fun f => if a3 = 0 then evT f 507 86 [oR 549 0, oI a1, oI a2, oI a3] [] s else evT f 507 93 [oR 549 0, oI a1, oI a2, oI a3] [] s) (fun _ => rfl) (rg_if h (fun h => ?_) fun h => ?_)
            · refine rg_step 3 (G' := fun f => ev_after (evT f 315 0 [oR 549 0, oI (cI (-113))] [] s) (fun q => evT f 507 92 [oR 549 0, oI a1, oI a2, oI a3] (q.2 ++ []) q.1)) (fun _ => rfl) (rg_bd2 h fun s8 v9 hc h => rg_call (q := cvI (s8, v9)) (T_fM_no hc) ?_)
              exact rg_end 1 (fun _ => rfl) (by cases h; rfl)
            · refine rg_step 2 (G' := fun f => ev_after (evT f 316 0 [oR 549 0, nn] [] s) (fun q => evT f 507 97 [oR 549 0, oI a1, oI a2, oI a3] (q.2 ++ []) q.1)) (fun _ => rfl) (rg_bd1 h fun v10 hc h => rg_call (q := cvP s v10) (T_fM_full hc) ?_)
              refine rg_step 1 (G' := fun f => if v10 = 0 then evT f 507 107 [oR 549 0, oI a1, oI a2, oI a3] [] s else evT f 507 100 [oR 549 0, oI a1, oI a2, oI a3] [] s) (fun _ => rfl) (rg_if h (fun h => ?_) fun h => ?_)
              · refine rg_step 5 (G' := fun f => if inb a1 60 = true then evT f 507 114 [oR 549 0, oI a1, oI a2, oI a3] [] (wI s 632 (ix a1) (cI 1)) else none) (fun _ => rfl) (rg_gd h fun h => rg_ltM h fun s11 h => ?_)
                refine rg_step 7 (G' := fun f => if inb a1 60 = true then evT f 507 123 [oR 549 0, oI a1, oI a2, oI a3] [vI (s11.1 635 (ix a1)), vI (cI 1), vI (cI 3), vR 549 0] s11 else none) (fun _ => rfl) (rg_gd h fun h => ?_)
                refine rg_step 2 (G' := fun f => ev_after (evT f 476 0 [oR 549 0, oI (cI 3), oI (cI 1), oI (s11.1 635 (ix a1)), oI (cI (-1))] [] s11) (fun q => evT f 507 127 [oR 549 0, oI a1, oI a2, oI a3] (q.2 ++ []) q.1)) (fun _ => rfl) (rg_bd1 h fun s12 hc h => rg_call (q := cvV s12) (T_fM_pay hc) ?_)
                refine rg_step 4 (G' := fun f => if inb a1 60 = true then evT f 507 133 [oR 549 0, oI a1, oI a2, oI a3] [vI (s12.1 635 (ix a1))] s12 else none) (fun _ => rfl) (rg_gd h fun h => ?_)
                exact rg_end 1 (fun _ => rfl) (by cases h; rfl)
              · refine rg_step 3 (G' := fun f => ev_after (evT f 315 0 [oR 549 0, oI (cI (-104))] [] s) (fun q => evT f 507 106 [oR 549 0, oI a1, oI a2, oI a3] (q.2 ++ []) q.1)) (fun _ => rfl) (rg_bd2 h fun s13 v14 hc h => rg_call (q := cvI (s13, v14)) (T_fM_no hc) ?_)
                exact rg_end 1 (fun _ => rfl) (by cases h; rfl)
          · refine rg_step 3 (G' := fun f => ev_after (evT f 315 0 [oR 549 0, oI (cI (-112))] [] s) (fun q => evT f 507 81 [oR 549 0, oI a1, oI a2, oI a3] (q.2 ++ []) q.1)) (fun _ => rfl) (rg_bd2 h fun s15 v16 hc h => rg_call (q := cvI (s15, v16)) (T_fM_no hc) ?_)
            exact rg_end 1 (fun _ => rfl) (by cases h; rfl)
        · refine rg_step 3 (G' := fun f => ev_after (evT f 315 0 [oR 549 0, oI (cI (-103))] [] s) (fun q => evT f 507 64 [oR 549 0, oI a1, oI a2, oI a3] (q.2 ++ []) q.1)) (fun _ => rfl) (rg_bd2 h fun s17 v18 hc h => rg_call (q := cvI (s17, v18)) (T_fM_no hc) ?_)
          exact rg_end 1 (fun _ => rfl) (by cases h; rfl)
theorem t_fM_doClaim_b64 {s : ev_M} {j1 : Option ev_V} {j2 : Option ev_V} {j3 : Option ev_V} {q : ev_M × Int32} (h : fM_doClaim_b64 s = some q) : RR 510 64 [oR 549 0, j1, j2, j3] [] s (cvI q) := by
  refine rg_step 3 (G' := fun f => ev_after (evT f 315 0 [oR 549 0, oI (cI (-103))] [] s) (fun q => evT f 510 70 [oR 549 0, nn, nn, nn] (q.2 ++ []) q.1)) (fun _ => rfl) (rg_bd2 h fun s1 v2 hc h => rg_call (q := cvI (s1, v2)) (T_fM_no hc) ?_)
  exact rg_end 1 (fun _ => rfl) (by cases h; rfl)
theorem t_fM_doClaim_b90 {s : ev_M} {j1 : Option ev_V} {j2 : Option ev_V} {j3 : Option ev_V} {q : ev_M × Int32} (h : fM_doClaim_b90 s = some q) : RR 510 90 [oR 549 0, j1, j2, j3] [] s (cvI q) := by
  refine rg_step 3 (G' := fun f => ev_after (evT f 315 0 [oR 549 0, oI (cI (-104))] [] s) (fun q => evT f 510 96 [oR 549 0, nn, nn, nn] (q.2 ++ []) q.1)) (fun _ => rfl) (rg_bd2 h fun s3 v4 hc h => rg_call (q := cvI (s3, v4)) (T_fM_no hc) ?_)
  exact rg_end 1 (fun _ => rfl) (by cases h; rfl)
theorem t_fM_doClaim_b111 {s : ev_M} {x1 : Int32} {y0 : Int32} {j2 : Option ev_V} {j3 : Option ev_V} {q : ev_M × Int32} (h : fM_doClaim_b111 s x1 y0 = some q) : RR 510 111 [oR 549 0, oI x1, j2, j3] [vI y0] s (cvI q) := by
  refine rg_step 6 (G' := fun f => if inb x1 300 = true then evT f 510 119 [oR 549 0, oI x1, nn, oI y0] [] (wI s 603 (ix x1) ((cI 1) &&& 1)) else none) (fun _ => rfl) (rg_gd h fun h => rg_ltM h fun s5 h => ?_)
  refine rg_step 6 (G' := fun f => if inb x1 300 = true then evT f 510 127 [oR 549 0, oI x1, nn, oI y0] [vI (s5.1 587 (ix x1)), vI (cI 2), vR 549 0] s5 else none) (fun _ => rfl) (rg_gd h fun h => ?_)
  refine rg_step 3 (G' := fun f => ev_after (evT f 476 0 [oR 549 0, oI (cI 2), oI (s5.1 587 (ix x1)), oI y0, oI x1] [] s5) (fun q => evT f 510 132 [oR 549 0, oI x1, nn, oI y0] (q.2 ++ []) q.1)) (fun _ => rfl) (rg_bd1 h fun s6 hc h => rg_call (q := cvV s6) (T_fM_pay hc) ?_)
  exact rg_end 2 (fun _ => rfl) (by cases h; rfl)
theorem T_fM_doClaim {s : ev_M} {a1 : Int32} {a2 : Int32} {q : ev_M × Int32} (h : fM_doClaim s a1 a2 = some q) : RR 510 0 [oR 549 0, oI a1, oI a2, nn] [] s (cvI q) := by
  refine rg_step 3 (G' := fun f => ev_after (evT f 342 0 [oR 549 0, oI a1] [] s) (fun q => evT f 510 5 [oR 549 0, oI a1, oI a2, nn] (q.2 ++ []) q.1)) (fun _ => rfl) (rg_bd1 h fun v7 hc h => rg_call (q := cvP s v7) (T_fM_isItem hc) ?_)
  refine rg_step 1 (G' := fun f => if v7 = 0 then evT f 510 8 [oR 549 0, oI a1, oI a2, nn] [] s else evT f 510 15 [oR 549 0, oI a1, oI a2, nn] [] s) (fun _ => rfl) (rg_if h (fun h => ?_) fun h => ?_)
  · refine rg_step 3 (G' := fun f => ev_after (evT f 315 0 [oR 549 0, oI (cI (-101))] [] s) (fun q => evT f 510 14 [oR 549 0, oI a1, oI a2, nn] (q.2 ++ []) q.1)) (fun _ => rfl) (rg_bd2 h fun s8 v9 hc h => rg_call (q := cvI (s8, v9)) (T_fM_no hc) ?_)
    exact rg_end 1 (fun _ => rfl) (by cases h; rfl)
  · refine rg_step 4 (G' := fun f => ev_after (evT f 311 0 [oI a2, oI (cI 1), oI (cI 100000)] [] s) (fun q => evT f 510 23 [oR 549 0, oI a1, oI a2, nn] (q.2 ++ []) q.1)) (fun _ => rfl) (rg_bd1 h fun v10 hc h => rg_call (q := cvP s v10) (T_fM_in hc) ?_)
    refine rg_step 1 (G' := fun f => if v10 = 0 then evT f 510 26 [oR 549 0, oI a1, oI a2, nn] [] s else evT f 510 33 [oR 549 0, oI a1, oI a2, nn] [] s) (fun _ => rfl) (rg_if h (fun h => ?_) fun h => ?_)
    · refine rg_step 3 (G' := fun f => ev_after (evT f 315 0 [oR 549 0, oI (cI (-102))] [] s) (fun q => evT f 510 32 [oR 549 0, oI a1, oI a2, nn] (q.2 ++ []) q.1)) (fun _ => rfl) (rg_bd2 h fun s11 v12 hc h => rg_call (q := cvI (s11, v12)) (T_fM_no hc) ?_)
      exact rg_end 1 (fun _ => rfl) (by cases h; rfl)
    · refine rg_step 4 (G' := fun f => if inb a1 300 = true then evT f 510 39 [oR 549 0, oI a1, oI a2, nn] [vI (s.1 583 (ix a1))] s else none) (fun _ => rfl) (rg_gd h fun h => ?_)
      refine rg_step 2 (G' := fun f => if (s.1 583 (ix a1)) = (cI 8) then evT f 510 44 [oR 549 0, oI a1, oI a2, nn] [] s else evT f 510 64 [oR 549 0, oI a1, oI a2, nn] [] s) (fun _ => rfl) (rg_if h (fun h => ?_) fun h => ?_)
      · refine rg_step 4 (G' := fun f => if inb a1 300 = true then evT f 510 50 [oR 549 0, oI a1, oI a2, nn] [vI (s.1 586 (ix a1))] s else none) (fun _ => rfl) (rg_gd h fun h => ?_)
        refine rg_step 3 (G' := fun f => if ((s.1 586 (ix a1)) &&& (cI 1)) = 0 then evT f 510 64 [oR 549 0, oI a1, oI a2, nn] [] s else evT f 510 55 [oR 549 0, oI a1, oI a2, nn] [] s) (fun _ => rfl) (rg_if h (fun h => ?_) fun h => ?_)
        · exact (t_fM_doClaim_b64) h
        · refine rg_step 4 (G' := fun f => if inb a1 300 = true then evT f 510 61 [oR 549 0, oI a1, oI a2, nn] [vI (s.1 603 (ix a1))] s else none) (fun _ => rfl) (rg_gd h fun h => ?_)
          refine rg_step 1 (G' := fun f => if (s.1 603 (ix a1)) = 0 then evT f 510 71 [oR 549 0, oI a1, oI a2, nn] [] s else evT f 510 64 [oR 549 0, oI a1, oI a2, nn] [] s) (fun _ => rfl) (rg_if h (fun h => ?_) fun h => ?_)
          · refine rg_step 4 (G' := fun f => ev_after (evT f 474 0 [oR 549 0, nn, nn] [] s) (fun q => evT f 510 77 [oR 549 0, oI a1, oI a2, nn] (q.2 ++ [vI (cI 1), vR 549 0]) q.1)) (fun _ => rfl) (rg_bd1 h fun v13 hc h => rg_call (q := cvP s v13) (T_fM_openOrders hc) ?_)
            refine rg_step 1 (G' := fun f => ev_after (evT f 475 0 [oR 549 0, oI (cI 1), oI v13] [] s) (fun q => evT f 510 80 [oR 549 0, oI a1, oI a2, nn] (q.2 ++ []) q.1)) (fun _ => rfl) (rg_bd1 h fun v14 hc h => rg_call (q := cvP s v14) (T_fM_isLedgerFull hc) ?_)
            refine rg_step 1 (G' := fun f => if v14 = 0 then evT f 510 83 [oR 549 0, oI a1, oI a2, nn] [] s else evT f 510 90 [oR 549 0, oI a1, oI a2, nn] [] s) (fun _ => rfl) (rg_if h (fun h => ?_) fun h => ?_)
            · refine rg_step 2 (G' := fun f => ev_after (evT f 316 0 [oR 549 0, nn] [] s) (fun q => evT f 510 87 [oR 549 0, oI a1, oI a2, nn] (q.2 ++ []) q.1)) (fun _ => rfl) (rg_bd1 h fun v15 hc h => rg_call (q := cvP s v15) (T_fM_full hc) ?_)
              refine rg_step 1 (G' := fun f => if v15 = 0 then evT f 510 97 [oR 549 0, oI a1, oI a2, nn] [] s else evT f 510 90 [oR 549 0, oI a1, oI a2, nn] [] s) (fun _ => rfl) (rg_if h (fun h => ?_) fun h => ?_)
              · refine rg_step 3 (G' := fun f => if a2 ≤ (cI 5000) then evT f 510 110 [oR 549 0, oI a1, oI a2, nn] [] s else evT f 510 104 [oR 549 0, oI a1, oI a2, nn] [] s) (fun _ => rfl) (rg_if h (fun h => ?_) fun h => ?_)
                · exact rg_step 1 (G' := fun f => evT f 510 111 [oR 549 0, oI a1, oI a2, nn] [vI a2] s) (fun _ => rfl) ((t_fM_doClaim_b111) h)
                · exact rg_step 2 (G' := fun f => evT f 510 111 [oR 549 0, oI a1, oI a2, nn] [vI (cI 5000)] s) (fun _ => rfl) ((t_fM_doClaim_b111) h)
              · exact (t_fM_doClaim_b90) h
            · exact (t_fM_doClaim_b90) h
          · exact (t_fM_doClaim_b64) h
      · exact (t_fM_doClaim_b64) h
theorem t_fM_doLocker_b48 {s : ev_M} {j1 : Option ev_V} {j2 : Option ev_V} {q : ev_M × Int32} (h : fM_doLocker_b48 s = some q) : RR 512 48 [oR 549 0, j1, j2] [] s (cvI q) := by
  refine rg_step 3 (G' := fun f => ev_after (evT f 315 0 [oR 549 0, oI (cI (-104))] [] s) (fun q => evT f 512 54 [oR 549 0, nn, nn] (q.2 ++ []) q.1)) (fun _ => rfl) (rg_bd2 h fun s1 v2 hc h => rg_call (q := cvI (s1, v2)) (T_fM_no hc) ?_)
  exact rg_end 1 (fun _ => rfl) (by cases h; rfl)
theorem T_fM_doLocker {s : ev_M} {a1 : Int32} {a2 : Int32} {q : ev_M × Int32} (h : fM_doLocker s a1 a2 = some q) : RR 512 0 [oR 549 0, oI a1, oI a2] [] s (cvI q) := by
  refine rg_step 3 (G' := fun f => ev_after (evT f 343 0 [oR 549 0, oI a1] [] s) (fun q => evT f 512 5 [oR 549 0, oI a1, oI a2] (q.2 ++ []) q.1)) (fun _ => rfl) (rg_bd1 h fun v3 hc h => rg_call (q := cvP s v3) (T_fM_isPlace hc) ?_)
  refine rg_step 1 (G' := fun f => if v3 = 0 then evT f 512 8 [oR 549 0, oI a1, oI a2] [] s else evT f 512 15 [oR 549 0, oI a1, oI a2] [] s) (fun _ => rfl) (rg_if h (fun h => ?_) fun h => ?_)
  · refine rg_step 3 (G' := fun f => ev_after (evT f 315 0 [oR 549 0, oI (cI (-101))] [] s) (fun q => evT f 512 14 [oR 549 0, oI a1, oI a2] (q.2 ++ []) q.1)) (fun _ => rfl) (rg_bd2 h fun s4 v5 hc h => rg_call (q := cvI (s4, v5)) (T_fM_no hc) ?_)
    exact rg_end 1 (fun _ => rfl) (by cases h; rfl)
  · refine rg_step 4 (G' := fun f => ev_after (evT f 311 0 [oI a2, oI (cI 1), oI (cI 10)] [] s) (fun q => evT f 512 22 [oR 549 0, oI a1, oI a2] (q.2 ++ []) q.1)) (fun _ => rfl) (rg_bd1 h fun v6 hc h => rg_call (q := cvP s v6) (T_fM_in hc) ?_)
    refine rg_step 1 (G' := fun f => if v6 = 0 then evT f 512 25 [oR 549 0, oI a1, oI a2] [] s else evT f 512 32 [oR 549 0, oI a1, oI a2] [] s) (fun _ => rfl) (rg_if h (fun h => ?_) fun h => ?_)
    · refine rg_step 3 (G' := fun f => ev_after (evT f 315 0 [oR 549 0, oI (cI (-102))] [] s) (fun q => evT f 512 31 [oR 549 0, oI a1, oI a2] (q.2 ++ []) q.1)) (fun _ => rfl) (rg_bd2 h fun s7 v8 hc h => rg_call (q := cvI (s7, v8)) (T_fM_no hc) ?_)
      exact rg_end 1 (fun _ => rfl) (by cases h; rfl)
    · refine rg_step 4 (G' := fun f => if (s.1 549 107) = (cI 8) then evT f 512 48 [oR 549 0, oI a1, oI a2] [] s else evT f 512 41 [oR 549 0, oI a1, oI a2] [] s) (fun _ => rfl) (rg_if h (fun h => ?_) fun h => ?_)
      · exact (t_fM_doLocker_b48) h
      · refine rg_step 2 (G' := fun f => ev_after (evT f 316 0 [oR 549 0, nn] [] s) (fun q => evT f 512 45 [oR 549 0, oI a1, oI a2] (q.2 ++ []) q.1)) (fun _ => rfl) (rg_bd1 h fun v9 hc h => rg_call (q := cvP s v9) (T_fM_full hc) ?_)
        refine rg_step 1 (G' := fun f => if v9 = 0 then evT f 512 55 [oR 549 0, oI a1, oI a2] [] s else evT f 512 48 [oR 549 0, oI a1, oI a2] [] s) (fun _ => rfl) (rg_if h (fun h => ?_) fun h => ?_)
        · refine rg_step 6 (G' := fun f => if inb (s.1 549 107) 8 = true then evT f 512 65 [oR 549 0, oI a1, oI a2] [] (wI s 623 (ix (s.1 549 107)) a1) else none) (fun _ => rfl) (rg_gd h fun h => rg_ltM h fun s10 h => ?_)
          refine rg_step 6 (G' := fun f => if inb (s10.1 549 107) 8 = true then evT f 512 75 [oR 549 0, oI a1, oI a2] [] (wI s10 624 (ix (s10.1 549 107)) a2) else none) (fun _ => rfl) (rg_gd h fun h => rg_ltM h fun s11 h => ?_)
          refine rg_step 6 (G' := fun f => if inb (s11.1 549 107) 8 = true then evT f 512 85 [oR 549 0, oI a1, oI a2] [] (wI s11 625 (ix (s11.1 549 107)) (cI 0)) else none) (fun _ => rfl) (rg_gd h fun h => rg_ltM h fun s12 h => ?_)
          refine rg_step 6 (G' := fun f => evT f 512 95 [oR 549 0, oI a1, oI a2] [] (wI s12 549 107 ((s12.1 549 107) + (cI 1)))) (fun _ => rfl) (rg_ltM h fun s13 h => ?_)
          exact rg_end 5 (fun _ => rfl) (by cases h; rfl)
        · exact (t_fM_doLocker_b48) h
theorem T_fM_doDevice {s : ev_M} {a1 : Int32} {a2 : Int32} {q : ev_M × Int32} (h : fM_doDevice s a1 a2 = some q) : RR 515 0 [oR 549 0, oI a1, oI a2] [] s (cvI q) := by
  refine rg_step 4 (G' := fun f => ev_after (evT f 311 0 [oI a1, oI (cI 0), oI (cI 7)] [] s) (fun q => evT f 515 7 [oR 549 0, oI a1, oI a2] (q.2 ++ []) q.1)) (fun _ => rfl) (rg_bd1 h fun v1 hc h => rg_call (q := cvP s v1) (T_fM_in hc) ?_)
  refine rg_step 1 (G' := fun f => if v1 = 0 then evT f 515 10 [oR 549 0, oI a1, oI a2] [] s else evT f 515 17 [oR 549 0, oI a1, oI a2] [] s) (fun _ => rfl) (rg_if h (fun h => ?_) fun h => ?_)
  · refine rg_step 3 (G' := fun f => ev_after (evT f 315 0 [oR 549 0, oI (cI (-101))] [] s) (fun q => evT f 515 16 [oR 549 0, oI a1, oI a2] (q.2 ++ []) q.1)) (fun _ => rfl) (rg_bd2 h fun s2 v3 hc h => rg_call (q := cvI (s2, v3)) (T_fM_no hc) ?_)
    exact rg_end 1 (fun _ => rfl) (by cases h; rfl)
  · refine rg_step 4 (G' := fun f => ev_after (evT f 311 0 [oI a2, oI (cI 0), oI (cI 1000000000)] [] s) (fun q => evT f 515 25 [oR 549 0, oI a1, oI a2] (q.2 ++ []) q.1)) (fun _ => rfl) (rg_bd1 h fun v4 hc h => rg_call (q := cvP s v4) (T_fM_in hc) ?_)
    refine rg_step 1 (G' := fun f => if v4 = 0 then evT f 515 28 [oR 549 0, oI a1, oI a2] [] s else evT f 515 35 [oR 549 0, oI a1, oI a2] [] s) (fun _ => rfl) (rg_if h (fun h => ?_) fun h => ?_)
    · refine rg_step 3 (G' := fun f => ev_after (evT f 315 0 [oR 549 0, oI (cI (-102))] [] s) (fun q => evT f 515 34 [oR 549 0, oI a1, oI a2] (q.2 ++ []) q.1)) (fun _ => rfl) (rg_bd2 h fun s5 v6 hc h => rg_call (q := cvI (s5, v6)) (T_fM_no hc) ?_)
      exact rg_end 1 (fun _ => rfl) (by cases h; rfl)
    · refine rg_step 2 (G' := fun f => ev_after (evT f 316 0 [oR 549 0, nn] [] s) (fun q => evT f 515 39 [oR 549 0, oI a1, oI a2] (q.2 ++ []) q.1)) (fun _ => rfl) (rg_bd1 h fun v7 hc h => rg_call (q := cvP s v7) (T_fM_full hc) ?_)
      refine rg_step 1 (G' := fun f => if v7 = 0 then evT f 515 49 [oR 549 0, oI a1, oI a2] [] s else evT f 515 42 [oR 549 0, oI a1, oI a2] [] s) (fun _ => rfl) (rg_if h (fun h => ?_) fun h => ?_)
      · refine rg_step 8 (G' := fun f => if inb a1 8 = true then evT f 515 61 [oR 549 0, oI a1, oI a2] [] (wI s 647 (ix a1) ((s.1 549 22) - a2)) else none) (fun _ => rfl) (rg_gd h fun h => rg_ltM h fun s8 h => ?_)
        refine rg_step 4 (G' := fun f => if inb a1 8 = true then evT f 515 67 [oR 549 0, oI a1, oI a2] [vI (s8.1 647 (ix a1))] s8 else none) (fun _ => rfl) (rg_gd h fun h => ?_)
        exact rg_end 1 (fun _ => rfl) (by cases h; rfl)
      · refine rg_step 3 (G' := fun f => ev_after (evT f 315 0 [oR 549 0, oI (cI (-104))] [] s) (fun q => evT f 515 48 [oR 549 0, oI a1, oI a2] (q.2 ++ []) q.1)) (fun _ => rfl) (rg_bd2 h fun s9 v10 hc h => rg_call (q := cvI (s9, v10)) (T_fM_no hc) ?_)
        exact rg_end 1 (fun _ => rfl) (by cases h; rfl)
theorem t_fM_doScanned_b18 {s : ev_M} {j1 : Option ev_V} {j2 : Option ev_V} {j3 : Option ev_V} {j4 : Option ev_V} {q : ev_M × Int32} (h : fM_doScanned_b18 s = some q) : RR 517 18 [oR 549 0, j1, j2, j3, j4] [] s (cvI q) := by
  refine rg_step 3 (G' := fun f => ev_after (evT f 315 0 [oR 549 0, oI (cI (-101))] [] s) (fun q => evT f 517 24 [oR 549 0, nn, nn, nn, nn] (q.2 ++ []) q.1)) (fun _ => rfl) (rg_bd2 h fun s1 v2 hc h => rg_call (q := cvI (s1, v2)) (T_fM_no hc) ?_)
  exact rg_end 1 (fun _ => rfl) (by cases h; rfl)
theorem t_fM_doScanned_b67 {s : ev_M} {j1 : Option ev_V} {j2 : Option ev_V} {j3 : Option ev_V} {j4 : Option ev_V} {q : ev_M × Int32} (h : fM_doScanned_b67 s = some q) : RR 517 67 [oR 549 0, j1, j2, j3, j4] [] s (cvI q) := by
  refine rg_step 3 (G' := fun f => ev_after (evT f 315 0 [oR 549 0, oI (cI (-102))] [] s) (fun q => evT f 517 73 [oR 549 0, nn, nn, nn, nn] (q.2 ++ []) q.1)) (fun _ => rfl) (rg_bd2 h fun s3 v4 hc h => rg_call (q := cvI (s3, v4)) (T_fM_no hc) ?_)
  exact rg_end 1 (fun _ => rfl) (by cases h; rfl)
theorem T_fM_doScanned {s : ev_M} {a1 : Int32} {a2 : Int32} {a3 : Int32} {a4 : Int32} {q : ev_M × Int32} (h : fM_doScanned s a1 a2 a3 a4 = some q) : RR 517 0 [oR 549 0, oI a1, oI a2, oI a3, oI a4] [] s (cvI q) := by
  refine rg_step 4 (G' := fun f => ev_after (evT f 311 0 [oI a1, oI (cI 0), oI (cI 7)] [] s) (fun q => evT f 517 7 [oR 549 0, oI a1, oI a2, oI a3, oI a4] (q.2 ++ []) q.1)) (fun _ => rfl) (rg_bd1 h fun v5 hc h => rg_call (q := cvP s v5) (T_fM_in hc) ?_)
  refine rg_step 1 (G' := fun f => if v5 = 0 then evT f 517 18 [oR 549 0, oI a1, oI a2, oI a3, oI a4] [] s else evT f 517 10 [oR 549 0, oI a1, oI a2, oI a3, oI a4] [] s) (fun _ => rfl) (rg_if h (fun h => ?_) fun h => ?_)
  · exact (t_fM_doScanned_b18) h
  · refine rg_step 3 (G' := fun f => ev_after (evT f 342 0 [oR 549 0, oI a2] [] s) (fun q => evT f 517 15 [oR 549 0, oI a1, oI a2, oI a3, oI a4] (q.2 ++ []) q.1)) (fun _ => rfl) (rg_bd1 h fun v6 hc h => rg_call (q := cvP s v6) (T_fM_isItem hc) ?_)
    refine rg_step 1 (G' := fun f => if v6 = 0 then evT f 517 18 [oR 549 0, oI a1, oI a2, oI a3, oI a4] [] s else evT f 517 25 [oR 549 0, oI a1, oI a2, oI a3, oI a4] [] s) (fun _ => rfl) (rg_if h (fun h => ?_) fun h => ?_)
    · exact (t_fM_doScanned_b18) h
    · refine rg_step 4 (G' := fun f => ev_after (evT f 311 0 [oI a3, oI (cI 0), oI (cI 9)] [] s) (fun q => evT f 517 32 [oR 549 0, oI a1, oI a2, oI a3, oI a4] (q.2 ++ []) q.1)) (fun _ => rfl) (rg_bd1 h fun v7 hc h => rg_call (q := cvP s v7) (T_fM_in hc) ?_)
      refine rg_step 1 (G' := fun f => if v7 = 0 then evT f 517 67 [oR 549 0, oI a1, oI a2, oI a3, oI a4] [] s else evT f 517 35 [oR 549 0, oI a1, oI a2, oI a3, oI a4] [] s) (fun _ => rfl) (rg_if h (fun h => ?_) fun h => ?_)
      · exact (t_fM_doScanned_b67) h
      · refine rg_step 4 (G' := fun f => ev_after (evT f 311 0 [oI a4, oI (cI 0), oI (cI 1000000000)] [] s) (fun q => evT f 517 44 [oR 549 0, oI a1, oI a2, oI a3, oI a4] (q.2 ++ []) q.1)) (fun _ => rfl) (rg_bd1 h fun v8 hc h => rg_call (q := cvP s v8) (T_fM_in hc) ?_)
        refine rg_step 1 (G' := fun f => if v8 = 0 then evT f 517 67 [oR 549 0, oI a1, oI a2, oI a3, oI a4] [] s else evT f 517 47 [oR 549 0, oI a1, oI a2, oI a3, oI a4] [] s) (fun _ => rfl) (rg_if h (fun h => ?_) fun h => ?_)
        · exact (t_fM_doScanned_b67) h
        · refine rg_step 5 (G' := fun f => if inb a1 8 = true then evT f 517 55 [oR 549 0, oI a1, oI a2, oI a3, oI a4] [vI (s.1 647 (ix a1)), vI a4] s else none) (fun _ => rfl) (rg_gd h fun h => ?_)
          refine rg_step 5 (G' := fun f => ev_after (evT f 311 0 [oI (a4 + (s.1 647 (ix a1))), oI (cI 0), oI (s.1 549 22)] [] s) (fun q => evT f 517 64 [oR 549 0, oI a1, oI a2, oI a3, oI a4] (q.2 ++ []) q.1)) (fun _ => rfl) (rg_bd1 h fun v9 hc h => rg_call (q := cvP s v9) (T_fM_in hc) ?_)
          refine rg_step 1 (G' := fun f => if v9 = 0 then evT f 517 67 [oR 549 0, oI a1, oI a2, oI a3, oI a4] [] s else evT f 517 74 [oR 549 0, oI a1, oI a2, oI a3, oI a4] [] s) (fun _ => rfl) (rg_if h (fun h => ?_) fun h => ?_)
          · exact (t_fM_doScanned_b67) h
          · refine rg_step 2 (G' := fun f => ev_after (evT f 316 0 [oR 549 0, nn] [] s) (fun q => evT f 517 78 [oR 549 0, oI a1, oI a2, oI a3, oI a4] (q.2 ++ []) q.1)) (fun _ => rfl) (rg_bd1 h fun v10 hc h => rg_call (q := cvP s v10) (T_fM_full hc) ?_)
            refine rg_step 1 (G' := fun f => if v10 = 0 then evT f 517 88 [oR 549 0, oI a1, oI a2, oI a3, oI a4] [] s else evT f 517 81 [oR 549 0, oI a1, oI a2, oI a3, oI a4] [] s) (fun _ => rfl) (rg_if h (fun h => ?_) fun h => ?_)
            · refine rg_step 11 (G' := fun f => if inb a1 8 = true then evT f 517 103 [oR 549 0, oI a1, oI a2, oI a3, oI a4] [vI (s.1 647 (ix a1)), vI a4, vI (cI (-1)), vI ((cI 20) + a3), vI a2, vR 549 0] s else none) (fun _ => rfl) (rg_gd h fun h => ?_)
              refine rg_step 2 (G' := fun f => ev_after (evT f 350 0 [oR 549 0, oI a2, oI ((cI 20) + a3), oI (cI (-1)), oI (a4 + (s.1 647 (ix a1)))] [] s) (fun q => evT f 517 107 [oR 549 0, oI a1, oI a2, oI a3, oI a4] (q.2 ++ []) q.1)) (fun _ => rfl) (rg_bd1 h fun s11 hc h => rg_call (q := cvV s11) (T_fM_event hc) ?_)
              exact rg_end 2 (fun _ => rfl) (by cases h; rfl)
            · refine rg_step 3 (G' := fun f => ev_after (evT f 315 0 [oR 549 0, oI (cI (-104))] [] s) (fun q => evT f 517 87 [oR 549 0, oI a1, oI a2, oI a3, oI a4] (q.2 ++ []) q.1)) (fun _ => rfl) (rg_bd2 h fun s12 v13 hc h => rg_call (q := cvI (s12, v13)) (T_fM_no hc) ?_)
              exact rg_end 1 (fun _ => rfl) (by cases h; rfl)
theorem t_fM_findWays_b191 {k49 : ev_M → Int32 → Int32 → Option ev_M} {k63 : ev_M → Int32 → Int32 → Int32 → Option ev_M} (hk49 : ∀ {s : ev_M} {x1 : Int32} {x2 : Int32} {j3 : Option ev_V} {j4 : Option ev_V} {j5 : Option ev_V} {q : ev_M}, k49 s x1 x2 = some q → RR 472 49 [oR 549 0, oI x1, oI x2, j3, j4, j5] [] s (cvV q)) (hk63 : ∀ {s : ev_M} {x1 : Int32} {x2 : Int32} {x3 : Int32} {j4 : Option ev_V} {j5 : Option ev_V} {q : ev_M}, k63 s x1 x2 x3 = some q → RR 472 63 [oR 549 0, oI x1, oI x2, oI x3, j4, j5] [] s (cvV q)) {s : ev_M} {x1 : Int32} {x2 : Int32} {x3 : Int32} {j4 : Option ev_V} {j5 : Option ev_V} {q : ev_M} (h : fM_findWays_b191 k49 k63 s x1 x2 x3 = some q) : RR 472 191 [oR 549 0, oI x1, oI x2, oI x3, j4, j5] [] s (cvV q) := by
  exact rg_step 2 (G' := fun f => evT f 472 63 [oR 549 0, oI x1, oI x2, oI (x3 + cI 1), nn, nn] [] s) (fun _ => rfl) (hk63 h)
theorem t_fM_findWays_b190 {k49 : ev_M → Int32 → Int32 → Option ev_M} {k63 : ev_M → Int32 → Int32 → Int32 → Option ev_M} (hk49 : ∀ {s : ev_M} {x1 : Int32} {x2 : Int32} {j3 : Option ev_V} {j4 : Option ev_V} {j5 : Option ev_V} {q : ev_M}, k49 s x1 x2 = some q → RR 472 49 [oR 549 0, oI x1, oI x2, j3, j4, j5] [] s (cvV q)) (hk63 : ∀ {s : ev_M} {x1 : Int32} {x2 : Int32} {x3 : Int32} {j4 : Option ev_V} {j5 : Option ev_V} {q : ev_M}, k63 s x1 x2 x3 = some q → RR 472 63 [oR 549 0, oI x1, oI x2, oI x3, j4, j5] [] s (cvV q)) {s : ev_M} {x1 : Int32} {x2 : Int32} {x3 : Int32} {y1 : Int32} {y2 : Int32} {j4 : Option ev_V} {j5 : Option ev_V} {q : ev_M} (h : fM_findWays_b190 k49 k63 s x1 x2 x3 y1 y2 = some q) : RR 472 190 [oR 549 0, oI x1, oI x2, oI x3, j4, j5] [vI y2, vI y1, vR 676 0] s (cvV q) := by
  refine rg_step 1 (G' := fun f => if inb y1 12 = true then evT f 472 191 [oR 549 0, oI x1, oI x2, oI x3, nn, nn] [] (wI s 676 (ix y1) y2) else none) (fun _ => rfl) (rg_gd h fun h => rg_ltM h fun s1 h => ?_)
  exact (t_fM_findWays_b191 hk49 hk63) h
theorem t_fM_findWays_b160 {k49 : ev_M → Int32 → Int32 → Option ev_M} {k63 : ev_M → Int32 → Int32 → Int32 → Option ev_M} (hk49 : ∀ {s : ev_M} {x1 : Int32} {x2 : Int32} {j3 : Option ev_V} {j4 : Option ev_V} {j5 : Option ev_V} {q : ev_M}, k49 s x1 x2 = some q → RR 472 49 [oR 549 0, oI x1, oI x2, j3, j4, j5] [] s (cvV q)) (hk63 : ∀ {s : ev_M} {x1 : Int32} {x2 : Int32} {x3 : Int32} {j4 : Option ev_V} {j5 : Option ev_V} {q : ev_M}, k63 s x1 x2 x3 = some q → RR 472 63 [oR 549 0, oI x1, oI x2, oI x3, j4, j5] [] s (cvV q)) {s : ev_M} {x1 : Int32} {x2 : Int32} {x3 : Int32} {x4 : Int32} {x5 : Int32} {q : ev_M} (h : fM_findWays_b160 k49 k63 s x1 x2 x3 x4 x5 = some q) : RR 472 160 [oR 549 0, oI x1, oI x2, oI x3, oI x4, oI x5] [] s (cvV q) := by
  refine rg_step 5 (G' := fun f => if inb x5 12 = true then evT f 472 169 [oR 549 0, oI x1, oI x2, oI x3, oI x4, oI x5] [] (wI s 675 (ix x5) x4) else none) (fun _ => rfl) (rg_gd h fun h => rg_ltM h fun s2 h => ?_)
  refine rg_step 6 (G' := fun f => if x2 = x1 then evT f 472 180 [oR 549 0, oI x1, oI x2, oI x3, oI x4, oI x5] [vI x5, vR 676 0] s2 else evT f 472 184 [oR 549 0, oI x1, oI x2, oI x3, oI x4, oI x5] [vI x5, vR 676 0] s2) (fun _ => rfl) (rg_if h (fun h => ?_) fun h => ?_)
  · exact rg_step 2 (G' := fun f => evT f 472 190 [oR 549 0, oI x1, oI x2, oI x3, oI x4, oI x5] [vI x3, vI x5, vR 676 0] s2) (fun _ => rfl) ((t_fM_findWays_b190 hk49 hk63) h)
  · refine rg_step 4 (G' := fun f => if inb x2 12 = true then evT f 472 190 [oR 549 0, oI x1, oI x2, oI x3, oI x4, oI x5] [vI (s2.1 676 (ix x2)), vI x5, vR 676 0] s2 else none) (fun _ => rfl) (rg_gd h fun h => ?_)
    exact (t_fM_findWays_b190 hk49 hk63) h
theorem t_fM_findWays_b120 {k49 : ev_M → Int32 → Int32 → Option ev_M} {k63 : ev_M → Int32 → Int32 → Int32 → Option ev_M} (hk49 : ∀ {s : ev_M} {x1 : Int32} {x2 : Int32} {j3 : Option ev_V} {j4 : Option ev_V} {j5 : Option ev_V} {q : ev_M}, k49 s x1 x2 = some q → RR 472 49 [oR 549 0, oI x1, oI x2, j3, j4, j5] [] s (cvV q)) (hk63 : ∀ {s : ev_M} {x1 : Int32} {x2 : Int32} {x3 : Int32} {j4 : Option ev_V} {j5 : Option ev_V} {q : ev_M}, k63 s x1 x2 x3 = some q → RR 472 63 [oR 549 0, oI x1, oI x2, oI x3, j4, j5] [] s (cvV q)) {s : ev_M} {x1 : Int32} {x2 : Int32} {x3 : Int32} {y0 : Int32} {j4 : Option ev_V} {j5 : Option ev_V} {q : ev_M} (h : fM_findWays_b120 k49 k63 s x1 x2 x3 y0 = some q) : RR 472 120 [oR 549 0, oI x1, oI x2, oI x3, j4, j5] [vI y0] s (cvV q) := by
  refine rg_step 4 (G' := fun f => if inb x3 20 = true then evT f 472 126 [oR 549 0, oI x1, oI x2, oI x3, nn, nn] [vI (s.1 614 (ix x3)), vI y0] s else none) (fun _ => rfl) (rg_gd h fun h => ?_)
  refine rg_step 2 (G' := fun f => evT f 472 129 [oR 549 0, oI x1, oI x2, oI x3, oI (y0 + (s.1 614 (ix x3))), nn] [] s) (fun _ => rfl) (rg_ltI (P := fun v3 => RG (fun f => evT f 472 129 [oR 549 0, oI x1, oI x2, oI x3, oI v3, nn] [] s) (cvV q)) h fun v3 h => ?_)
  refine rg_step 4 (G' := fun f => if inb x3 20 = true then evT f 472 135 [oR 549 0, oI x1, oI x2, oI x3, oI v3, nn] [vI (s.1 612 (ix x3))] s else none) (fun _ => rfl) (rg_gd h fun h => ?_)
  refine rg_step 1 (G' := fun f => evT f 472 137 [oR 549 0, oI x1, oI x2, oI x3, oI v3, oI (s.1 612 (ix x3))] [] s) (fun _ => rfl) (rg_ltI (P := fun v4 => RG (fun f => evT f 472 137 [oR 549 0, oI x1, oI x2, oI x3, oI v3, oI v4] [] s) (cvV q)) h fun v4 h => ?_)
  refine rg_step 4 (G' := fun f => if inb v4 12 = true then evT f 472 144 [oR 549 0, oI x1, oI x2, oI x3, oI v3, oI v4] [vI (s.1 675 (ix v4))] s else none) (fun _ => rfl) (rg_gd h fun h => ?_)
  refine rg_step 2 (G' := fun f => if (s.1 675 (ix v4)) = (cI (-1)) then evT f 472 160 [oR 549 0, oI x1, oI x2, oI x3, oI v3, oI v4] [] s else evT f 472 148 [oR 549 0, oI x1, oI x2, oI x3, oI v3, oI v4] [] s) (fun _ => rfl) (rg_if h (fun h => ?_) fun h => ?_)
  · exact (t_fM_findWays_b160 hk49 hk63) h
  · refine rg_step 5 (G' := fun f => if inb v4 12 = true then evT f 472 157 [oR 549 0, oI x1, oI x2, oI x3, oI v3, oI v4] [vI (s.1 675 (ix v4)), vI v3] s else none) (fun _ => rfl) (rg_gd h fun h => ?_)
    refine rg_step 1 (G' := fun f => if v3 < (s.1 675 (ix v4)) then evT f 472 160 [oR 549 0, oI x1, oI x2, oI x3, oI v3, oI v4] [] s else evT f 472 191 [oR 549 0, oI x1, oI x2, oI x3, oI v3, oI v4] [] s) (fun _ => rfl) (rg_if h (fun h => ?_) fun h => ?_)
    · exact (t_fM_findWays_b160 hk49 hk63) h
    · exact (t_fM_findWays_b191 hk49 hk63) h
theorem t_fM_findWays_b265 {k49 : ev_M → Int32 → Int32 → Option ev_M} {k201 : ev_M → Int32 → Int32 → Int32 → Option ev_M} (hk49 : ∀ {s : ev_M} {x1 : Int32} {x2 : Int32} {j3 : Option ev_V} {j4 : Option ev_V} {j5 : Option ev_V} {q : ev_M}, k49 s x1 x2 = some q → RR 472 49 [oR 549 0, oI x1, oI x2, j3, j4, j5] [] s (cvV q)) (hk201 : ∀ {s : ev_M} {x1 : Int32} {x2 : Int32} {x3 : Int32} {j4 : Option ev_V} {j5 : Option ev_V} {q : ev_M}, k201 s x1 x2 x3 = some q → RR 472 201 [oR 549 0, oI x1, oI x2, oI x3, j4, j5] [] s (cvV q)) {s : ev_M} {x1 : Int32} {x3 : Int32} {y0 : Int32} {j2 : Option ev_V} {j4 : Option ev_V} {j5 : Option ev_V} {q : ev_M} (h : fM_findWays_b265 k49 k201 s x1 x3 y0 = some q) : RR 472 265 [oR 549 0, oI x1, j2, oI x3, j4, j5] [vI y0] s (cvV q) := by
  exact rg_step 3 (G' := fun f => evT f 472 201 [oR 549 0, oI x1, oI y0, oI (x3 + cI 1), nn, nn] [] s) (fun _ => rfl) (hk201 h)
theorem t_fM_findWays_b260 {k49 : ev_M → Int32 → Int32 → Option ev_M} {k201 : ev_M → Int32 → Int32 → Int32 → Option ev_M} (hk49 : ∀ {s : ev_M} {x1 : Int32} {x2 : Int32} {j3 : Option ev_V} {j4 : Option ev_V} {j5 : Option ev_V} {q : ev_M}, k49 s x1 x2 = some q → RR 472 49 [oR 549 0, oI x1, oI x2, j3, j4, j5] [] s (cvV q)) (hk201 : ∀ {s : ev_M} {x1 : Int32} {x2 : Int32} {x3 : Int32} {j4 : Option ev_V} {j5 : Option ev_V} {q : ev_M}, k201 s x1 x2 x3 = some q → RR 472 201 [oR 549 0, oI x1, oI x2, oI x3, j4, j5] [] s (cvV q)) {s : ev_M} {x1 : Int32} {x3 : Int32} {j2 : Option ev_V} {j4 : Option ev_V} {j5 : Option ev_V} {q : ev_M} (h : fM_findWays_b260 k49 k201 s x1 x3 = some q) : RR 472 260 [oR 549 0, oI x1, j2, oI x3, j4, j5] [] s (cvV q) := by
  exact rg_step 2 (G' := fun f => evT f 472 265 [oR 549 0, oI x1, nn, oI x3, nn, nn] [vI x3] s) (fun _ => rfl) ((t_fM_findWays_b265 hk49 hk201) h)
theorem t_fM_findWays_b264 {k49 : ev_M → Int32 → Int32 → Option ev_M} {k201 : ev_M → Int32 → Int32 → Int32 → Option ev_M} (hk49 : ∀ {s : ev_M} {x1 : Int32} {x2 : Int32} {j3 : Option ev_V} {j4 : Option ev_V} {j5 : Option ev_V} {q : ev_M}, k49 s x1 x2 = some q → RR 472 49 [oR 549 0, oI x1, oI x2, j3, j4, j5] [] s (cvV q)) (hk201 : ∀ {s : ev_M} {x1 : Int32} {x2 : Int32} {x3 : Int32} {j4 : Option ev_V} {j5 : Option ev_V} {q : ev_M}, k201 s x1 x2 x3 = some q → RR 472 201 [oR 549 0, oI x1, oI x2, oI x3, j4, j5] [] s (cvV q)) {s : ev_M} {x1 : Int32} {x2 : Int32} {x3 : Int32} {j4 : Option ev_V} {j5 : Option ev_V} {q : ev_M} (h : fM_findWays_b264 k49 k201 s x1 x2 x3 = some q) : RR 472 264 [oR 549 0, oI x1, oI x2, oI x3, j4, j5] [] s (cvV q) := by
  exact rg_step 1 (G' := fun f => evT f 472 265 [oR 549 0, oI x1, oI x2, oI x3, nn, nn] [vI x2] s) (fun _ => rfl) ((t_fM_findWays_b265 hk49 hk201) h)
theorem t_fM_findWays_b233 {k49 : ev_M → Int32 → Int32 → Option ev_M} {k201 : ev_M → Int32 → Int32 → Int32 → Option ev_M} (hk49 : ∀ {s : ev_M} {x1 : Int32} {x2 : Int32} {j3 : Option ev_V} {j4 : Option ev_V} {j5 : Option ev_V} {q : ev_M}, k49 s x1 x2 = some q → RR 472 49 [oR 549 0, oI x1, oI x2, j3, j4, j5] [] s (cvV q)) (hk201 : ∀ {s : ev_M} {x1 : Int32} {x2 : Int32} {x3 : Int32} {j4 : Option ev_V} {j5 : Option ev_V} {q : ev_M}, k201 s x1 x2 x3 = some q → RR 472 201 [oR 549 0, oI x1, oI x2, oI x3, j4, j5] [] s (cvV q)) {s : ev_M} {x1 : Int32} {x2 : Int32} {x3 : Int32} {y0 : Int32} {j4 : Option ev_V} {j5 : Option ev_V} {q : ev_M} (h : fM_findWays_b233 k49 k201 s x1 x2 x3 y0 = some q) : RR 472 233 [oR 549 0, oI x1, oI x2, oI x3, j4, j5] [vI y0] s (cvV q) := by
  refine rg_step 3 (G' := fun f => if y0 = 0 then evT f 472 264 [oR 549 0, oI x1, oI x2, oI x3, oI y0, nn] [] s else evT f 472 240 [oR 549 0, oI x1, oI x2, oI x3, oI y0, nn] [] s) (fun _ => rfl) (rg_if h (fun h => ?_) fun h => ?_)
  · exact (t_fM_findWays_b264 hk49 hk201) h
  · refine rg_step 3 (G' := fun f => if x2 = (cI (-1)) then evT f 472 260 [oR 549 0, oI x1, oI x2, oI x3, oI y0, nn] [] s else evT f 472 245 [oR 549 0, oI x1, oI x2, oI x3, oI y0, nn] [] s) (fun _ => rfl) (rg_if h (fun h => ?_) fun h => ?_)
    · exact (t_fM_findWays_b260 hk49 hk201) h
    · refine rg_step 4 (G' := fun f => if inb x3 12 = true then evT f 472 251 [oR 549 0, oI x1, oI x2, oI x3, oI y0, nn] [vI (s.1 675 (ix x3))] s else none) (fun _ => rfl) (rg_gd h fun h => ?_)
      refine rg_step 4 (G' := fun f => if inb x2 12 = true then evT f 472 257 [oR 549 0, oI x1, oI x2, oI x3, oI y0, nn] [vI (s.1 675 (ix x2)), vI (s.1 675 (ix x3))] s else none) (fun _ => rfl) (rg_gd h fun h => ?_)
      refine rg_step 1 (G' := fun f => if (s.1 675 (ix x3)) < (s.1 675 (ix x2)) then evT f 472 260 [oR 549 0, oI x1, oI x2, oI x3, oI y0, nn] [] s else evT f 472 264 [oR 549 0, oI x1, oI x2, oI x3, oI y0, nn] [] s) (fun _ => rfl) (rg_if h (fun h => ?_) fun h => ?_)
      · exact (t_fM_findWays_b260 hk49 hk201) h
      · exact (t_fM_findWays_b264 hk49 hk201) h
theorem t_fM_findWays_b232 {k49 : ev_M → Int32 → Int32 → Option ev_M} {k201 : ev_M → Int32 → Int32 → Int32 → Option ev_M} (hk49 : ∀ {s : ev_M} {x1 : Int32} {x2 : Int32} {j3 : Option ev_V} {j4 : Option ev_V} {j5 : Option ev_V} {q : ev_M}, k49 s x1 x2 = some q → RR 472 49 [oR 549 0, oI x1, oI x2, j3, j4, j5] [] s (cvV q)) (hk201 : ∀ {s : ev_M} {x1 : Int32} {x2 : Int32} {x3 : Int32} {j4 : Option ev_V} {j5 : Option ev_V} {q : ev_M}, k201 s x1 x2 x3 = some q → RR 472 201 [oR 549 0, oI x1, oI x2, oI x3, j4, j5] [] s (cvV q)) {s : ev_M} {x1 : Int32} {x2 : Int32} {x3 : Int32} {j4 : Option ev_V} {j5 : Option ev_V} {q : ev_M} (h : fM_findWays_b232 k49 k201 s x1 x2 x3 = some q) : RR 472 232 [oR 549 0, oI x1, oI x2, oI x3, j4, j5] [] s (cvV q) := by
  exact rg_step 1 (G' := fun f => evT f 472 233 [oR 549 0, oI x1, oI x2, oI x3, nn, nn] [vI (cI 0)] s) (fun _ => rfl) ((t_fM_findWays_b233 hk49 hk201) h)
theorem ti_fM_findWays_h201 {k49 : ev_M → Int32 → Int32 → Option ev_M} (hk49 : ∀ {s : ev_M} {x1 : Int32} {x2 : Int32} {j3 : Option ev_V} {j4 : Option ev_V} {j5 : Option ev_V} {q : ev_M}, k49 s x1 x2 = some q → RR 472 49 [oR 549 0, oI x1, oI x2, j3, j4, j5] [] s (cvV q)) : ∀ (n : Nat) (s : ev_M) (x1 : Int32) (x2 : Int32) (x3 : Int32) (j4 : Option ev_V) (j5 : Option ev_V) (q : ev_M), fM_findWays_h201 k49 n s x1 x2 x3 = some q → RR 472 201 [oR 549 0, oI x1, oI x2, oI x3, j4, j5] [] s (cvV q) := by
  intro n
  induction n with
  | zero => intro s x1 x2 x3 j4 j5 q h; cases h
  | succ n ih =>
    have hk201 : ∀ {s : ev_M} {x1 : Int32} {x2 : Int32} {x3 : Int32} {j4 : Option ev_V} {j5 : Option ev_V} {q : ev_M}, fM_findWays_h201 k49 n s x1 x2 x3 = some q → RR 472 201 [oR 549 0, oI x1, oI x2, oI x3, j4, j5] [] s (cvV q) := fun h => ih _ _ _ _ _ _ _ h
    intro s x1 x2 x3 j4 j5 q h
    refine rg_step 4 (G' := fun f => if x3 < (s.1 549 24) then evT f 472 209 [oR 549 0, oI x1, oI x2, oI x3, nn, nn] [] s else evT f 472 272 [oR 549 0, oI x1, oI x2, oI x3, nn, nn] [] s) (fun _ => rfl) (rg_if h (fun h => ?_) fun h => ?_)
    · refine rg_step 4 (G' := fun f => if inb x3 12 = true then evT f 472 215 [oR 549 0, oI x1, oI x2, oI x3, nn, nn] [vI (s.1 675 (ix x3))] s else none) (fun _ => rfl) (rg_gd h fun h => ?_)
      refine rg_step 2 (G' := fun f => if (s.1 675 (ix x3)) = (cI (-1)) then evT f 472 232 [oR 549 0, oI x1, oI x2, oI x3, nn, nn] [] s else evT f 472 219 [oR 549 0, oI x1, oI x2, oI x3, nn, nn] [] s) (fun _ => rfl) (rg_if h (fun h => ?_) fun h => ?_)
      · exact (t_fM_findWays_b232 hk49 hk201) h
      · refine rg_step 4 (G' := fun f => if inb x3 12 = true then evT f 472 225 [oR 549 0, oI x1, oI x2, oI x3, nn, nn] [vI (s.1 677 (ix x3))] s else none) (fun _ => rfl) (rg_gd h fun h => ?_)
        refine rg_step 1 (G' := fun f => if (s.1 677 (ix x3)) = 0 then evT f 472 228 [oR 549 0, oI x1, oI x2, oI x3, nn, nn] [] s else evT f 472 232 [oR 549 0, oI x1, oI x2, oI x3, nn, nn] [] s) (fun _ => rfl) (rg_if h (fun h => ?_) fun h => ?_)
        · exact rg_step 2 (G' := fun f => evT f 472 233 [oR 549 0, oI x1, oI x2, oI x3, nn, nn] [vI (cI 1)] s) (fun _ => rfl) ((t_fM_findWays_b233 hk49 hk201) h)
        · exact (t_fM_findWays_b232 hk49 hk201) h
    · exact rg_step 1 (G' := fun f => evT f 472 49 [oR 549 0, oI x1, oI x2, oI x3, nn, nn] [] s) (fun _ => rfl) (hk49 h)
theorem t_fM_findWays_h201 {k49 : ev_M → Int32 → Int32 → Option ev_M} (hk49 : ∀ {s : ev_M} {x1 : Int32} {x2 : Int32} {j3 : Option ev_V} {j4 : Option ev_V} {j5 : Option ev_V} {q : ev_M}, k49 s x1 x2 = some q → RR 472 49 [oR 549 0, oI x1, oI x2, j3, j4, j5] [] s (cvV q)) {n : Nat} {s : ev_M} {x1 : Int32} {x2 : Int32} {x3 : Int32} {j4 : Option ev_V} {j5 : Option ev_V} {q : ev_M} (h : fM_findWays_h201 k49 n s x1 x2 x3 = some q) : RR 472 201 [oR 549 0, oI x1, oI x2, oI x3, j4, j5] [] s (cvV q) := ti_fM_findWays_h201 hk49 n s x1 x2 x3 j4 j5 q h
theorem ti_fM_findWays_h63 {k49 : ev_M → Int32 → Int32 → Option ev_M} (hk49 : ∀ {s : ev_M} {x1 : Int32} {x2 : Int32} {j3 : Option ev_V} {j4 : Option ev_V} {j5 : Option ev_V} {q : ev_M}, k49 s x1 x2 = some q → RR 472 49 [oR 549 0, oI x1, oI x2, j3, j4, j5] [] s (cvV q)) : ∀ (n : Nat) (s : ev_M) (x1 : Int32) (x2 : Int32) (x3 : Int32) (j4 : Option ev_V) (j5 : Option ev_V) (q : ev_M), fM_findWays_h63 k49 n s x1 x2 x3 = some q → RR 472 63 [oR 549 0, oI x1, oI x2, oI x3, j4, j5] [] s (cvV q) := by
  intro n
  induction n with
  | zero => intro s x1 x2 x3 j4 j5 q h; cases h
  | succ n ih =>
    have hk63 : ∀ {s : ev_M} {x1 : Int32} {x2 : Int32} {x3 : Int32} {j4 : Option ev_V} {j5 : Option ev_V} {q : ev_M}, fM_findWays_h63 k49 n s x1 x2 x3 = some q → RR 472 63 [oR 549 0, oI x1, oI x2, oI x3, j4, j5] [] s (cvV q) := fun h => ih _ _ _ _ _ _ _ h
    intro s x1 x2 x3 j4 j5 q h
    refine rg_step 4 (G' := fun f => if x3 < (s.1 549 93) then evT f 472 71 [oR 549 0, oI x1, oI x2, oI x3, nn, nn] [] s else evT f 472 197 [oR 549 0, oI x1, oI x2, oI x3, nn, nn] [] s) (fun _ => rfl) (rg_if h (fun h => ?_) fun h => ?_)
    · refine rg_step 4 (G' := fun f => if inb x3 20 = true then evT f 472 77 [oR 549 0, oI x1, oI x2, oI x3, nn, nn] [vI (s.1 611 (ix x3))] s else none) (fun _ => rfl) (rg_gd h fun h => ?_)
      refine rg_step 2 (G' := fun f => if (s.1 611 (ix x3)) = x2 then evT f 472 81 [oR 549 0, oI x1, oI x2, oI x3, nn, nn] [] s else evT f 472 191 [oR 549 0, oI x1, oI x2, oI x3, nn, nn] [] s) (fun _ => rfl) (rg_if h (fun h => ?_) fun h => ?_)
      · refine rg_step 4 (G' := fun f => if inb x3 20 = true then evT f 472 87 [oR 549 0, oI x1, oI x2, oI x3, nn, nn] [vI (s.1 616 (ix x3))] s else none) (fun _ => rfl) (rg_gd h fun h => ?_)
        refine rg_step 4 (G' := fun f => if inb x2 12 = true then evT f 472 93 [oR 549 0, oI x1, oI x2, oI x3, nn, nn] [vI (s.1 675 (ix x2)), vI (s.1 616 (ix x3))] s else none) (fun _ => rfl) (rg_gd h fun h => ?_)
        refine rg_step 1 (G' := fun f => if (s.1 616 (ix x3)) < (s.1 675 (ix x2)) then evT f 472 105 [oR 549 0, oI x1, oI x2, oI x3, nn, nn] [] s else evT f 472 96 [oR 549 0, oI x1, oI x2, oI x3, nn, nn] [] s) (fun _ => rfl) (rg_if h (fun h => ?_) fun h => ?_)
        · refine rg_step 4 (G' := fun f => if inb x2 12 = true then evT f 472 111 [oR 549 0, oI x1, oI x2, oI x3, nn, nn] [vI (s.1 675 (ix x2))] s else none) (fun _ => rfl) (rg_gd h fun h => ?_)
          refine rg_step 4 (G' := fun f => if inb x3 20 = true then evT f 472 117 [oR 549 0, oI x1, oI x2, oI x3, nn, nn] [vI (s.1 613 (ix x3)), vI (s.1 675 (ix x2))] s else none) (fun _ => rfl) (rg_gd h fun h => ?_)
          refine rg_step 1 (G' := fun f => ev_after (evT f 457 0 [oI (s.1 675 (ix x2)), oI (s.1 613 (ix x3)), nn] [] s) (fun q => evT f 472 120 [oR 549 0, oI x1, oI x2, oI x3, nn, nn] (q.2 ++ []) q.1)) (fun _ => rfl) (rg_bd1 h fun v5 hc h => rg_call (q := cvP s v5) (T_fM_from hc) ?_)
          exact (t_fM_findWays_b120 hk49 hk63) h
        · refine rg_step 4 (G' := fun f => if inb x3 20 = true then evT f 472 102 [oR 549 0, oI x1, oI x2, oI x3, nn, nn] [vI (s.1 616 (ix x3))] s else none) (fun _ => rfl) (rg_gd h fun h => ?_)
          exact rg_step 1 (G' := fun f => evT f 472 120 [oR 549 0, oI x1, oI x2, oI x3, nn, nn] [vI (s.1 616 (ix x3))] s) (fun _ => rfl) ((t_fM_findWays_b120 hk49 hk63) h)
      · exact (t_fM_findWays_b191 hk49 hk63) h
    · exact rg_step 4 (G' := fun f => evT f 472 201 [oR 549 0, oI x1, oI (cI (-1)), oI (cI 0), nn, nn] [] s) (fun _ => rfl) ((t_fM_findWays_h201 hk49) h)
theorem t_fM_findWays_h63 {k49 : ev_M → Int32 → Int32 → Option ev_M} (hk49 : ∀ {s : ev_M} {x1 : Int32} {x2 : Int32} {j3 : Option ev_V} {j4 : Option ev_V} {j5 : Option ev_V} {q : ev_M}, k49 s x1 x2 = some q → RR 472 49 [oR 549 0, oI x1, oI x2, j3, j4, j5] [] s (cvV q)) {n : Nat} {s : ev_M} {x1 : Int32} {x2 : Int32} {x3 : Int32} {j4 : Option ev_V} {j5 : Option ev_V} {q : ev_M} (h : fM_findWays_h63 k49 n s x1 x2 x3 = some q) : RR 472 63 [oR 549 0, oI x1, oI x2, oI x3, j4, j5] [] s (cvV q) := ti_fM_findWays_h63 hk49 n s x1 x2 x3 j4 j5 q h
theorem ti_fM_findWays_h49 : ∀ (n : Nat) (s : ev_M) (x1 : Int32) (x2 : Int32) (j3 : Option ev_V) (j4 : Option ev_V) (j5 : Option ev_V) (q : ev_M), fM_findWays_h49 n s x1 x2 = some q → RR 472 49 [oR 549 0, oI x1, oI x2, j3, j4, j5] [] s (cvV q) := by
  intro n
  induction n with
  | zero => intro s x1 x2 j3 j4 j5 q h; cases h
  | succ n ih =>
    have hk49 : ∀ {s : ev_M} {x1 : Int32} {x2 : Int32} {j3 : Option ev_V} {j4 : Option ev_V} {j5 : Option ev_V} {q : ev_M}, fM_findWays_h49 n s x1 x2 = some q → RR 472 49 [oR 549 0, oI x1, oI x2, j3, j4, j5] [] s (cvV q) := fun h => ih _ _ _ _ _ _ _ h
    intro s x1 x2 j3 j4 j5 q h
    refine rg_step 3 (G' := fun f => if x2 = (cI (-1)) then evT f 472 275 [oR 549 0, oI x1, oI x2, nn, nn, nn] [] s else evT f 472 54 [oR 549 0, oI x1, oI x2, nn, nn, nn] [] s) (fun _ => rfl) (rg_if h (fun h => ?_) fun h => ?_)
    · exact rg_end 1 (fun _ => rfl) (by cases h; rfl)
    · refine rg_step 5 (G' := fun f => if inb x2 12 = true then evT f 472 61 [oR 549 0, oI x1, oI x2, nn, nn, nn] [] (wI s 677 (ix x2) ((cI 1) &&& 1)) else none) (fun _ => rfl) (rg_gd h fun h => rg_ltM h fun s6 h => ?_)
      exact rg_step 2 (G' := fun f => evT f 472 63 [oR 549 0, oI x1, oI x2, oI (cI 0), nn, nn] [] s6) (fun _ => rfl) ((t_fM_findWays_h63 hk49) h)
theorem t_fM_findWays_h49 {n : Nat} {s : ev_M} {x1 : Int32} {x2 : Int32} {j3 : Option ev_V} {j4 : Option ev_V} {j5 : Option ev_V} {q : ev_M} (h : fM_findWays_h49 n s x1 x2 = some q) : RR 472 49 [oR 549 0, oI x1, oI x2, j3, j4, j5] [] s (cvV q) := ti_fM_findWays_h49 n s x1 x2 j3 j4 j5 q h
theorem ti_fM_findWays_h2 : ∀ (n : Nat) (s : ev_M) (x1 : Int32) (x2 : Int32) (j3 : Option ev_V) (j4 : Option ev_V) (j5 : Option ev_V) (q : ev_M), fM_findWays_h2 n s x1 x2 = some q → RR 472 2 [oR 549 0, oI x1, oI x2, j3, j4, j5] [] s (cvV q) := by
  intro n
  induction n with
  | zero => intro s x1 x2 j3 j4 j5 q h; cases h
  | succ n ih =>
    have hk2 : ∀ {s : ev_M} {x1 : Int32} {x2 : Int32} {j3 : Option ev_V} {j4 : Option ev_V} {j5 : Option ev_V} {q : ev_M}, fM_findWays_h2 n s x1 x2 = some q → RR 472 2 [oR 549 0, oI x1, oI x2, j3, j4, j5] [] s (cvV q) := fun h => ih _ _ _ _ _ _ _ h
    intro s x1 x2 j3 j4 j5 q h
    refine rg_step 4 (G' := fun f => if x2 < (s.1 549 24) then evT f 472 10 [oR 549 0, oI x1, oI x2, nn, nn, nn] [] s else evT f 472 37 [oR 549 0, oI x1, oI x2, nn, nn, nn] [] s) (fun _ => rfl) (rg_if h (fun h => ?_) fun h => ?_)
    · refine rg_step 5 (G' := fun f => if inb x2 12 = true then evT f 472 17 [oR 549 0, oI x1, oI x2, nn, nn, nn] [] (wI s 675 (ix x2) (cI (-1))) else none) (fun _ => rfl) (rg_gd h fun h => rg_ltM h fun s7 h => ?_)
      refine rg_step 5 (G' := fun f => if inb x2 12 = true then evT f 472 24 [oR 549 0, oI x1, oI x2, nn, nn, nn] [] (wI s7 676 (ix x2) (cI (-1))) else none) (fun _ => rfl) (rg_gd h fun h => rg_ltM h fun s8 h => ?_)
      refine rg_step 5 (G' := fun f => if inb x2 12 = true then evT f 472 31 [oR 549 0, oI x1, oI x2, nn, nn, nn] [] (wI s8 677 (ix x2) ((cI 0) &&& 1)) else none) (fun _ => rfl) (rg_gd h fun h => rg_ltM h fun s9 h => ?_)
      exact rg_step 2 (G' := fun f => evT f 472 2 [oR 549 0, oI x1, oI (x2 + cI 1), nn, nn, nn] [] s9) (fun _ => rfl) (hk2 h)
    · refine rg_step 6 (G' := fun f => if inb x1 12 = true then evT f 472 47 [oR 549 0, oI x1, oI x2, nn, nn, nn] [] (wI s 675 (ix x1) (s.1 549 22)) else none) (fun _ => rfl) (rg_gd h fun h => rg_ltM h fun s10 h => ?_)
      exact rg_step 2 (G' := fun f => evT f 472 49 [oR 549 0, oI x1, oI x1, nn, nn, nn] [] s10) (fun _ => rfl) ((t_fM_findWays_h49) h)
theorem t_fM_findWays_h2 {n : Nat} {s : ev_M} {x1 : Int32} {x2 : Int32} {j3 : Option ev_V} {j4 : Option ev_V} {j5 : Option ev_V} {q : ev_M} (h : fM_findWays_h2 n s x1 x2 = some q) : RR 472 2 [oR 549 0, oI x1, oI x2, j3, j4, j5] [] s (cvV q) := ti_fM_findWays_h2 n s x1 x2 j3 j4 j5 q h
theorem T_fM_findWays {s : ev_M} {a1 : Int32} {q : ev_M} (h : fM_findWays s a1 = some q) : RR 472 0 [oR 549 0, oI a1, nn, nn, nn, nn] [] s (cvV q) := by
  exact rg_step 2 (G' := fun f => evT f 472 2 [oR 549 0, oI a1, oI (cI 0), nn, nn, nn] [] s) (fun _ => rfl) ((t_fM_findWays_h2) h)
theorem t_fM_departs_b44 {k9 : ev_M → Int32 → Int32 → Int32 → Option ev_M} (hk9 : ∀ {s : ev_M} {x1 : Int32} {x2 : Int32} {x3 : Int32} {j4 : Option ev_V} {j5 : Option ev_V} {q : ev_M}, k9 s x1 x2 x3 = some q → RR 524 9 [oR 549 0, oI x1, oI x2, oI x3, j4, j5] [] s (cvV q)) {s : ev_M} {x1 : Int32} {x3 : Int32} {y0 : Int32} {j2 : Option ev_V} {j4 : Option ev_V} {j5 : Option ev_V} {q : ev_M} (h : fM_departs_b44 k9 s x1 x3 y0 = some q) : RR 524 44 [oR 549 0, oI x1, j2, oI x3, j4, j5] [vI y0] s (cvV q) := by
  exact rg_step 3 (G' := fun f => evT f 524 9 [oR 549 0, oI x1, oI y0, oI (x3 + cI 1), nn, nn] [] s) (fun _ => rfl) (hk9 h)
theorem t_fM_departs_b43 {k9 : ev_M → Int32 → Int32 → Int32 → Option ev_M} (hk9 : ∀ {s : ev_M} {x1 : Int32} {x2 : Int32} {x3 : Int32} {j4 : Option ev_V} {j5 : Option ev_V} {q : ev_M}, k9 s x1 x2 x3 = some q → RR 524 9 [oR 549 0, oI x1, oI x2, oI x3, j4, j5] [] s (cvV q)) {s : ev_M} {x1 : Int32} {x2 : Int32} {x3 : Int32} {j4 : Option ev_V} {j5 : Option ev_V} {q : ev_M} (h : fM_departs_b43 k9 s x1 x2 x3 = some q) : RR 524 43 [oR 549 0, oI x1, oI x2, oI x3, j4, j5] [] s (cvV q) := by
  exact rg_step 1 (G' := fun f => evT f 524 44 [oR 549 0, oI x1, oI x2, oI x3, nn, nn] [vI x2] s) (fun _ => rfl) ((t_fM_departs_b44 hk9) h)
theorem t_fM_departs_b101 {k56 : ev_M → Int32 → Int32 → Int32 → Int32 → Option ev_M} (hk56 : ∀ {s : ev_M} {x1 : Int32} {x2 : Int32} {x3 : Int32} {x4 : Int32} {j5 : Option ev_V} {q : ev_M}, k56 s x1 x2 x3 x4 = some q → RR 524 56 [oR 549 0, oI x1, oI x2, oI x3, oI x4, j5] [] s (cvV q)) {s : ev_M} {x1 : Int32} {x2 : Int32} {x4 : Int32} {y0 : Int32} {j3 : Option ev_V} {j5 : Option ev_V} {q : ev_M} (h : fM_departs_b101 k56 s x1 x2 x4 y0 = some q) : RR 524 101 [oR 549 0, oI x1, oI x2, j3, oI x4, j5] [vI y0] s (cvV q) := by
  exact rg_step 3 (G' := fun f => evT f 524 56 [oR 549 0, oI x1, oI x2, oI y0, oI (x4 + cI 1), nn] [] s) (fun _ => rfl) (hk56 h)
theorem t_fM_departs_b96 {k56 : ev_M → Int32 → Int32 → Int32 → Int32 → Option ev_M} (hk56 : ∀ {s : ev_M} {x1 : Int32} {x2 : Int32} {x3 : Int32} {x4 : Int32} {j5 : Option ev_V} {q : ev_M}, k56 s x1 x2 x3 x4 = some q → RR 524 56 [oR 549 0, oI x1, oI x2, oI x3, oI x4, j5] [] s (cvV q)) {s : ev_M} {x1 : Int32} {x2 : Int32} {x4 : Int32} {j3 : Option ev_V} {j5 : Option ev_V} {q : ev_M} (h : fM_departs_b96 k56 s x1 x2 x4 = some q) : RR 524 96 [oR 549 0, oI x1, oI x2, j3, oI x4, j5] [] s (cvV q) := by
  exact rg_step 2 (G' := fun f => evT f 524 101 [oR 549 0, oI x1, oI x2, nn, oI x4, nn] [vI (cI 1)] s) (fun _ => rfl) ((t_fM_departs_b101 hk56) h)
theorem t_fM_departs_b100 {k56 : ev_M → Int32 → Int32 → Int32 → Int32 → Option ev_M} (hk56 : ∀ {s : ev_M} {x1 : Int32} {x2 : Int32} {x3 : Int32} {x4 : Int32} {j5 : Option ev_V} {q : ev_M}, k56 s x1 x2 x3 x4 = some q → RR 524 56 [oR 549 0, oI x1, oI x2, oI x3, oI x4, j5] [] s (cvV q)) {s : ev_M} {x1 : Int32} {x2 : Int32} {x4 : Int32} {j3 : Option ev_V} {j5 : Option ev_V} {q : ev_M} (h : fM_departs_b100 k56 s x1 x2 x4 = some q) : RR 524 100 [oR 549 0, oI x1, oI x2, j3, oI x4, j5] [] s (cvV q) := by
  exact rg_step 1 (G' := fun f => evT f 524 101 [oR 549 0, oI x1, oI x2, nn, oI x4, nn] [vI (cI 0)] s) (fun _ => rfl) ((t_fM_departs_b101 hk56) h)
theorem t_fM_departs_b234 {k125 : ev_M → Int32 → Int32 → Int32 → Int32 → Option ev_M} (hk125 : ∀ {s : ev_M} {x1 : Int32} {x2 : Int32} {x3 : Int32} {x4 : Int32} {j5 : Option ev_V} {q : ev_M}, k125 s x1 x2 x3 x4 = some q → RR 524 125 [oR 549 0, oI x1, oI x2, oI x3, oI x4, j5] [] s (cvV q)) {s : ev_M} {x1 : Int32} {x2 : Int32} {x3 : Int32} {x4 : Int32} {j5 : Option ev_V} {q : ev_M} (h : fM_departs_b234 k125 s x1 x2 x3 x4 = some q) : RR 524 234 [oR 549 0, oI x1, oI x2, oI x3, oI x4, j5] [] s (cvV q) := by
  exact rg_step 2 (G' := fun f => evT f 524 125 [oR 549 0, oI x1, oI x2, oI x3, oI (x4 + cI 1), nn] [] s) (fun _ => rfl) (hk125 h)
theorem t_fM_departs_b186 {k125 : ev_M → Int32 → Int32 → Int32 → Int32 → Option ev_M} (hk125 : ∀ {s : ev_M} {x1 : Int32} {x2 : Int32} {x3 : Int32} {x4 : Int32} {j5 : Option ev_V} {q : ev_M}, k125 s x1 x2 x3 x4 = some q → RR 524 125 [oR 549 0, oI x1, oI x2, oI x3, oI x4, j5] [] s (cvV q)) {s : ev_M} {x1 : Int32} {x2 : Int32} {x3 : Int32} {x4 : Int32} {y0 : Int32} {j5 : Option ev_V} {q : ev_M} (h : fM_departs_b186 k125 s x1 x2 x3 x4 y0 = some q) : RR 524 186 [oR 549 0, oI x1, oI x2, oI x3, oI x4, j5] [vI y0] s (cvV q) := by
  refine rg_step 3 (G' := fun f => if y0 = 0 then evT f 524 234 [oR 549 0, oI x1, oI x2, oI x3, oI x4, oI y0] [] s else evT f 524 193 [oR 549 0, oI x1, oI x2, oI x3, oI x4, oI y0] [] s) (fun _ => rfl) (rg_if h (fun h => ?_) fun h => ?_)
  · exact (t_fM_departs_b234 hk125) h
  · refine rg_step 2 (G' := fun f => if x2 ≤ 0 then evT f 524 234 [oR 549 0, oI x1, oI x2, oI x3, oI x4, oI y0] [] s else evT f 524 197 [oR 549 0, oI x1, oI x2, oI x3, oI x4, oI y0] [] s) (fun _ => rfl) (rg_if h (fun h => ?_) fun h => ?_)
    · exact (t_fM_departs_b234 hk125) h
    · refine rg_step 5 (G' := fun f => if inb x4 80 = true then evT f 524 205 [oR 549 0, oI x1, oI x2, oI x3, oI x4, oI y0] [] (wI s 618 (ix x4) (cI 2)) else none) (fun _ => rfl) (rg_gd h fun h => rg_ltM h fun s1 h => ?_)
      refine rg_step 5 (G' := fun f => if inb x4 80 = true then evT f 524 213 [oR 549 0, oI x1, oI x2, oI x3, oI x4, oI y0] [] (wI s1 621 (ix x4) x1) else none) (fun _ => rfl) (rg_gd h fun h => rg_ltM h fun s2 h => ?_)
      refine rg_step 9 (G' := fun f => if inb x1 20 = true then evT f 524 229 [oR 549 0, oI x1, oI x2, oI x3, oI x4, oI y0] [vI (s2.1 614 (ix x1)), vI (s2.1 549 22), vI x4, vR 622 0] s2 else none) (fun _ => rfl) (rg_gd h fun h => ?_)
      refine rg_step 2 (G' := fun f => if inb x4 80 = true then evT f 524 231 [oR 549 0, oI x1, oI x2, oI x3, oI x4, oI y0] [] (wI s2 622 (ix x4) ((s2.1 549 22) + (s2.1 614 (ix x1)))) else none) (fun _ => rfl) (rg_gd h fun h => rg_ltM h fun s3 h => ?_)
      exact rg_step 1 (G' := fun f => evT f 524 234 [oR 549 0, oI x1, oI (x2 + cI (-1)), oI x3, oI x4, oI y0] [] s3) (fun f => Eq.trans (b := evT (f + 1) 524 231 [oR 549 0, oI x1, oI x2, oI x3, oI x4, oI y0] [] s3) rfl ((ev_inc (f := f) (M := 524) (pc := 231) (i := 2) (n := 3) (c := (-1)) (r := 0) (dl := []) (L := [oR 549 0, oI x1, oI x2, oI x3, oI x4, oI y0]) (L' := [oR 549 0, oI x1, oI (x2 + cI (-1)), oI x3, oI x4, oI y0]) (s := s3) (y := x2) rfl rfl rfl).trans rfl)) ((t_fM_departs_b234 hk125) h)
theorem t_fM_departs_b185 {k125 : ev_M → Int32 → Int32 → Int32 → Int32 → Option ev_M} (hk125 : ∀ {s : ev_M} {x1 : Int32} {x2 : Int32} {x3 : Int32} {x4 : Int32} {j5 : Option ev_V} {q : ev_M}, k125 s x1 x2 x3 x4 = some q → RR 524 125 [oR 549 0, oI x1, oI x2, oI x3, oI x4, j5] [] s (cvV q)) {s : ev_M} {x1 : Int32} {x2 : Int32} {x3 : Int32} {x4 : Int32} {j5 : Option ev_V} {q : ev_M} (h : fM_departs_b185 k125 s x1 x2 x3 x4 = some q) : RR 524 185 [oR 549 0, oI x1, oI x2, oI x3, oI x4, j5] [] s (cvV q) := by
  exact rg_step 1 (G' := fun f => evT f 524 186 [oR 549 0, oI x1, oI x2, oI x3, oI x4, nn] [vI (cI 0)] s) (fun _ => rfl) ((t_fM_departs_b186 hk125) h)
theorem t_fM_departs_b240 {s : ev_M} {x1 : Int32} {j2 : Option ev_V} {j3 : Option ev_V} {j4 : Option ev_V} {j5 : Option ev_V} {q : ev_M} (h : fM_departs_b240 s x1 = some q) : RR 524 240 [oR 549 0, oI x1, j2, j3, j4, j5] [] s (cvV q) := by
  refine rg_step 11 (G' := fun f => if inb x1 20 = true then evT f 524 257 [oR 549 0, oI x1, nn, nn, nn, nn] [vI (s.1 613 (ix x1)), vI ((s.1 549 22) + (cI 1)), vI x1, vR 616 0] s else none) (fun _ => rfl) (rg_gd h fun h => ?_)
  refine rg_step 1 (G' := fun f => ev_after (evT f 457 0 [oI ((s.1 549 22) + (cI 1)), oI (s.1 613 (ix x1)), nn] [] s) (fun q => evT f 524 260 [oR 549 0, oI x1, nn, nn, nn, nn] (q.2 ++ [vI x1, vR 616 0]) q.1)) (fun _ => rfl) (rg_bd1 h fun v4 hc h => rg_call (q := cvP s v4) (T_fM_from hc) ?_)
  refine rg_step 1 (G' := fun f => if inb x1 20 = true then evT f 524 261 [oR 549 0, oI x1, nn, nn, nn, nn] [] (wI s 616 (ix x1) v4) else none) (fun _ => rfl) (rg_gd h fun h => rg_ltM h fun s5 h => ?_)
  refine rg_step 5 (G' := fun f => if inb x1 20 = true then evT f 524 268 [oR 549 0, oI x1, nn, nn, nn, nn] [] (wI s5 617 (ix x1) (cI 0)) else none) (fun _ => rfl) (rg_gd h fun h => rg_ltM h fun s6 h => ?_)
  exact rg_end 1 (fun _ => rfl) (by cases h; rfl)
theorem ti_fM_departs_h125 : ∀ (n : Nat) (s : ev_M) (x1 : Int32) (x2 : Int32) (x3 : Int32) (x4 : Int32) (j5 : Option ev_V) (q : ev_M), fM_departs_h125 n s x1 x2 x3 x4 = some q → RR 524 125 [oR 549 0, oI x1, oI x2, oI x3, oI x4, j5] [] s (cvV q) := by
  intro n
  induction n with
  | zero => intro s x1 x2 x3 x4 j5 q h; cases h
  | succ n ih =>
    have hk125 : ∀ {s : ev_M} {x1 : Int32} {x2 : Int32} {x3 : Int32} {x4 : Int32} {j5 : Option ev_V} {q : ev_M}, fM_departs_h125 n s x1 x2 x3 x4 = some q → RR 524 125 [oR 549 0, oI x1, oI x2, oI x3, oI x4, j5] [] s (cvV q) := fun h => ih _ _ _ _ _ _ _ h
    intro s x1 x2 x3 x4 j5 q h
    refine rg_step 4 (G' := fun f => if x4 < (s.1 549 101) then evT f 524 134 [oR 549 0, oI x1, oI x2, oI x3, oI x4, nn] [] s else evT f 524 240 [oR 549 0, oI x1, oI x2, oI x3, oI x4, nn] [] s) (fun _ => rfl) (rg_if h (fun h => ?_) fun h => ?_)
    · refine rg_step 2 (G' := fun f => if x3 = 0 then evT f 524 240 [oR 549 0, oI x1, oI x2, oI x3, oI x4, nn] [] s else evT f 524 138 [oR 549 0, oI x1, oI x2, oI x3, oI x4, nn] [] s) (fun _ => rfl) (rg_if h (fun h => ?_) fun h => ?_)
      · exact (t_fM_departs_b240) h
      · refine rg_step 4 (G' := fun f => if inb x4 80 = true then evT f 524 145 [oR 549 0, oI x1, oI x2, oI x3, oI x4, nn] [vI (s.1 618 (ix x4))] s else none) (fun _ => rfl) (rg_gd h fun h => ?_)
        refine rg_step 2 (G' := fun f => if (s.1 618 (ix x4)) = (cI 1) then evT f 524 149 [oR 549 0, oI x1, oI x2, oI x3, oI x4, nn] [] s else evT f 524 185 [oR 549 0, oI x1, oI x2, oI x3, oI x4, nn] [] s) (fun _ => rfl) (rg_if h (fun h => ?_) fun h => ?_)
        · refine rg_step 4 (G' := fun f => if inb x4 80 = true then evT f 524 156 [oR 549 0, oI x1, oI x2, oI x3, oI x4, nn] [vI (s.1 619 (ix x4))] s else none) (fun _ => rfl) (rg_gd h fun h => ?_)
          refine rg_step 4 (G' := fun f => if inb x1 20 = true then evT f 524 162 [oR 549 0, oI x1, oI x2, oI x3, oI x4, nn] [vI (s.1 611 (ix x1)), vI (s.1 619 (ix x4))] s else none) (fun _ => rfl) (rg_gd h fun h => ?_)
          refine rg_step 1 (G' := fun f => if (s.1 619 (ix x4)) = (s.1 611 (ix x1)) then evT f 524 165 [oR 549 0, oI x1, oI x2, oI x3, oI x4, nn] [] s else evT f 524 185 [oR 549 0, oI x1, oI x2, oI x3, oI x4, nn] [] s) (fun _ => rfl) (rg_if h (fun h => ?_) fun h => ?_)
          · refine rg_step 6 (G' := fun f => if inb x4 80 = true then evT f 524 176 [oR 549 0, oI x1, oI x2, oI x3, oI x4, nn] [vI (s.1 620 (ix x4)), vR 676 0] s else none) (fun _ => rfl) (rg_gd h fun h => ?_)
            refine rg_step 1 (G' := fun f => if inb (s.1 620 (ix x4)) 12 = true then evT f 524 177 [oR 549 0, oI x1, oI x2, oI x3, oI x4, nn] [vI (s.1 676 (ix (s.1 620 (ix x4))))] s else none) (fun _ => rfl) (rg_gd h fun h => ?_)
            refine rg_step 2 (G' := fun f => if (s.1 676 (ix (s.1 620 (ix x4)))) = x1 then evT f 524 181 [oR 549 0, oI x1, oI x2, oI x3, oI x4, nn] [] s else evT f 524 185 [oR 549 0, oI x1, oI x2, oI x3, oI x4, nn] [] s) (fun _ => rfl) (rg_if h (fun h => ?_) fun h => ?_)
            · exact rg_step 2 (G' := fun f => evT f 524 186 [oR 549 0, oI x1, oI x2, oI x3, oI x4, nn] [vI (cI 1)] s) (fun _ => rfl) ((t_fM_departs_b186 hk125) h)
            · exact (t_fM_departs_b185 hk125) h
          · exact (t_fM_departs_b185 hk125) h
        · exact (t_fM_departs_b185 hk125) h
    · exact (t_fM_departs_b240) h
theorem t_fM_departs_h125 {n : Nat} {s : ev_M} {x1 : Int32} {x2 : Int32} {x3 : Int32} {x4 : Int32} {j5 : Option ev_V} {q : ev_M} (h : fM_departs_h125 n s x1 x2 x3 x4 = some q) : RR 524 125 [oR 549 0, oI x1, oI x2, oI x3, oI x4, j5] [] s (cvV q) := ti_fM_departs_h125 n s x1 x2 x3 x4 j5 q h
theorem t_fM_departs_b122 {s : ev_M} {x1 : Int32} {x2 : Int32} {x3 : Int32} {j4 : Option ev_V} {j5 : Option ev_V} {q : ev_M} (h : fM_departs_b122 s x1 x2 x3 = some q) : RR 524 122 [oR 549 0, oI x1, oI x2, oI x3, j4, j5] [] s (cvV q) := by
  exact rg_step 2 (G' := fun f => evT f 524 125 [oR 549 0, oI x1, oI x2, oI x3, oI (cI 0), nn] [] s) (fun _ => rfl) ((t_fM_departs_h125) h)
theorem ti_fM_departs_h56 : ∀ (n : Nat) (s : ev_M) (x1 : Int32) (x2 : Int32) (x3 : Int32) (x4 : Int32) (j5 : Option ev_V) (q : ev_M), fM_departs_h56 n s x1 x2 x3 x4 = some q → RR 524 56 [oR 549 0, oI x1, oI x2, oI x3, oI x4, j5] [] s (cvV q) := by
  intro n
  induction n with
  | zero => intro s x1 x2 x3 x4 j5 q h; cases h
  | succ n ih =>
    have hk56 : ∀ {s : ev_M} {x1 : Int32} {x2 : Int32} {x3 : Int32} {x4 : Int32} {j5 : Option ev_V} {q : ev_M}, fM_departs_h56 n s x1 x2 x3 x4 = some q → RR 524 56 [oR 549 0, oI x1, oI x2, oI x3, oI x4, j5] [] s (cvV q) := fun h => ih _ _ _ _ _ _ _ h
    intro s x1 x2 x3 x4 j5 q h
    refine rg_step 4 (G' := fun f => if x4 < (s.1 549 101) then evT f 524 65 [oR 549 0, oI x1, oI x2, oI x3, oI x4, nn] [] s else evT f 524 108 [oR 549 0, oI x1, oI x2, oI x3, oI x4, nn] [] s) (fun _ => rfl) (rg_if h (fun h => ?_) fun h => ?_)
    · refine rg_step 2 (G' := fun f => if x3 = 0 then evT f 524 69 [oR 549 0, oI x1, oI x2, oI x3, oI x4, nn] [] s else evT f 524 96 [oR 549 0, oI x1, oI x2, oI x3, oI x4, nn] [] s) (fun _ => rfl) (rg_if h (fun h => ?_) fun h => ?_)
      · refine rg_step 4 (G' := fun f => if inb x4 80 = true then evT f 524 76 [oR 549 0, oI x1, oI x2, oI x3, oI x4, nn] [vI (s.1 618 (ix x4))] s else none) (fun _ => rfl) (rg_gd h fun h => ?_)
        refine rg_step 2 (G' := fun f => if (s.1 618 (ix x4)) = (cI 1) then evT f 524 80 [oR 549 0, oI x1, oI x2, oI x3, oI x4, nn] [] s else evT f 524 100 [oR 549 0, oI x1, oI x2, oI x3, oI x4, nn] [] s) (fun _ => rfl) (rg_if h (fun h => ?_) fun h => ?_)
        · refine rg_step 4 (G' := fun f => if inb x4 80 = true then evT f 524 87 [oR 549 0, oI x1, oI x2, oI x3, oI x4, nn] [vI (s.1 619 (ix x4))] s else none) (fun _ => rfl) (rg_gd h fun h => ?_)
          refine rg_step 4 (G' := fun f => if inb x1 20 = true then evT f 524 93 [oR 549 0, oI x1, oI x2, oI x3, oI x4, nn] [vI (s.1 611 (ix x1)), vI (s.1 619 (ix x4))] s else none) (fun _ => rfl) (rg_gd h fun h => ?_)
          refine rg_step 1 (G' := fun f => if (s.1 619 (ix x4)) = (s.1 611 (ix x1)) then evT f 524 96 [oR 549 0, oI x1, oI x2, oI x3, oI x4, nn] [] s else evT f 524 100 [oR 549 0, oI x1, oI x2, oI x3, oI x4, nn] [] s) (fun _ => rfl) (rg_if h (fun h => ?_) fun h => ?_)
          · exact (t_fM_departs_b96 hk56) h
          · exact (t_fM_departs_b100 hk56) h
        · exact (t_fM_departs_b100 hk56) h
      · exact (t_fM_departs_b96 hk56) h
    · refine rg_step 2 (G' := fun f => if x3 = 0 then evT f 524 122 [oR 549 0, oI x1, oI x2, oI x3, oI x4, nn] [] s else evT f 524 112 [oR 549 0, oI x1, oI x2, oI x3, oI x4, nn] [] s) (fun _ => rfl) (rg_if h (fun h => ?_) fun h => ?_)
      · exact (t_fM_departs_b122) h
      · refine rg_step 5 (G' := fun f => if inb x1 20 = true then evT f 524 119 [oR 549 0, oI x1, oI x2, oI x3, oI x4, nn] [vI (s.1 611 (ix x1)), vR 549 0] s else none) (fun _ => rfl) (rg_gd h fun h => ?_)
        refine rg_step 1 (G' := fun f => ev_after (evT f 472 0 [oR 549 0, oI (s.1 611 (ix x1)), nn, nn, nn, nn] [] s) (fun q => evT f 524 122 [oR 549 0, oI x1, oI x2, oI x3, oI x4, nn] (q.2 ++ []) q.1)) (fun _ => rfl) (rg_bd1 h fun s7 hc h => rg_call (q := cvV s7) (T_fM_findWays hc) ?_)
        exact (t_fM_departs_b122) h
theorem t_fM_departs_h56 {n : Nat} {s : ev_M} {x1 : Int32} {x2 : Int32} {x3 : Int32} {x4 : Int32} {j5 : Option ev_V} {q : ev_M} (h : fM_departs_h56 n s x1 x2 x3 x4 = some q) : RR 524 56 [oR 549 0, oI x1, oI x2, oI x3, oI x4, j5] [] s (cvV q) := ti_fM_departs_h56 n s x1 x2 x3 x4 j5 q h
theorem ti_fM_departs_h9 : ∀ (n : Nat) (s : ev_M) (x1 : Int32) (x2 : Int32) (x3 : Int32) (j4 : Option ev_V) (j5 : Option ev_V) (q : ev_M), fM_departs_h9 n s x1 x2 x3 = some q → RR 524 9 [oR 549 0, oI x1, oI x2, oI x3, j4, j5] [] s (cvV q) := by
  intro n
  induction n with
  | zero => intro s x1 x2 x3 j4 j5 q h; cases h
  | succ n ih =>
    have hk9 : ∀ {s : ev_M} {x1 : Int32} {x2 : Int32} {x3 : Int32} {j4 : Option ev_V} {j5 : Option ev_V} {q : ev_M}, fM_departs_h9 n s x1 x2 x3 = some q → RR 524 9 [oR 549 0, oI x1, oI x2, oI x3, j4, j5] [] s (cvV q) := fun h => ih _ _ _ _ _ _ _ h
    intro s x1 x2 x3 j4 j5 q h
    refine rg_step 4 (G' := fun f => if x3 < (s.1 549 101) then evT f 524 17 [oR 549 0, oI x1, oI x2, oI x3, nn, nn] [] s else evT f 524 51 [oR 549 0, oI x1, oI x2, oI x3, nn, nn] [] s) (fun _ => rfl) (rg_if h (fun h => ?_) fun h => ?_)
    · refine rg_step 4 (G' := fun f => if inb x3 80 = true then evT f 524 23 [oR 549 0, oI x1, oI x2, oI x3, nn, nn] [vI (s.1 618 (ix x3))] s else none) (fun _ => rfl) (rg_gd h fun h => ?_)
      refine rg_step 2 (G' := fun f => if (s.1 618 (ix x3)) = (cI 2) then evT f 524 27 [oR 549 0, oI x1, oI x2, oI x3, nn, nn] [] s else evT f 524 43 [oR 549 0, oI x1, oI x2, oI x3, nn, nn] [] s) (fun _ => rfl) (rg_if h (fun h => ?_) fun h => ?_)
      · refine rg_step 4 (G' := fun f => if inb x3 80 = true then evT f 524 33 [oR 549 0, oI x1, oI x2, oI x3, nn, nn] [vI (s.1 621 (ix x3))] s else none) (fun _ => rfl) (rg_gd h fun h => ?_)
        refine rg_step 2 (G' := fun f => if (s.1 621 (ix x3)) = x1 then evT f 524 37 [oR 549 0, oI x1, oI x2, oI x3, nn, nn] [] s else evT f 524 43 [oR 549 0, oI x1, oI x2, oI x3, nn, nn] [] s) (fun _ => rfl) (rg_if h (fun h => ?_) fun h => ?_)
        · exact rg_step 4 (G' := fun f => evT f 524 44 [oR 549 0, oI x1, oI x2, oI x3, nn, nn] [vI (x2 - (cI 1))] s) (fun _ => rfl) ((t_fM_departs_b44 hk9) h)
        · exact (t_fM_departs_b43 hk9) h
      · exact (t_fM_departs_b43 hk9) h
    · exact rg_step 4 (G' := fun f => evT f 524 56 [oR 549 0, oI x1, oI x2, oI (cI 0), oI (cI 0), nn] [] s) (fun _ => rfl) ((t_fM_departs_h56) h)
theorem t_fM_departs_h9 {n : Nat} {s : ev_M} {x1 : Int32} {x2 : Int32} {x3 : Int32} {j4 : Option ev_V} {j5 : Option ev_V} {q : ev_M} (h : fM_departs_h9 n s x1 x2 x3 = some q) : RR 524 9 [oR 549 0, oI x1, oI x2, oI x3, j4, j5] [] s (cvV q) := ti_fM_departs_h9 n s x1 x2 x3 j4 j5 q h
theorem T_fM_departs {s : ev_M} {a1 : Int32} {q : ev_M} (h : fM_departs s a1 = some q) : RR 524 0 [oR 549 0, oI a1, nn, nn, nn, nn] [] s (cvV q) := by
  refine rg_step 4 (G' := fun f => if inb a1 20 = true then evT f 524 6 [oR 549 0, oI a1, nn, nn, nn, nn] [vI (s.1 615 (ix a1))] s else none) (fun _ => rfl) (rg_gd h fun h => ?_)
  refine rg_step 1 (G' := fun f => evT f 524 7 [oR 549 0, oI a1, oI (s.1 615 (ix a1)), nn, nn, nn] [] s) (fun _ => rfl) (rg_ltI (P := fun v8 => RG (fun f => evT f 524 7 [oR 549 0, oI a1, oI v8, nn, nn, nn] [] s) (cvV q)) h fun v8 h => ?_)
  exact rg_step 2 (G' := fun f => evT f 524 9 [oR 549 0, oI a1, oI v8, oI (cI 0), nn, nn] [] s) (fun _ => rfl) ((t_fM_departs_h9) h)
theorem t_fM_nextMinute_b85 {s : ev_M} {k29 : Int32 → Int32 → Option Int32} (hk29 : ∀ {x3 : Int32} {x4 : Int32} {j1 : Option ev_V} {j2 : Option ev_V} {q : Int32}, k29 x3 x4 = some q → RR 525 29 [oR 549 0, j1, j2, oI x3, oI x4] [] s (cvP s q)) {x4 : Int32} {y0 : Int32} {j1 : Option ev_V} {j2 : Option ev_V} {j3 : Option ev_V} {q : Int32} (h : fM_nextMinute_b85 s k29 x4 y0 = some q) : RR 525 85 [oR 549 0, j1, j2, j3, oI x4] [vI y0] s (cvP s q) := by
  exact rg_step 3 (G' := fun f => evT f 525 29 [oR 549 0, nn, nn, oI y0, oI (x4 + cI 1)] [] s) (fun _ => rfl) (hk29 h)
theorem t_fM_nextMinute_b84 {s : ev_M} {k29 : Int32 → Int32 → Option Int32} (hk29 : ∀ {x3 : Int32} {x4 : Int32} {j1 : Option ev_V} {j2 : Option ev_V} {q : Int32}, k29 x3 x4 = some q → RR 525 29 [oR 549 0, j1, j2, oI x3, oI x4] [] s (cvP s q)) {x3 : Int32} {x4 : Int32} {j1 : Option ev_V} {j2 : Option ev_V} {q : Int32} (h : fM_nextMinute_b84 s k29 x3 x4 = some q) : RR 525 84 [oR 549 0, j1, j2, oI x3, oI x4] [] s (cvP s q) := by
  exact rg_step 1 (G' := fun f => evT f 525 85 [oR 549 0, nn, nn, oI x3, oI x4] [vI x3] s) (fun _ => rfl) ((t_fM_nextMinute_b85 hk29) h)
theorem t_fM_nextMinute_b140 {s : ev_M} {k95 : Int32 → Int32 → Option Int32} (hk95 : ∀ {x3 : Int32} {x4 : Int32} {j1 : Option ev_V} {j2 : Option ev_V} {q : Int32}, k95 x3 x4 = some q → RR 525 95 [oR 549 0, j1, j2, oI x3, oI x4] [] s (cvP s q)) {x4 : Int32} {y0 : Int32} {j1 : Option ev_V} {j2 : Option ev_V} {j3 : Option ev_V} {q : Int32} (h : fM_nextMinute_b140 s k95 x4 y0 = some q) : RR 525 140 [oR 549 0, j1, j2, j3, oI x4] [vI y0] s (cvP s q) := by
  exact rg_step 3 (G' := fun f => evT f 525 95 [oR 549 0, nn, nn, oI y0, oI (x4 + cI 1)] [] s) (fun _ => rfl) (hk95 h)
theorem t_fM_nextMinute_b139 {s : ev_M} {k95 : Int32 → Int32 → Option Int32} (hk95 : ∀ {x3 : Int32} {x4 : Int32} {j1 : Option ev_V} {j2 : Option ev_V} {q : Int32}, k95 x3 x4 = some q → RR 525 95 [oR 549 0, j1, j2, oI x3, oI x4] [] s (cvP s q)) {x3 : Int32} {x4 : Int32} {j1 : Option ev_V} {j2 : Option ev_V} {q : Int32} (h : fM_nextMinute_b139 s k95 x3 x4 = some q) : RR 525 139 [oR 549 0, j1, j2, oI x3, oI x4] [] s (cvP s q) := by
  exact rg_step 1 (G' := fun f => evT f 525 140 [oR 549 0, nn, nn, oI x3, oI x4] [vI x3] s) (fun _ => rfl) ((t_fM_nextMinute_b140 hk95) h)
theorem ti_fM_nextMinute_h95 {s : ev_M} : ∀ (n : Nat) (x3 : Int32) (x4 : Int32) (j1 : Option ev_V) (j2 : Option ev_V) (q : Int32), fM_nextMinute_h95 s n x3 x4 = some q → RR 525 95 [oR 549 0, j1, j2, oI x3, oI x4] [] s (cvP s q) := by
  intro n
  induction n with
  | zero => intro x3 x4 j1 j2 q h; cases h
  | succ n ih =>
    have hk95 : ∀ {x3 : Int32} {x4 : Int32} {j1 : Option ev_V} {j2 : Option ev_V} {q : Int32}, fM_nextMinute_h95 s n x3 x4 = some q → RR 525 95 [oR 549 0, j1, j2, oI x3, oI x4] [] s (cvP s q) := fun h => ih _ _ _ _ _ h
    intro x3 x4 j1 j2 q h
    refine rg_step 4 (G' := fun f => if x4 < (s.1 549 93) then evT f 525 104 [oR 549 0, nn, nn, oI x3, oI x4] [] s else evT f 525 147 [oR 549 0, nn, nn, oI x3, oI x4] [] s) (fun _ => rfl) (rg_if h (fun h => ?_) fun h => ?_)
    · refine rg_step 4 (G' := fun f => if inb x4 20 = true then evT f 525 111 [oR 549 0, nn, nn, oI x3, oI x4] [vI (s.1 616 (ix x4))] s else none) (fun _ => rfl) (rg_gd h fun h => ?_)
      refine rg_step 3 (G' := fun f => if (s.1 616 (ix x4)) ≤ (s.1 549 22) then evT f 525 139 [oR 549 0, nn, nn, oI x3, oI x4] [] s else evT f 525 118 [oR 549 0, nn, nn, oI x3, oI x4] [] s) (fun _ => rfl) (rg_if h (fun h => ?_) fun h => ?_)
      · exact (t_fM_nextMinute_b139 hk95) h
      · refine rg_step 4 (G' := fun f => if inb x4 20 = true then evT f 525 125 [oR 549 0, nn, nn, oI x3, oI x4] [vI (s.1 616 (ix x4))] s else none) (fun _ => rfl) (rg_gd h fun h => ?_)
        refine rg_step 2 (G' := fun f => if (s.1 616 (ix x4)) < x3 then evT f 525 129 [oR 549 0, nn, nn, oI x3, oI x4] [] s else evT f 525 139 [oR 549 0, nn, nn, oI x3, oI x4] [] s) (fun _ => rfl) (rg_if h (fun h => ?_) fun h => ?_)
        · refine rg_step 4 (G' := fun f => if inb x4 20 = true then evT f 525 136 [oR 549 0, nn, nn, oI x3, oI x4] [vI (s.1 616 (ix x4))] s else none) (fun _ => rfl) (rg_gd h fun h => ?_)
          exact rg_step 1 (G' := fun f => evT f 525 140 [oR 549 0, nn, nn, oI x3, oI x4] [vI (s.1 616 (ix x4))] s) (fun _ => rfl) ((t_fM_nextMinute_b140 hk95) h)
        · exact (t_fM_nextMinute_b139 hk95) h
    · exact rg_end 2 (fun _ => rfl) (by cases h; rfl)
theorem t_fM_nextMinute_h95 {s : ev_M} {n : Nat} {x3 : Int32} {x4 : Int32} {j1 : Option ev_V} {j2 : Option ev_V} {q : Int32} (h : fM_nextMinute_h95 s n x3 x4 = some q) : RR 525 95 [oR 549 0, j1, j2, oI x3, oI x4] [] s (cvP s q) := ti_fM_nextMinute_h95 n x3 x4 j1 j2 q h
theorem ti_fM_nextMinute_h29 {s : ev_M} : ∀ (n : Nat) (x3 : Int32) (x4 : Int32) (j1 : Option ev_V) (j2 : Option ev_V) (q : Int32), fM_nextMinute_h29 s n x3 x4 = some q → RR 525 29 [oR 549 0, j1, j2, oI x3, oI x4] [] s (cvP s q) := by
  intro n
  induction n with
  | zero => intro x3 x4 j1 j2 q h; cases h
  | succ n ih =>
    have hk29 : ∀ {x3 : Int32} {x4 : Int32} {j1 : Option ev_V} {j2 : Option ev_V} {q : Int32}, fM_nextMinute_h29 s n x3 x4 = some q → RR 525 29 [oR 549 0, j1, j2, oI x3, oI x4] [] s (cvP s q) := fun h => ih _ _ _ _ _ h
    intro x3 x4 j1 j2 q h
    refine rg_step 4 (G' := fun f => if x4 < (s.1 549 101) then evT f 525 38 [oR 549 0, nn, nn, oI x3, oI x4] [] s else evT f 525 92 [oR 549 0, nn, nn, oI x3, oI x4] [] s) (fun _ => rfl) (rg_if h (fun h => ?_) fun h => ?_)
    · refine rg_step 4 (G' := fun f => if inb x4 80 = true then evT f 525 45 [oR 549 0, nn, nn, oI x3, oI x4] [vI (s.1 618 (ix x4))] s else none) (fun _ => rfl) (rg_gd h fun h => ?_)
      refine rg_step 2 (G' := fun f => if (s.1 618 (ix x4)) = (cI 2) then evT f 525 49 [oR 549 0, nn, nn, oI x3, oI x4] [] s else evT f 525 84 [oR 549 0, nn, nn, oI x3, oI x4] [] s) (fun _ => rfl) (rg_if h (fun h => ?_) fun h => ?_)
      · refine rg_step 4 (G' := fun f => if inb x4 80 = true then evT f 525 56 [oR 549 0, nn, nn, oI x3, oI x4] [vI (s.1 622 (ix x4))] s else none) (fun _ => rfl) (rg_gd h fun h => ?_)
        refine rg_step 3 (G' := fun f => if (s.1 622 (ix x4)) ≤ (s.1 549 22) then evT f 525 84 [oR 549 0, nn, nn, oI x3, oI x4] [] s else evT f 525 63 [oR 549 0, nn, nn, oI x3, oI x4] [] s) (fun _ => rfl) (rg_if h (fun h => ?_) fun h => ?_)
        · exact (t_fM_nextMinute_b84 hk29) h
        · refine rg_step 4 (G' := fun f => if inb x4 80 = true then evT f 525 70 [oR 549 0, nn, nn, oI x3, oI x4] [vI (s.1 622 (ix x4))] s else none) (fun _ => rfl) (rg_gd h fun h => ?_)
          refine rg_step 2 (G' := fun f => if (s.1 622 (ix x4)) < x3 then evT f 525 74 [oR 549 0, nn, nn, oI x3, oI x4] [] s else evT f 525 84 [oR 549 0, nn, nn, oI x3, oI x4] [] s) (fun _ => rfl) (rg_if h (fun h => ?_) fun h => ?_)
          · refine rg_step 4 (G' := fun f => if inb x4 80 = true then evT f 525 81 [oR 549 0, nn, nn, oI x3, oI x4] [vI (s.1 622 (ix x4))] s else none) (fun _ => rfl) (rg_gd h fun h => ?_)
            exact rg_step 1 (G' := fun f => evT f 525 85 [oR 549 0, nn, nn, oI x3, oI x4] [vI (s.1 622 (ix x4))] s) (fun _ => rfl) ((t_fM_nextMinute_b85 hk29) h)
          · exact (t_fM_nextMinute_b84 hk29) h
      · exact (t_fM_nextMinute_b84 hk29) h
    · exact rg_step 2 (G' := fun f => evT f 525 95 [oR 549 0, nn, nn, oI x3, oI (cI 0)] [] s) (fun _ => rfl) ((t_fM_nextMinute_h95) h)
theorem t_fM_nextMinute_h29 {s : ev_M} {n : Nat} {x3 : Int32} {x4 : Int32} {j1 : Option ev_V} {j2 : Option ev_V} {q : Int32} (h : fM_nextMinute_h29 s n x3 x4 = some q) : RR 525 29 [oR 549 0, j1, j2, oI x3, oI x4] [] s (cvP s q) := ti_fM_nextMinute_h29 n x3 x4 j1 j2 q h
theorem t_fM_nextMinute_b25 {s : ev_M} {y0 : Int32} {j1 : Option ev_V} {j2 : Option ev_V} {j3 : Option ev_V} {j4 : Option ev_V} {q : Int32} (h : fM_nextMinute_b25 s y0 = some q) : RR 525 25 [oR 549 0, j1, j2, j3, j4] [vI y0] s (cvP s q) := by
  exact rg_step 3 (G' := fun f => evT f 525 29 [oR 549 0, nn, nn, oI y0, oI (cI 0)] [] s) (fun _ => rfl) ((t_fM_nextMinute_h29) h)
theorem T_fM_nextMinute {s : ev_M} {a1 : Int32} {q : Int32} (h : fM_nextMinute s a1 = some q) : RR 525 0 [oR 549 0, oI a1, nn, nn, nn] [] s (cvP s q) := by
  refine rg_step 4 (G' := fun f => if (cI 1440) = 0 then none else evT f 525 8 [oR 549 0, oI a1, nn, nn, nn] [vI ((s.1 549 22) / (cI 1440))] s) (fun _ => rfl) (rg_dv h fun h => ?_)
  refine rg_step 5 (G' := fun f => evT f 525 15 [oR 549 0, oI a1, oI ((((s.1 549 22) / (cI 1440)) + (cI 1)) * (cI 1440)), nn, nn] [] s) (fun _ => rfl) (rg_ltI (P := fun v1 => RG (fun f => evT f 525 15 [oR 549 0, oI a1, oI v1, nn, nn] [] s) (cvP s q)) h fun v1 h => ?_)
  refine rg_step 3 (G' := fun f => if v1 < a1 then evT f 525 20 [oR 549 0, oI a1, oI v1, nn, nn] [] s else evT f 525 24 [oR 549 0, oI a1, oI v1, nn, nn] [] s) (fun _ => rfl) (rg_if h (fun h => ?_) fun h => ?_)
  · exact rg_step 2 (G' := fun f => evT f 525 25 [oR 549 0, oI a1, oI v1, nn, nn] [vI v1] s) (fun _ => rfl) ((t_fM_nextMinute_b25) h)
  · exact rg_step 1 (G' := fun f => evT f 525 25 [oR 549 0, oI a1, oI v1, nn, nn] [vI a1] s) (fun _ => rfl) ((t_fM_nextMinute_b25) h)
theorem t_fM_dayBegins_b40 {k2 : ev_M → Int32 → Option ev_M} (hk2 : ∀ {s : ev_M} {x1 : Int32} {j2 : Option ev_V} {q : ev_M}, k2 s x1 = some q → RR 523 2 [oR 549 0, oI x1, j2] [] s (cvV q)) {s : ev_M} {x1 : Int32} {j2 : Option ev_V} {q : ev_M} (h : fM_dayBegins_b40 k2 s x1 = some q) : RR 523 40 [oR 549 0, oI x1, j2] [] s (cvV q) := by
  exact rg_step 2 (G' := fun f => evT f 523 2 [oR 549 0, oI (x1 + cI 1), nn] [] s) (fun _ => rfl) (hk2 h)
theorem t_fM_dayBegins_b103 {k48 : ev_M → Int32 → Option ev_M} (hk48 : ∀ {s : ev_M} {x1 : Int32} {j2 : Option ev_V} {q : ev_M}, k48 s x1 = some q → RR 523 48 [oR 549 0, oI x1, j2] [] s (cvV q)) {s : ev_M} {x1 : Int32} {j2 : Option ev_V} {q : ev_M} (h : fM_dayBegins_b103 k48 s x1 = some q) : RR 523 103 [oR 549 0, oI x1, j2] [] s (cvV q) := by
  exact rg_step 2 (G' := fun f => evT f 523 48 [oR 549 0, oI (x1 + cI 1), nn] [] s) (fun _ => rfl) (hk48 h)
theorem ti_fM_dayBegins_h111 : ∀ (n : Nat) (s : ev_M) (x1 : Int32) (j2 : Option ev_V) (q : ev_M), fM_dayBegins_h111 n s x1 = some q → RR 523 111 [oR 549 0, oI x1, j2] [] s (cvV q) := by
  intro n
  induction n with
  | zero => intro s x1 j2 q h; cases h
  | succ n ih =>
    have hk111 : ∀ {s : ev_M} {x1 : Int32} {j2 : Option ev_V} {q : ev_M}, fM_dayBegins_h111 n s x1 = some q → RR 523 111 [oR 549 0, oI x1, j2] [] s (cvV q) := fun h => ih _ _ _ _ h
    intro s x1 j2 q h
    refine rg_step 4 (G' := fun f => if x1 < (s.1 549 107) then evT f 523 119 [oR 549 0, oI x1, nn] [] s else evT f 523 132 [oR 549 0, oI x1, nn] [] s) (fun _ => rfl) (rg_if h (fun h => ?_) fun h => ?_)
    · refine rg_step 5 (G' := fun f => if inb x1 8 = true then evT f 523 126 [oR 549 0, oI x1, nn] [] (wI s 625 (ix x1) (cI 0)) else none) (fun _ => rfl) (rg_gd h fun h => rg_ltM h fun s1 h => ?_)
      exact rg_step 2 (G' := fun f => evT f 523 111 [oR 549 0, oI (x1 + cI 1), nn] [] s1) (fun _ => rfl) (hk111 h)
    · exact rg_end 1 (fun _ => rfl) (by cases h; rfl)
theorem t_fM_dayBegins_h111 {n : Nat} {s : ev_M} {x1 : Int32} {j2 : Option ev_V} {q : ev_M} (h : fM_dayBegins_h111 n s x1 = some q) : RR 523 111 [oR 549 0, oI x1, j2] [] s (cvV q) := ti_fM_dayBegins_h111 n s x1 j2 q h
theorem ti_fM_dayBegins_h48 : ∀ (n : Nat) (s : ev_M) (x1 : Int32) (j2 : Option ev_V) (q : ev_M), fM_dayBegins_h48 n s x1 = some q → RR 523 48 [oR 549 0, oI x1, j2] [] s (cvV q) := by
  intro n
  induction n with
  | zero => intro s x1 j2 q h; cases h
  | succ n ih =>
    have hk48 : ∀ {s : ev_M} {x1 : Int32} {j2 : Option ev_V} {q : ev_M}, fM_dayBegins_h48 n s x1 = some q → RR 523 48 [oR 549 0, oI x1, j2] [] s (cvV q) := fun h => ih _ _ _ _ h
    intro s x1 j2 q h
    refine rg_step 4 (G' := fun f => if x1 < (s.1 549 119) then evT f 523 56 [oR 549 0, oI x1, nn] [] s else evT f 523 109 [oR 549 0, oI x1, nn] [] s) (fun _ => rfl) (rg_if h (fun h => ?_) fun h => ?_)
    · refine rg_step 4 (G' := fun f => if inb x1 60 = true then evT f 523 62 [oR 549 0, oI x1, nn] [vI (s.1 632 (ix x1))] s else none) (fun _ => rfl) (rg_gd h fun h => ?_)
      refine rg_step 1 (G' := fun f => if (s.1 632 (ix x1)) = 0 then evT f 523 65 [oR 549 0, oI x1, nn] [] s else evT f 523 103 [oR 549 0, oI x1, nn] [] s) (fun _ => rfl) (rg_if h (fun h => ?_) fun h => ?_)
      · refine rg_step 4 (G' := fun f => if inb x1 60 = true then evT f 523 71 [oR 549 0, oI x1, nn] [vI (s.1 636 (ix x1))] s else none) (fun _ => rfl) (rg_gd h fun h => ?_)
        refine rg_step 2 (G' := fun f => ev_after (evT f 340 0 [oR 549 0] [] s) (fun q => evT f 523 75 [oR 549 0, oI x1, nn] (q.2 ++ [vI (s.1 636 (ix x1))]) q.1)) (fun _ => rfl) (rg_bd1 h fun v2 hc h => rg_call (q := cvP s v2) (T_fM_today hc) ?_)
        refine rg_step 1 (G' := fun f => if (s.1 636 (ix x1)) ≤ v2 then evT f 523 78 [oR 549 0, oI x1, nn] [] s else evT f 523 103 [oR 549 0, oI x1, nn] [] s) (fun _ => rfl) (rg_if h (fun h => ?_) fun h => ?_)
        · refine rg_step 5 (G' := fun f => if inb x1 60 = true then evT f 523 85 [oR 549 0, oI x1, nn] [] (wI s 632 (ix x1) (cI 2)) else none) (fun _ => rfl) (rg_gd h fun h => rg_ltM h fun s3 h => ?_)
          refine rg_step 6 (G' := fun f => if inb x1 60 = true then evT f 523 93 [oR 549 0, oI x1, nn] [vI (s3.1 633 (ix x1)), vI (cI 3), vR 549 0] s3 else none) (fun _ => rfl) (rg_gd h fun h => ?_)
          refine rg_step 4 (G' := fun f => if inb x1 60 = true then evT f 523 99 [oR 549 0, oI x1, nn] [vI (s3.1 635 (ix x1)), vI (s3.1 633 (ix x1)), vI (cI 3), vR 549 0] s3 else none) (fun _ => rfl) (rg_gd h fun h => ?_)
          refine rg_step 2 (G' := fun f => ev_after (evT f 476 0 [oR 549 0, oI (cI 3), oI (s3.1 633 (ix x1)), oI (s3.1 635 (ix x1)), oI (cI (-1))] [] s3) (fun q => evT f 523 103 [oR 549 0, oI x1, nn] (q.2 ++ []) q.1)) (fun _ => rfl) (rg_bd1 h fun s4 hc h => rg_call (q := cvV s4) (T_fM_pay hc) ?_)
          exact (t_fM_dayBegins_b103 hk48) h
        · exact (t_fM_dayBegins_b103 hk48) h
      · exact (t_fM_dayBegins_b103 hk48) h
    · exact rg_step 2 (G' := fun f => evT f 523 111 [oR 549 0, oI (cI 0), nn] [] s) (fun _ => rfl) ((t_fM_dayBegins_h111) h)
theorem t_fM_dayBegins_h48 {n : Nat} {s : ev_M} {x1 : Int32} {j2 : Option ev_V} {q : ev_M} (h : fM_dayBegins_h48 n s x1 = some q) : RR 523 48 [oR 549 0, oI x1, j2] [] s (cvV q) := ti_fM_dayBegins_h48 n s x1 j2 q h
theorem ti_fM_dayBegins_h2 : ∀ (n : Nat) (s : ev_M) (x1 : Int32) (j2 : Option ev_V) (q : ev_M), fM_dayBegins_h2 n s x1 = some q → RR 523 2 [oR 549 0, oI x1, j2] [] s (cvV q) := by
  intro n
  induction n with
  | zero => intro s x1 j2 q h; cases h
  | succ n ih =>
    have hk2 : ∀ {s : ev_M} {x1 : Int32} {j2 : Option ev_V} {q : ev_M}, fM_dayBegins_h2 n s x1 = some q → RR 523 2 [oR 549 0, oI x1, j2] [] s (cvV q) := fun h => ih _ _ _ _ h
    intro s x1 j2 q h
    refine rg_step 4 (G' := fun f => if x1 < (s.1 549 58) then evT f 523 10 [oR 549 0, oI x1, nn] [] s else evT f 523 46 [oR 549 0, oI x1, nn] [] s) (fun _ => rfl) (rg_if h (fun h => ?_) fun h => ?_)
    · refine rg_step 4 (G' := fun f => if inb x1 300 = true then evT f 523 16 [oR 549 0, oI x1, nn] [vI (s.1 583 (ix x1))] s else none) (fun _ => rfl) (rg_gd h fun h => ?_)
      refine rg_step 2 (G' := fun f => if (s.1 583 (ix x1)) = (cI 6) then evT f 523 21 [oR 549 0, oI x1, nn] [] s else evT f 523 40 [oR 549 0, oI x1, nn] [] s) (fun _ => rfl) (rg_if h (fun h => ?_) fun h => ?_)
      · refine rg_step 4 (G' := fun f => if inb x1 300 = true then evT f 523 27 [oR 549 0, oI x1, nn] [vI (s.1 602 (ix x1))] s else none) (fun _ => rfl) (rg_gd h fun h => ?_)
        refine rg_step 2 (G' := fun f => ev_after (evT f 340 0 [oR 549 0] [] s) (fun q => evT f 523 31 [oR 549 0, oI x1, nn] (q.2 ++ [vI (s.1 602 (ix x1))]) q.1)) (fun _ => rfl) (rg_bd1 h fun v5 hc h => rg_call (q := cvP s v5) (T_fM_today hc) ?_)
        refine rg_step 1 (G' := fun f => if (s.1 602 (ix x1)) ≤ v5 then evT f 523 34 [oR 549 0, oI x1, nn] [] s else evT f 523 40 [oR 549 0, oI x1, nn] [] s) (fun _ => rfl) (rg_if h (fun h => ?_) fun h => ?_)
        · refine rg_step 3 (G' := fun f => ev_after (evT f 354 0 [oR 549 0, oI x1] [] s) (fun q => evT f 523 39 [oR 549 0, oI x1, nn] (q.2 ++ []) q.1)) (fun _ => rfl) (rg_bd2 h fun s6 v7 hc h => rg_call (q := cvI (s6, v7)) (T_fM_goesBack hc) ?_)
          exact rg_step 1 (G' := fun f => evT f 523 40 [oR 549 0, oI x1, oI v7] [] s6) (fun _ => rfl) ((t_fM_dayBegins_b40 hk2) h)
        · exact (t_fM_dayBegins_b40 hk2) h
      · exact (t_fM_dayBegins_b40 hk2) h
    · exact rg_step 2 (G' := fun f => evT f 523 48 [oR 549 0, oI (cI 0), nn] [] s) (fun _ => rfl) ((t_fM_dayBegins_h48) h)
theorem t_fM_dayBegins_h2 {n : Nat} {s : ev_M} {x1 : Int32} {j2 : Option ev_V} {q : ev_M} (h : fM_dayBegins_h2 n s x1 = some q) : RR 523 2 [oR 549 0, oI x1, j2] [] s (cvV q) := ti_fM_dayBegins_h2 n s x1 j2 q h
theorem T_fM_dayBegins {s : ev_M} {q : ev_M} (h : fM_dayBegins s = some q) : RR 523 0 [oR 549 0, nn, nn] [] s (cvV q) := by
  exact rg_step 2 (G' := fun f => evT f 523 2 [oR 549 0, oI (cI 0), nn] [] s) (fun _ => rfl) ((t_fM_dayBegins_h2) h)
theorem t_fM_doTick_b23 {s : ev_M} {j1 : Option ev_V} {j2 : Option ev_V} {j3 : Option ev_V} {q : ev_M × Int32} (h : fM_doTick_b23 s = some q) : RR 526 23 [oR 549 0, j1, j2, j3] [] s (cvI q) := by
  refine rg_step 3 (G' := fun f => ev_after (evT f 315 0 [oR 549 0, oI (cI (-102))] [] s) (fun q => evT f 526 29 [oR 549 0, nn, nn, nn] (q.2 ++ []) q.1)) (fun _ => rfl) (rg_bd2 h fun s1 v2 hc h => rg_call (q := cvI (s1, v2)) (T_fM_no hc) ?_)
  exact rg_end 1 (fun _ => rfl) (by cases h; rfl)
theorem t_fM_doTick_b154 {k51 : ev_M → Int32 → Option (ev_M × Int32)} {k85 : ev_M → Int32 → Int32 → Option (ev_M × Int32)} (hk51 : ∀ {s : ev_M} {x2 : Int32} {j1 : Option ev_V} {j3 : Option ev_V} {q : ev_M × Int32}, k51 s x2 = some q → RR 526 51 [oR 549 0, j1, oI x2, j3] [] s (cvI q)) (hk85 : ∀ {s : ev_M} {x2 : Int32} {x3 : Int32} {j1 : Option ev_V} {q : ev_M × Int32}, k85 s x2 x3 = some q → RR 526 85 [oR 549 0, j1, oI x2, oI x3] [] s (cvI q)) {s : ev_M} {x2 : Int32} {x3 : Int32} {j1 : Option ev_V} {q : ev_M × Int32} (h : fM_doTick_b154 k51 k85 s x2 x3 = some q) : RR 526 154 [oR 549 0, j1, oI x2, oI x3] [] s (cvI q) := by
  exact rg_step 2 (G' := fun f => evT f 526 85 [oR 549 0, nn, oI x2, oI (x3 + cI 1)] [] s) (fun _ => rfl) (hk85 h)
theorem t_fM_doTick_b188 {k51 : ev_M → Int32 → Option (ev_M × Int32)} {k162 : ev_M → Int32 → Int32 → Option (ev_M × Int32)} (hk51 : ∀ {s : ev_M} {x2 : Int32} {j1 : Option ev_V} {j3 : Option ev_V} {q : ev_M × Int32}, k51 s x2 = some q → RR 526 51 [oR 549 0, j1, oI x2, j3] [] s (cvI q)) (hk162 : ∀ {s : ev_M} {x2 : Int32} {x3 : Int32} {j1 : Option ev_V} {q : ev_M × Int32}, k162 s x2 x3 = some q → RR 526 162 [oR 549 0, j1, oI x2, oI x3] [] s (cvI q)) {s : ev_M} {x2 : Int32} {x3 : Int32} {j1 : Option ev_V} {q : ev_M × Int32} (h : fM_doTick_b188 k51 k162 s x2 x3 = some q) : RR 526 188 [oR 549 0, j1, oI x2, oI x3] [] s (cvI q) := by
  exact rg_step 2 (G' := fun f => evT f 526 162 [oR 549 0, nn, oI x2, oI (x3 + cI 1)] [] s) (fun _ => rfl) (hk162 h)
theorem ti_fM_doTick_h162 {k51 : ev_M → Int32 → Option (ev_M × Int32)} (hk51 : ∀ {s : ev_M} {x2 : Int32} {j1 : Option ev_V} {j3 : Option ev_V} {q : ev_M × Int32}, k51 s x2 = some q → RR 526 51 [oR 549 0, j1, oI x2, j3] [] s (cvI q)) : ∀ (n : Nat) (s : ev_M) (x2 : Int32) (x3 : Int32) (j1 : Option ev_V) (q : ev_M × Int32), fM_doTick_h162 k51 n s x2 x3 = some q → RR 526 162 [oR 549 0, j1, oI x2, oI x3] [] s (cvI q) := by
  intro n
  induction n with
  | zero => intro s x2 x3 j1 q h; cases h
  | succ n ih =>
    have hk162 : ∀ {s : ev_M} {x2 : Int32} {x3 : Int32} {j1 : Option ev_V} {q : ev_M × Int32}, fM_doTick_h162 k51 n s x2 x3 = some q → RR 526 162 [oR 549 0, j1, oI x2, oI x3] [] s (cvI q) := fun h => ih _ _ _ _ _ h
    intro s x2 x3 j1 q h
    refine rg_step 4 (G' := fun f => if x3 < (s.1 549 93) then evT f 526 170 [oR 549 0, nn, oI x2, oI x3] [] s else evT f 526 194 [oR 549 0, nn, oI x2, oI x3] [] s) (fun _ => rfl) (rg_if h (fun h => ?_) fun h => ?_)
    · refine rg_step 4 (G' := fun f => if inb x3 20 = true then evT f 526 176 [oR 549 0, nn, oI x2, oI x3] [vI (s.1 616 (ix x3))] s else none) (fun _ => rfl) (rg_gd h fun h => ?_)
      refine rg_step 3 (G' := fun f => if (s.1 616 (ix x3)) = (s.1 549 22) then evT f 526 183 [oR 549 0, nn, oI x2, oI x3] [] s else evT f 526 188 [oR 549 0, nn, oI x2, oI x3] [] s) (fun _ => rfl) (rg_if h (fun h => ?_) fun h => ?_)
      · refine rg_step 3 (G' := fun f => ev_after (evT f 524 0 [oR 549 0, oI x3, nn, nn, nn, nn] [] s) (fun q => evT f 526 188 [oR 549 0, nn, oI x2, oI x3] (q.2 ++ []) q.1)) (fun _ => rfl) (rg_bd1 h fun s3 hc h => rg_call (q := cvV s3) (T_fM_departs hc) ?_)
        exact (t_fM_doTick_b188 hk51 hk162) h
      · exact (t_fM_doTick_b188 hk51 hk162) h
    · exact rg_step 1 (G' := fun f => evT f 526 51 [oR 549 0, nn, oI x2, oI x3] [] s) (fun _ => rfl) (hk51 h)
theorem t_fM_doTick_h162 {k51 : ev_M → Int32 → Option (ev_M × Int32)} (hk51 : ∀ {s : ev_M} {x2 : Int32} {j1 : Option ev_V} {j3 : Option ev_V} {q : ev_M × Int32}, k51 s x2 = some q → RR 526 51 [oR 549 0, j1, oI x2, j3] [] s (cvI q)) {n : Nat} {s : ev_M} {x2 : Int32} {x3 : Int32} {j1 : Option ev_V} {q : ev_M × Int32} (h : fM_doTick_h162 k51 n s x2 x3 = some q) : RR 526 162 [oR 549 0, j1, oI x2, oI x3] [] s (cvI q) := ti_fM_doTick_h162 hk51 n s x2 x3 j1 q h
theorem ti_fM_doTick_h85 {k51 : ev_M → Int32 → Option (ev_M × Int32)} (hk51 : ∀ {s : ev_M} {x2 : Int32} {j1 : Option ev_V} {j3 : Option ev_V} {q : ev_M × Int32}, k51 s x2 = some q → RR 526 51 [oR 549 0, j1, oI x2, j3] [] s (cvI q)) : ∀ (n : Nat) (s : ev_M) (x2 : Int32) (x3 : Int32) (j1 : Option ev_V) (q : ev_M × Int32), fM_doTick_h85 k51 n s x2 x3 = some q → RR 526 85 [oR 549 0, j1, oI x2, oI x3] [] s (cvI q) := by
  intro n
  induction n with
  | zero => intro s x2 x3 j1 q h; cases h
  | succ n ih =>
    have hk85 : ∀ {s : ev_M} {x2 : Int32} {x3 : Int32} {j1 : Option ev_V} {q : ev_M × Int32}, fM_doTick_h85 k51 n s x2 x3 = some q → RR 526 85 [oR 549 0, j1, oI x2, oI x3] [] s (cvI q) := fun h => ih _ _ _ _ _ h
    intro s x2 x3 j1 q h
    refine rg_step 4 (G' := fun f => if x3 < (s.1 549 101) then evT f 526 93 [oR 549 0, nn, oI x2, oI x3] [] s else evT f 526 160 [oR 549 0, nn, oI x2, oI x3] [] s) (fun _ => rfl) (rg_if h (fun h => ?_) fun h => ?_)
    · refine rg_step 4 (G' := fun f => if inb x3 80 = true then evT f 526 99 [oR 549 0, nn, oI x2, oI x3] [vI (s.1 618 (ix x3))] s else none) (fun _ => rfl) (rg_gd h fun h => ?_)
      refine rg_step 2 (G' := fun f => if (s.1 618 (ix x3)) = (cI 2) then evT f 526 103 [oR 549 0, nn, oI x2, oI x3] [] s else evT f 526 154 [oR 549 0, nn, oI x2, oI x3] [] s) (fun _ => rfl) (rg_if h (fun h => ?_) fun h => ?_)
      · refine rg_step 4 (G' := fun f => if inb x3 80 = true then evT f 526 109 [oR 549 0, nn, oI x2, oI x3] [vI (s.1 622 (ix x3))] s else none) (fun _ => rfl) (rg_gd h fun h => ?_)
        refine rg_step 3 (G' := fun f => if (s.1 622 (ix x3)) = (s.1 549 22) then evT f 526 116 [oR 549 0, nn, oI x2, oI x3] [] s else evT f 526 154 [oR 549 0, nn, oI x2, oI x3] [] s) (fun _ => rfl) (rg_if h (fun h => ?_) fun h => ?_)
        · refine rg_step 5 (G' := fun f => if inb x3 80 = true then evT f 526 123 [oR 549 0, nn, oI x2, oI x3] [] (wI s 618 (ix x3) (cI 1)) else none) (fun _ => rfl) (rg_gd h fun h => rg_ltM h fun s4 h => ?_)
          refine rg_step 9 (G' := fun f => if inb x3 80 = true then evT f 526 138 [oR 549 0, nn, oI x2, oI x3] [vI (s4.1 621 (ix x3)), vR 612 0, vI x3, vR 619 0] s4 else none) (fun _ => rfl) (rg_gd h fun h => ?_)
          refine rg_step 1 (G' := fun f => if inb (s4.1 621 (ix x3)) 20 = true then evT f 526 139 [oR 549 0, nn, oI x2, oI x3] [vI (s4.1 612 (ix (s4.1 621 (ix x3)))), vI x3, vR 619 0] s4 else none) (fun _ => rfl) (rg_gd h fun h => ?_)
          refine rg_step 1 (G' := fun f => if inb x3 80 = true then evT f 526 140 [oR 549 0, nn, oI x2, oI x3] [] (wI s4 619 (ix x3) (s4.1 612 (ix (s4.1 621 (ix x3))))) else none) (fun _ => rfl) (rg_gd h fun h => rg_ltM h fun s5 h => ?_)
          refine rg_step 5 (G' := fun f => if inb x3 80 = true then evT f 526 147 [oR 549 0, nn, oI x2, oI x3] [] (wI s5 621 (ix x3) (cI (-1))) else none) (fun _ => rfl) (rg_gd h fun h => rg_ltM h fun s6 h => ?_)
          refine rg_step 5 (G' := fun f => if inb x3 80 = true then evT f 526 154 [oR 549 0, nn, oI x2, oI x3] [] (wI s6 622 (ix x3) (cI (-1))) else none) (fun _ => rfl) (rg_gd h fun h => rg_ltM h fun s7 h => ?_)
          exact (t_fM_doTick_b154 hk51 hk85) h
        · exact (t_fM_doTick_b154 hk51 hk85) h
      · exact (t_fM_doTick_b154 hk51 hk85) h
    · exact rg_step 2 (G' := fun f => evT f 526 162 [oR 549 0, nn, oI x2, oI (cI 0)] [] s) (fun _ => rfl) ((t_fM_doTick_h162 hk51) h)
theorem t_fM_doTick_h85 {k51 : ev_M → Int32 → Option (ev_M × Int32)} (hk51 : ∀ {s : ev_M} {x2 : Int32} {j1 : Option ev_V} {j3 : Option ev_V} {q : ev_M × Int32}, k51 s x2 = some q → RR 526 51 [oR 549 0, j1, oI x2, j3] [] s (cvI q)) {n : Nat} {s : ev_M} {x2 : Int32} {x3 : Int32} {j1 : Option ev_V} {q : ev_M × Int32} (h : fM_doTick_h85 k51 n s x2 x3 = some q) : RR 526 85 [oR 549 0, j1, oI x2, oI x3] [] s (cvI q) := ti_fM_doTick_h85 hk51 n s x2 x3 j1 q h
theorem t_fM_doTick_b83 {k51 : ev_M → Int32 → Option (ev_M × Int32)} (hk51 : ∀ {s : ev_M} {x2 : Int32} {j1 : Option ev_V} {j3 : Option ev_V} {q : ev_M × Int32}, k51 s x2 = some q → RR 526 51 [oR 549 0, j1, oI x2, j3] [] s (cvI q)) {s : ev_M} {x2 : Int32} {j1 : Option ev_V} {j3 : Option ev_V} {q : ev_M × Int32} (h : fM_doTick_b83 k51 s x2 = some q) : RR 526 83 [oR 549 0, j1, oI x2, j3] [] s (cvI q) := by
  exact rg_step 2 (G' := fun f => evT f 526 85 [oR 549 0, nn, oI x2, oI (cI 0)] [] s) (fun _ => rfl) ((t_fM_doTick_h85 hk51) h)
theorem ti_fM_doTick_h51 : ∀ (n : Nat) (s : ev_M) (x2 : Int32) (j1 : Option ev_V) (j3 : Option ev_V) (q : ev_M × Int32), fM_doTick_h51 n s x2 = some q → RR 526 51 [oR 549 0, j1, oI x2, j3] [] s (cvI q) := by
  intro n
  induction n with
  | zero => intro s x2 j1 j3 q h; cases h
  | succ n ih =>
    have hk51 : ∀ {s : ev_M} {x2 : Int32} {j1 : Option ev_V} {j3 : Option ev_V} {q : ev_M × Int32}, fM_doTick_h51 n s x2 = some q → RR 526 51 [oR 549 0, j1, oI x2, j3] [] s (cvI q) := fun h => ih _ _ _ _ _ h
    intro s x2 j1 j3 q h
    refine rg_step 4 (G' := fun f => if (s.1 549 22) < x2 then evT f 526 59 [oR 549 0, nn, oI x2, nn] [] s else evT f 526 197 [oR 549 0, nn, oI x2, nn] [] s) (fun _ => rfl) (rg_if h (fun h => ?_) fun h => ?_)
    · refine rg_step 4 (G' := fun f => ev_after (evT f 525 0 [oR 549 0, oI x2, nn, nn, nn] [] s) (fun q => evT f 526 65 [oR 549 0, nn, oI x2, nn] (q.2 ++ [vR 549 0]) q.1)) (fun _ => rfl) (rg_bd1 h fun v8 hc h => rg_call (q := cvP s v8) (T_fM_nextMinute hc) ?_)
      refine rg_step 1 (G' := fun f => evT f 526 68 [oR 549 0, nn, oI x2, nn] [] (wI s 549 22 v8)) (fun _ => rfl) (rg_ltM h fun s9 h => ?_)
      refine rg_step 4 (G' := fun f => if (cI 1440) = 0 then none else evT f 526 76 [oR 549 0, nn, oI x2, nn] [vI (irem (s9.1 549 22) (cI 1440))] s9) (fun _ => rfl) (rg_dv h fun h => ?_)
      refine rg_step 1 (G' := fun f => if (irem (s9.1 549 22) (cI 1440)) = 0 then evT f 526 79 [oR 549 0, nn, oI x2, nn] [] s9 else evT f 526 83 [oR 549 0, nn, oI x2, nn] [] s9) (fun _ => rfl) (rg_if h (fun h => ?_) fun h => ?_)
      · refine rg_step 2 (G' := fun f => ev_after (evT f 523 0 [oR 549 0, nn, nn] [] s9) (fun q => evT f 526 83 [oR 549 0, nn, oI x2, nn] (q.2 ++ []) q.1)) (fun _ => rfl) (rg_bd1 h fun s10 hc h => rg_call (q := cvV s10) (T_fM_dayBegins hc) ?_)
        exact (t_fM_doTick_b83 hk51) h
      · exact (t_fM_doTick_b83 hk51) h
    · exact rg_end 3 (fun _ => rfl) (by cases h; rfl)
theorem t_fM_doTick_h51 {n : Nat} {s : ev_M} {x2 : Int32} {j1 : Option ev_V} {j3 : Option ev_V} {q : ev_M × Int32} (h : fM_doTick_h51 n s x2 = some q) : RR 526 51 [oR 549 0, j1, oI x2, j3] [] s (cvI q) := ti_fM_doTick_h51 n s x2 j1 j3 q h
theorem T_fM_doTick {s : ev_M} {a1 : Int32} {q : ev_M × Int32} (h : fM_doTick s a1 = some q) : RR 526 0 [oR 549 0, oI a1, nn, nn] [] s (cvI q) := by
  refine rg_step 4 (G' := fun f => ev_after (evT f 311 0 [oI a1, oI (cI 1), oI (cI 1440)] [] s) (fun q => evT f 526 8 [oR 549 0, oI a1, nn, nn] (q.2 ++ []) q.1)) (fun _ => rfl) (rg_bd1 h fun v11 hc h => rg_call (q := cvP s v11) (T_fM_in hc) ?_)
  refine rg_step 1 (G' := fun f => if v11 = 0 then evT f 526 23 [oR 549 0, oI a1, nn, nn] [] s else evT f 526 11 [oR 549 0, oI a1, nn, nn] [] s) (fun _ => rfl) (rg_if h (fun h => ?_) fun h => ?_)
  · exact (t_fM_doTick_b23) h
  · refine rg_step 2 (G' := fun f => evT f 526 15 [oR 549 0, oI a1, nn, nn] [vI (s.1 549 22)] s) (fun _ => rfl) ?_
    refine rg_step 1 (G' := fun f => evT f 526 18 [oR 549 0, oI a1, nn, nn] [vI (cI 1000000000), vI (s.1 549 22)] s) (fun f => ev_ldcw (f := f) (M := 526) (pc := 15) (idx := 903) (r := 1000000000) rfl (by decide)) ?_
    refine rg_step 1 (G' := fun f => evT f 526 19 [oR 549 0, oI a1, nn, nn] [vI a1, vI (cI 1000000000), vI (s.1 549 22)] s) (fun _ => rfl) ?_
    refine rg_step 1 (G' := fun f => evT f 526 20 [oR 549 0, oI a1, nn, nn] [vI ((cI 1000000000) - a1), vI (s.1 549 22)] s) (fun f => ev_sub1 (f := f) (M := 526) (pc := 19) rfl) ?_
    refine rg_step 1 (G' := fun f => if (s.1 549 22) ≤ ((cI 1000000000) - a1) then evT f 526 30 [oR 549 0, oI a1, nn, nn] [] s else evT f 526 23 [oR 549 0, oI a1, nn, nn] [] s) (fun f => ev_cle (f := f) (M := 526) (pc := 20) (o := 10) (r := 30) rfl) (rg_if h (fun h => ?_) fun h => ?_)
    · refine rg_step 2 (G' := fun f => ev_after (evT f 316 0 [oR 549 0, nn] [] s) (fun q => evT f 526 34 [oR 549 0, oI a1, nn, nn] (q.2 ++ []) q.1)) (fun _ => rfl) (rg_bd1 h fun v12 hc h => rg_call (q := cvP s v12) (T_fM_full hc) ?_)
      refine rg_step 1 (G' := fun f => if v12 = 0 then evT f 526 44 [oR 549 0, oI a1, nn, nn] [] s else evT f 526 37 [oR 549 0, oI a1, nn, nn] [] s) (fun _ => rfl) (rg_if h (fun h => ?_) fun h => ?_)
      · refine rg_step 5 (G' := fun f => evT f 526 51 [oR 549 0, oI a1, oI ((s.1 549 22) + a1), nn] [] s) (fun _ => rfl) (rg_ltI (P := fun v13 => RG (fun f => evT f 526 51 [oR 549 0, oI a1, oI v13, nn] [] s) (cvI q)) h fun v13 h => ?_)
        exact (t_fM_doTick_h51) h
      · refine rg_step 3 (G' := fun f => ev_after (evT f 315 0 [oR 549 0, oI (cI (-104))] [] s) (fun q => evT f 526 43 [oR 549 0, oI a1, nn, nn] (q.2 ++ []) q.1)) (fun _ => rfl) (rg_bd2 h fun s14 v15 hc h => rg_call (q := cvI (s14, v15)) (T_fM_no hc) ?_)
        exact rg_end 1 (fun _ => rfl) (by cases h; rfl)
    · exact (t_fM_doTick_b23) h
theorem t_fM_act_b516 {s : ev_M} {y1 : Int32} {y2 : Int32} {y3 : Int32} {j0 : Option ev_V} {j1 : Option ev_V} {j2 : Option ev_V} {j3 : Option ev_V} {j4 : Option ev_V} {q : ev_M × Int32} (h : fM_act_b516 s y1 y2 y3 = some q) : RR 530 516 [j0, j1, j2, j3, j4] [vI y3, vI y2, vI y1, vR 549 0] s (cvI q) := by
  refine rg_step 1 (G' := fun f => ev_after (evT f 520 0 [oR 549 0, oI y1, oI y2, oI y3, nn] [] s) (fun q => evT f 530 519 [nn, nn, nn, nn, nn] (q.2 ++ []) q.1)) (fun _ => rfl) (rg_bd2 h fun s1 v2 hc h => rg_call (q := cvI (s1, v2)) (T_fM_doWish hc) ?_)
  exact rg_end 1 (fun _ => rfl) (by cases h; rfl)
theorem T_fM_act {s : ev_M} {q : ev_M × Int32} (h : fM_act s = some q) : RR 530 0 [oR 549 0, nn, nn, nn, nn] [] s (cvI q) := by
  refine rg_step 5 (G' := fun f => evT f 530 7 [oR 549 0, oI (s.1 553 (ix (cI 0))), nn, nn, nn] [] s) (fun _ => rfl) (rg_ltI (P := fun v3 => RG (fun f => evT f 530 7 [oR 549 0, oI v3, nn, nn, nn] [] s) (cvI q)) h fun v3 h => ?_)
  refine rg_step 5 (G' := fun f => evT f 530 14 [oR 549 0, oI v3, oI (s.1 553 (ix (cI 1))), nn, nn] [] s) (fun _ => rfl) (rg_ltI (P := fun v4 => RG (fun f => evT f 530 14 [oR 549 0, oI v3, oI v4, nn, nn] [] s) (cvI q)) h fun v4 h => ?_)
  refine rg_step 5 (G' := fun f => evT f 530 21 [oR 549 0, oI v3, oI v4, oI (s.1 553 (ix (cI 2))), nn] [] s) (fun _ => rfl) (rg_ltI (P := fun v5 => RG (fun f => evT f 530 21 [oR 549 0, oI v3, oI v4, oI v5, nn] [] s) (cvI q)) h fun v5 h => ?_)
  refine rg_step 5 (G' := fun f => evT f 530 29 [oR 549 0, oI v3, oI v4, oI v5, oI (s.1 553 (ix (cI 3)))] [] s) (fun _ => rfl) (rg_ltI (P := fun v6 => RG (fun f => evT f 530 29 [oR 549 0, oI v3, oI v4, oI v5, oI v6] [] s) (cvI q)) h fun v6 h => ?_)
  refine rg_step 3 (G' := fun f => if (s.1 549 16) = cI 1 then evT f 530 204 [oR 549 0, oI v3, oI v4, oI v5, oI v6] [] s else if (s.1 549 16) = cI 2 then evT f 530 209 [oR 549 0, oI v3, oI v4, oI v5, oI v6] [] s else if (s.1 549 16) = cI 3 then evT f 530 220 [oR 549 0, oI v3, oI v4, oI v5, oI v6] [] s else if (s.1 549 16) = cI 4 then evT f 530 230 [oR 549 0, oI v3, oI v4, oI v5, oI v6] [] s else if (s.1 549 16) = cI 5 then evT f 530 236 [oR 549 0, oI v3, oI v4, oI v5, oI v6] [] s else if (s.1 549 16) = cI 6 then evT f 530 258 [oR 549 0, oI v3, oI v4, oI v5, oI v6] [] s else if (s.1 549 16) = cI 7 then evT f 530 265 [oR 549 0, oI v3, oI v4, oI v5, oI v6] [] s else if (s.1 549 16) = cI 8 then evT f 530 271 [oR 549 0, oI v3, oI v4, oI v5, oI v6] [] s else if (s.1 549 16) = cI 9 then evT f 530 279 [oR 549 0, oI v3, oI v4, oI v5, oI v6] [] s else if (s.1 549 16) = cI 10 then evT f 530 286 [oR 549 0, oI v3, oI v4, oI v5, oI v6] [] s else if (s.1 549 16) = cI 11 then evT f 530 296 [oR 549 0, oI v3, oI v4, oI v5, oI v6] [] s else if (s.1 549 16) = cI 12 then evT f 530 304 [oR 549 0, oI v3, oI v4, oI v5, oI v6] [] s else if (s.1 549 16) = cI 13 then evT f 530 311 [oR 549 0, oI v3, oI v4, oI v5, oI v6] [] s else if (s.1 549 16) = cI 14 then evT f 530 317 [oR 549 0, oI v3, oI v4, oI v5, oI v6] [] s else if (s.1 549 16) = cI 15 then evT f 530 323 [oR 549 0, oI v3, oI v4, oI v5, oI v6] [] s else if (s.1 549 16) = cI 16 then evT f 530 329 [oR 549 0, oI v3, oI v4, oI v5, oI v6] [] s else if (s.1 549 16) = cI 17 then evT f 530 345 [oR 549 0, oI v3, oI v4, oI v5, oI v6] [] s else if (s.1 549 16) = cI 18 then evT f 530 352 [oR 549 0, oI v3, oI v4, oI v5, oI v6] [] s else if (s.1 549 16) = cI 19 then evT f 530 359 [oR 549 0, oI v3, oI v4, oI v5, oI v6] [] s else if (s.1 549 16) = cI 20 then evT f 530 366 [oR 549 0, oI v3, oI v4, oI v5, oI v6] [] s else if (s.1 549 16) = cI 21 then evT f 530 372 [oR 549 0, oI v3, oI v4, oI v5, oI v6] [] s else if (s.1 549 16) = cI 22 then evT f 530 378 [oR 549 0, oI v3, oI v4, oI v5, oI v6] [] s else if (s.1 549 16) = cI 23 then evT f 530 389 [oR 549 0, oI v3, oI v4, oI v5, oI v6] [] s else if (s.1 549 16) = cI 24 then evT f 530 395 [oR 549 0, oI v3, oI v4, oI v5, oI v6] [] s else if (s.1 549 16) = cI 25 then evT f 530 401 [oR 549 0, oI v3, oI v4, oI v5, oI v6] [] s else if (s.1 549 16) = cI 26 then evT f 530 408 [oR 549 0, oI v3, oI v4, oI v5, oI v6] [] s else if (s.1 549 16) = cI 27 then evT f 530 419 [oR 549 0, oI v3, oI v4, oI v5, oI v6] [] s else if (s.1 549 16) = cI 28 then evT f 530 426 [oR 549 0, oI v3, oI v4, oI v5, oI v6] [] s else if (s.1 549 16) = cI 29 then evT f 530 432 [oR 549 0, oI v3, oI v4, oI v5, oI v6] [] s else if (s.1 549 16) = cI 30 then evT f 530 438 [oR 549 0, oI v3, oI v4, oI v5, oI v6] [] s else if (s.1 549 16) = cI 31 then evT f 530 445 [oR 549 0, oI v3, oI v4, oI v5, oI v6] [] s else if (s.1 549 16) = cI 32 then evT f 530 450 [oR 549 0, oI v3, oI v4, oI v5, oI v6] [] s else if (s.1 549 16) = cI 33 then evT f 530 456 [oR 549 0, oI v3, oI v4, oI v5, oI v6] [] s else if (s.1 549 16) = cI 34 then evT f 530 464 [oR 549 0, oI v3, oI v4, oI v5, oI v6] [] s else if (s.1 549 16) = cI 35 then evT f 530 472 [oR 549 0, oI v3, oI v4, oI v5, oI v6] [] s else if (s.1 549 16) = cI 36 then evT f 530 479 [oR 549 0, oI v3, oI v4, oI v5, oI v6] [] s else if (s.1 549 16) = cI 37 then evT f 530 486 [oR 549 0, oI v3, oI v4, oI v5, oI v6] [] s else if (s.1 549 16) = cI 38 then evT f 530 493 [oR 549 0, oI v3, oI v4, oI v5, oI v6] [] s else if (s.1 549 16) = cI 39 then evT f 530 503 [oR 549 0, oI v3, oI v4, oI v5, oI v6] [] s else evT f 530 520 [oR 549 0, oI v3, oI v4, oI v5, oI v6] [] s) (fun _ => rfl) ?_
  refine rg_if h (fun h => ?_) fun h => ?_
  · refine rg_step 2 (G' := fun f => ev_after (evT f 370 0 [oR 549 0, nn, nn, nn, nn, nn, nn, nn, nn] [] s) (fun q => evT f 530 208 [oR 549 0, oI v3, oI v4, oI v5, oI v6] (q.2 ++ []) q.1)) (fun _ => rfl) (rg_bd2 h fun s7 v8 hc h => rg_call (q := cvI (s7, v8)) (T_fM_doBook hc) ?_)
    exact rg_end 1 (fun _ => rfl) (by cases h; rfl)
  refine rg_if h (fun h => ?_) fun h => ?_
  · refine rg_step 7 (G' := fun f => ev_after (evT f 372 0 [oR 549 0, oI v3, oI v4, oI (cI 1), oI v5, oI v6] [] s) (fun q => evT f 530 219 [oR 549 0, oI v3, oI v4, oI v5, oI v6] (q.2 ++ []) q.1)) (fun _ => rfl) (rg_bd2 h fun s9 v10 hc h => rg_call (q := cvI (s9, v10)) (T_fM_doNote hc) ?_)
    exact rg_end 1 (fun _ => rfl) (by cases h; rfl)
  refine rg_if h (fun h => ?_) fun h => ?_
  · refine rg_step 7 (G' := fun f => ev_after (evT f 372 0 [oR 549 0, oI v3, oI v4, oI (cI 0), oI (cI 0), oI v5] [] s) (fun q => evT f 530 229 [oR 549 0, oI v3, oI v4, oI v5, oI v6] (q.2 ++ []) q.1)) (fun _ => rfl) (rg_bd2 h fun s11 v12 hc h => rg_call (q := cvI (s11, v12)) (T_fM_doNote hc) ?_)
    exact rg_end 1 (fun _ => rfl) (by cases h; rfl)
  refine rg_if h (fun h => ?_) fun h => ?_
  · refine rg_step 3 (G' := fun f => ev_after (evT f 398 0 [oR 549 0, oI v3, nn] [] s) (fun q => evT f 530 235 [oR 549 0, oI v3, oI v4, oI v5, oI v6] (q.2 ++ []) q.1)) (fun _ => rfl) (rg_bd2 h fun s13 v14 hc h => rg_call (q := cvI (s13, v14)) (T_fM_doSheet hc) ?_)
    exact rg_end 1 (fun _ => rfl) (by cases h; rfl)
  refine rg_if h (fun h => ?_) fun h => ?_
  · refine rg_step 14 (G' := fun f => ev_after (evT f 403 0 [oR 549 0, oI v3, oI v4, oI v5, oI v6, oI (s.1 553 (ix (cI 4))), oI (s.1 553 (ix (cI 5))), nn, nn] [] s) (fun q => evT f 530 257 [oR 549 0, oI v3, oI v4, oI v5, oI v6] (q.2 ++ []) q.1)) (fun _ => rfl) (rg_bd2 h fun s15 v16 hc h => rg_call (q := cvI (s15, v16)) (T_fM_doItem hc) ?_)
    exact rg_end 1 (fun _ => rfl) (by cases h; rfl)
  refine rg_if h (fun h => ?_) fun h => ?_
  · refine rg_step 4 (G' := fun f => ev_after (evT f 407 0 [oR 549 0, oI v3, oI v4] [] s) (fun q => evT f 530 264 [oR 549 0, oI v3, oI v4, oI v5, oI v6] (q.2 ++ []) q.1)) (fun _ => rfl) (rg_bd2 h fun s17 v18 hc h => rg_call (q := cvI (s17, v18)) (T_fM_doAddress hc) ?_)
    exact rg_end 1 (fun _ => rfl) (by cases h; rfl)
  refine rg_if h (fun h => ?_) fun h => ?_
  · refine rg_step 3 (G' := fun f => ev_after (evT f 409 0 [oR 549 0, oI v3] [] s) (fun q => evT f 530 270 [oR 549 0, oI v3, oI v4, oI v5, oI v6] (q.2 ++ []) q.1)) (fun _ => rfl) (rg_bd2 h fun s19 v20 hc h => rg_call (q := cvI (s19, v20)) (T_fM_doTake hc) ?_)
    exact rg_end 1 (fun _ => rfl) (by cases h; rfl)
  refine rg_if h (fun h => ?_) fun h => ?_
  · refine rg_step 5 (G' := fun f => ev_after (evT f 411 0 [oR 549 0, oI v3, oI v4, oI v5, nn, nn, nn] [] s) (fun q => evT f 530 278 [oR 549 0, oI v3, oI v4, oI v5, oI v6] (q.2 ++ []) q.1)) (fun _ => rfl) (rg_bd2 h fun s21 v22 hc h => rg_call (q := cvI (s21, v22)) (T_fM_doClerk hc) ?_)
    exact rg_end 1 (fun _ => rfl) (by cases h; rfl)
  refine rg_if h (fun h => ?_) fun h => ?_
  · refine rg_step 4 (G' := fun f => ev_after (evT f 413 0 [oR 549 0, oI v3, oI v4] [] s) (fun q => evT f 530 285 [oR 549 0, oI v3, oI v4, oI v5, oI v6] (q.2 ++ []) q.1)) (fun _ => rfl) (rg_bd2 h fun s23 v24 hc h => rg_call (q := cvI (s23, v24)) (T_fM_doPost hc) ?_)
    exact rg_end 1 (fun _ => rfl) (by cases h; rfl)
  refine rg_if h (fun h => ?_) fun h => ?_
  · refine rg_step 6 (G' := fun f => ev_after (evT f 431 0 [oR 549 0, oI v3, oI v4, oI v5, oI v6] [] s) (fun q => evT f 530 295 [oR 549 0, oI v3, oI v4, oI v5, oI v6] (q.2 ++ []) q.1)) (fun _ => rfl) (rg_bd2 h fun s25 v26 hc h => rg_call (q := cvI (s25, v26)) (T_fM_doMachine hc) ?_)
    exact rg_end 1 (fun _ => rfl) (by cases h; rfl)
  refine rg_if h (fun h => ?_) fun h => ?_
  · refine rg_step 5 (G' := fun f => ev_after (evT f 433 0 [oR 549 0, oI v3, oI v4, oI v5] [] s) (fun q => evT f 530 303 [oR 549 0, oI v3, oI v4, oI v5, oI v6] (q.2 ++ []) q.1)) (fun _ => rfl) (rg_bd2 h fun s27 v28 hc h => rg_call (q := cvI (s27, v28)) (T_fM_doRound hc) ?_)
    exact rg_end 1 (fun _ => rfl) (by cases h; rfl)
  refine rg_if h (fun h => ?_) fun h => ?_
  · refine rg_step 4 (G' := fun f => ev_after (evT f 436 0 [oR 549 0, oI v3, oI v4, nn] [] s) (fun q => evT f 530 310 [oR 549 0, oI v3, oI v4, oI v5, oI v6] (q.2 ++ []) q.1)) (fun _ => rfl) (rg_bd2 h fun s29 v30 hc h => rg_call (q := cvI (s29, v30)) (T_fM_doAssign hc) ?_)
    exact rg_end 1 (fun _ => rfl) (by cases h; rfl)
  refine rg_if h (fun h => ?_) fun h => ?_
  · refine rg_step 3 (G' := fun f => ev_after (evT f 442 0 [oR 549 0, oI v3, nn, nn] [] s) (fun q => evT f 530 316 [oR 549 0, oI v3, oI v4, oI v5, oI v6] (q.2 ++ []) q.1)) (fun _ => rfl) (rg_bd2 h fun s31 v32 hc h => rg_call (q := cvI (s31, v32)) (T_fM_doArrange hc) ?_)
    exact rg_end 1 (fun _ => rfl) (by cases h; rfl)
  refine rg_if h (fun h => ?_) fun h => ?_
  · refine rg_step 3 (G' := fun f => ev_after (evT f 449 0 [oR 549 0, oI v3, nn, nn, nn, nn] [] s) (fun q => evT f 530 322 [oR 549 0, oI v3, oI v4, oI v5, oI v6] (q.2 ++ []) q.1)) (fun _ => rfl) (rg_bd2 h fun s33 v34 hc h => rg_call (q := cvI (s33, v34)) (T_fM_doSort hc) ?_)
    exact rg_end 1 (fun _ => rfl) (by cases h; rfl)
  refine rg_if h (fun h => ?_) fun h => ?_
  · refine rg_step 3 (G' := fun f => ev_after (evT f 455 0 [oR 549 0, oI v3, nn, nn, nn] [] s) (fun q => evT f 530 328 [oR 549 0, oI v3, oI v4, oI v5, oI v6] (q.2 ++ []) q.1)) (fun _ => rfl) (rg_bd2 h fun s35 v36 hc h => rg_call (q := cvI (s35, v36)) (T_fM_doOut hc) ?_)
    exact rg_end 1 (fun _ => rfl) (by cases h; rfl)
  refine rg_if h (fun h => ?_) fun h => ?_
  · refine rg_step 10 (G' := fun f => ev_after (evT f 458 0 [oR 549 0, oI v3, oI v4, oI v5, oI v6, oI (s.1 553 (ix (cI 4)))] [] s) (fun q => evT f 530 344 [oR 549 0, oI v3, oI v4, oI v5, oI v6] (q.2 ++ []) q.1)) (fun _ => rfl) (rg_bd2 h fun s37 v38 hc h => rg_call (q := cvI (s37, v38)) (T_fM_doLeg hc) ?_)
    exact rg_end 1 (fun _ => rfl) (by cases h; rfl)
  refine rg_if h (fun h => ?_) fun h => ?_
  · refine rg_step 4 (G' := fun f => ev_after (evT f 460 0 [oR 549 0, oI v3, oI v4] [] s) (fun q => evT f 530 351 [oR 549 0, oI v3, oI v4, oI v5, oI v6] (q.2 ++ []) q.1)) (fun _ => rfl) (rg_bd2 h fun s39 v40 hc h => rg_call (q := cvI (s39, v40)) (T_fM_doLate hc) ?_)
    exact rg_end 1 (fun _ => rfl) (by cases h; rfl)
  refine rg_if h (fun h => ?_) fun h => ?_
  · refine rg_step 4 (G' := fun f => ev_after (evT f 462 0 [oR 549 0, oI v3, oI v4] [] s) (fun q => evT f 530 358 [oR 549 0, oI v3, oI v4, oI v5, oI v6] (q.2 ++ []) q.1)) (fun _ => rfl) (rg_bd2 h fun s41 v42 hc h => rg_call (q := cvI (s41, v42)) (T_fM_doBag hc) ?_)
    exact rg_end 1 (fun _ => rfl) (by cases h; rfl)
  refine rg_if h (fun h => ?_) fun h => ?_
  · refine rg_step 4 (G' := fun f => ev_after (evT f 465 0 [oR 549 0, oI v3, oI v4, nn, nn] [] s) (fun q => evT f 530 365 [oR 549 0, oI v3, oI v4, oI v5, oI v6] (q.2 ++ []) q.1)) (fun _ => rfl) (rg_bd2 h fun s43 v44 hc h => rg_call (q := cvI (s43, v44)) (T_fM_doInto hc) ?_)
    exact rg_end 1 (fun _ => rfl) (by cases h; rfl)
  refine rg_if h (fun h => ?_) fun h => ?_
  · refine rg_step 3 (G' := fun f => ev_after (evT f 467 0 [oR 549 0, oI v3] [] s) (fun q => evT f 530 371 [oR 549 0, oI v3, oI v4, oI v5, oI v6] (q.2 ++ []) q.1)) (fun _ => rfl) (rg_bd2 h fun s45 v46 hc h => rg_call (q := cvI (s45, v46)) (T_fM_doClose hc) ?_)
    exact rg_end 1 (fun _ => rfl) (by cases h; rfl)
  refine rg_if h (fun h => ?_) fun h => ?_
  · refine rg_step 3 (G' := fun f => ev_after (evT f 469 0 [oR 549 0, oI v3, nn, nn, nn, nn] [] s) (fun q => evT f 530 377 [oR 549 0, oI v3, oI v4, oI v5, oI v6] (q.2 ++ []) q.1)) (fun _ => rfl) (rg_bd2 h fun s47 v48 hc h => rg_call (q := cvI (s47, v48)) (T_fM_doOpen hc) ?_)
    exact rg_end 1 (fun _ => rfl) (by cases h; rfl)
  refine rg_if h (fun h => ?_) fun h => ?_
  · refine rg_step 7 (G' := fun f => ev_after (evT f 478 0 [oR 549 0, oI v3, oI v4, oI v5, oI v6, oI (cI 1), nn, nn] [] s) (fun q => evT f 530 388 [oR 549 0, oI v3, oI v4, oI v5, oI v6] (q.2 ++ []) q.1)) (fun _ => rfl) (rg_bd2 h fun s49 v50 hc h => rg_call (q := cvI (s49, v50)) (T_fM_handOver hc) ?_)
    exact rg_end 1 (fun _ => rfl) (by cases h; rfl)
  refine rg_if h (fun h => ?_) fun h => ?_
  · refine rg_step 3 (G' := fun f => ev_after (evT f 480 0 [oR 549 0, oI v3] [] s) (fun q => evT f 530 394 [oR 549 0, oI v3, oI v4, oI v5, oI v6] (q.2 ++ []) q.1)) (fun _ => rfl) (rg_bd2 h fun s51 v52 hc h => rg_call (q := cvI (s51, v52)) (T_fM_doMiss hc) ?_)
    exact rg_end 1 (fun _ => rfl) (by cases h; rfl)
  refine rg_if h (fun h => ?_) fun h => ?_
  · refine rg_step 3 (G' := fun f => ev_after (evT f 482 0 [oR 549 0, oI v3] [] s) (fun q => evT f 530 400 [oR 549 0, oI v3, oI v4, oI v5, oI v6] (q.2 ++ []) q.1)) (fun _ => rfl) (rg_bd2 h fun s53 v54 hc h => rg_call (q := cvI (s53, v54)) (T_fM_doRefuse hc) ?_)
    exact rg_end 1 (fun _ => rfl) (by cases h; rfl)
  refine rg_if h (fun h => ?_) fun h => ?_
  · refine rg_step 4 (G' := fun f => ev_after (evT f 485 0 [oR 549 0, oI v3, oI v4, nn, nn] [] s) (fun q => evT f 530 407 [oR 549 0, oI v3, oI v4, oI v5, oI v6] (q.2 ++ []) q.1)) (fun _ => rfl) (rg_bd2 h fun s55 v56 hc h => rg_call (q := cvI (s55, v56)) (T_fM_doPut hc) ?_)
    exact rg_end 1 (fun _ => rfl) (by cases h; rfl)
  refine rg_if h (fun h => ?_) fun h => ?_
  · refine rg_step 7 (G' := fun f => ev_after (evT f 478 0 [oR 549 0, oI v3, oI v4, oI v5, oI v6, oI (cI 0), nn, nn] [] s) (fun q => evT f 530 418 [oR 549 0, oI v3, oI v4, oI v5, oI v6] (q.2 ++ []) q.1)) (fun _ => rfl) (rg_bd2 h fun s57 v58 hc h => rg_call (q := cvI (s57, v58)) (T_fM_handOver hc) ?_)
    exact rg_end 1 (fun _ => rfl) (by cases h; rfl)
  refine rg_if h (fun h => ?_) fun h => ?_
  · refine rg_step 4 (G' := fun f => ev_after (evT f 489 0 [oR 549 0, oI v3, oI v4, nn, nn] [] s) (fun q => evT f 530 425 [oR 549 0, oI v3, oI v4, oI v5, oI v6] (q.2 ++ []) q.1)) (fun _ => rfl) (rg_bd2 h fun s59 v60 hc h => rg_call (q := cvI (s59, v60)) (T_fM_doBox hc) ?_)
    exact rg_end 1 (fun _ => rfl) (by cases h; rfl)
  refine rg_if h (fun h => ?_) fun h => ?_
  · refine rg_step 3 (G' := fun f => ev_after (evT f 491 0 [oR 549 0, oI v3] [] s) (fun q => evT f 530 431 [oR 549 0, oI v3, oI v4, oI v5, oI v6] (q.2 ++ []) q.1)) (fun _ => rfl) (rg_bd2 h fun s61 v62 hc h => rg_call (q := cvI (s61, v62)) (T_fM_doLose hc) ?_)
    exact rg_end 1 (fun _ => rfl) (by cases h; rfl)
  refine rg_if h (fun h => ?_) fun h => ?_
  · refine rg_step 3 (G' := fun f => ev_after (evT f 493 0 [oR 549 0, oI v3] [] s) (fun q => evT f 530 437 [oR 549 0, oI v3, oI v4, oI v5, oI v6] (q.2 ++ []) q.1)) (fun _ => rfl) (rg_bd2 h fun s63 v64 hc h => rg_call (q := cvI (s63, v64)) (T_fM_doAccount hc) ?_)
    exact rg_end 1 (fun _ => rfl) (by cases h; rfl)
  refine rg_if h (fun h => ?_) fun h => ?_
  · refine rg_step 4 (G' := fun f => ev_after (evT f 495 0 [oR 549 0, oI v3, oI v4] [] s) (fun q => evT f 530 444 [oR 549 0, oI v3, oI v4, oI v5, oI v6] (q.2 ++ []) q.1)) (fun _ => rfl) (rg_bd2 h fun s65 v66 hc h => rg_call (q := cvI (s65, v66)) (T_fM_doDeposit hc) ?_)
    exact rg_end 1 (fun _ => rfl) (by cases h; rfl)
  refine rg_if h (fun h => ?_) fun h => ?_
  · refine rg_step 2 (G' := fun f => ev_after (evT f 500 0 [oR 549 0, nn, nn, nn, nn] [] s) (fun q => evT f 530 449 [oR 549 0, oI v3, oI v4, oI v5, oI v6] (q.2 ++ []) q.1)) (fun _ => rfl) (rg_bd2 h fun s67 v68 hc h => rg_call (q := cvI (s67, v68)) (T_fM_doTariff hc) ?_)
    exact rg_end 1 (fun _ => rfl) (by cases h; rfl)
  refine rg_if h (fun h => ?_) fun h => ?_
  · refine rg_step 3 (G' := fun f => ev_after (evT f 503 0 [oR 549 0, oI v3, nn] [] s) (fun q => evT f 530 455 [oR 549 0, oI v3, oI v4, oI v5, oI v6] (q.2 ++ []) q.1)) (fun _ => rfl) (rg_bd2 h fun s69 v70 hc h => rg_call (q := cvI (s69, v70)) (T_fM_doFrank hc) ?_)
    exact rg_end 1 (fun _ => rfl) (by cases h; rfl)
  refine rg_if h (fun h => ?_) fun h => ?_
  · refine rg_step 5 (G' := fun f => ev_after (evT f 505 0 [oR 549 0, oI v3, oI v4, oI v5] [] s) (fun q => evT f 530 463 [oR 549 0, oI v3, oI v4, oI v5, oI v6] (q.2 ++ []) q.1)) (fun _ => rfl) (rg_bd2 h fun s71 v72 hc h => rg_call (q := cvI (s71, v72)) (T_fM_doOrder hc) ?_)
    exact rg_end 1 (fun _ => rfl) (by cases h; rfl)
  refine rg_if h (fun h => ?_) fun h => ?_
  · refine rg_step 5 (G' := fun f => ev_after (evT f 507 0 [oR 549 0, oI v3, oI v4, oI v5] [] s) (fun q => evT f 530 471 [oR 549 0, oI v3, oI v4, oI v5, oI v6] (q.2 ++ []) q.1)) (fun _ => rfl) (rg_bd2 h fun s73 v74 hc h => rg_call (q := cvI (s73, v74)) (T_fM_doPayOut hc) ?_)
    exact rg_end 1 (fun _ => rfl) (by cases h; rfl)
  refine rg_if h (fun h => ?_) fun h => ?_
  · refine rg_step 4 (G' := fun f => ev_after (evT f 510 0 [oR 549 0, oI v3, oI v4, nn] [] s) (fun q => evT f 530 478 [oR 549 0, oI v3, oI v4, oI v5, oI v6] (q.2 ++ []) q.1)) (fun _ => rfl) (rg_bd2 h fun s75 v76 hc h => rg_call (q := cvI (s75, v76)) (T_fM_doClaim hc) ?_)
    exact rg_end 1 (fun _ => rfl) (by cases h; rfl)
  refine rg_if h (fun h => ?_) fun h => ?_
  · refine rg_step 4 (G' := fun f => ev_after (evT f 512 0 [oR 549 0, oI v3, oI v4] [] s) (fun q => evT f 530 485 [oR 549 0, oI v3, oI v4, oI v5, oI v6] (q.2 ++ []) q.1)) (fun _ => rfl) (rg_bd2 h fun s77 v78 hc h => rg_call (q := cvI (s77, v78)) (T_fM_doLocker hc) ?_)
    exact rg_end 1 (fun _ => rfl) (by cases h; rfl)
  refine rg_if h (fun h => ?_) fun h => ?_
  · refine rg_step 4 (G' := fun f => ev_after (evT f 515 0 [oR 549 0, oI v3, oI v4] [] s) (fun q => evT f 530 492 [oR 549 0, oI v3, oI v4, oI v5, oI v6] (q.2 ++ []) q.1)) (fun _ => rfl) (rg_bd2 h fun s79 v80 hc h => rg_call (q := cvI (s79, v80)) (T_fM_doDevice hc) ?_)
    exact rg_end 1 (fun _ => rfl) (by cases h; rfl)
  refine rg_if h (fun h => ?_) fun h => ?_
  · refine rg_step 6 (G' := fun f => ev_after (evT f 517 0 [oR 549 0, oI v3, oI v4, oI v5, oI v6] [] s) (fun q => evT f 530 502 [oR 549 0, oI v3, oI v4, oI v5, oI v6] (q.2 ++ []) q.1)) (fun _ => rfl) (rg_bd2 h fun s81 v82 hc h => rg_call (q := cvI (s81, v82)) (T_fM_doScanned hc) ?_)
    exact rg_end 1 (fun _ => rfl) (by cases h; rfl)
  refine rg_if h (fun h => ?_) fun h => ?_
  · refine rg_step 6 (G' := fun f => if v5 = (cI 1) then evT f 530 511 [oR 549 0, oI v3, oI v4, oI v5, oI v6] [vI v4, vI v3, vR 549 0] s else evT f 530 515 [oR 549 0, oI v3, oI v4, oI v5, oI v6] [vI v4, vI v3, vR 549 0] s) (fun _ => rfl) (rg_if h (fun h => ?_) fun h => ?_)
    · exact rg_step 2 (G' := fun f => evT f 530 516 [oR 549 0, oI v3, oI v4, oI v5, oI v6] [vI (cI 1), vI v4, vI v3, vR 549 0] s) (fun _ => rfl) ((t_fM_act_b516) h)
    · exact rg_step 1 (G' := fun f => evT f 530 516 [oR 549 0, oI v3, oI v4, oI v5, oI v6] [vI (cI 0), vI v4, vI v3, vR 549 0] s) (fun _ => rfl) ((t_fM_act_b516) h)
  refine rg_step 3 (G' := fun f => ev_after (evT f 526 0 [oR 549 0, oI v3, nn, nn] [] s) (fun q => evT f 530 525 [oR 549 0, oI v3, oI v4, oI v5, oI v6] (q.2 ++ []) q.1)) (fun _ => rfl) (rg_bd2 h fun s83 v84 hc h => rg_call (q := cvI (s83, v84)) (T_fM_doTick hc) ?_)
  exact rg_end 1 (fun _ => rfl) (by cases h; rfl)
theorem ti_fM_call_h109 {k97 : ev_M → Int32 → Int32 → Int32 → Option (ev_M × Int32)} (hk97 : ∀ {s : ev_M} {x1 : Int32} {x2 : Int32} {x3 : Int32} {j4 : Option ev_V} {q : ev_M × Int32}, k97 s x1 x2 x3 = some q → RR 318 97 [oR 549 0, oI x1, oI x2, oI x3, j4] [] s (cvI q)) : ∀ (n : Nat) (s : ev_M) (x1 : Int32) (x2 : Int32) (x3 : Int32) (x4 : Int32) (q : ev_M × Int32), fM_call_h109 k97 n s x1 x2 x3 x4 = some q → RR 318 109 [oR 549 0, oI x1, oI x2, oI x3, oI x4] [] s (cvI q) := by
  intro n
  induction n with
  | zero => intro s x1 x2 x3 x4 q h; cases h
  | succ n ih =>
    have hk109 : ∀ {s : ev_M} {x1 : Int32} {x2 : Int32} {x3 : Int32} {x4 : Int32} {q : ev_M × Int32}, fM_call_h109 k97 n s x1 x2 x3 x4 = some q → RR 318 109 [oR 549 0, oI x1, oI x2, oI x3, oI x4] [] s (cvI q) := fun h => ih _ _ _ _ _ _ h
    intro s x1 x2 x3 x4 q h
    refine rg_step 2 (G' := fun f => if x4 < 0 then evT f 318 137 [oR 549 0, oI x1, oI x2, oI x3, oI x4] [] s else evT f 318 114 [oR 549 0, oI x1, oI x2, oI x3, oI x4] [] s) (fun _ => rfl) (rg_if h (fun h => ?_) fun h => ?_)
    · exact rg_step 2 (G' := fun f => evT f 318 97 [oR 549 0, oI x1, oI x2, oI (x3 + cI 1), oI x4] [] s) (fun _ => rfl) (hk97 h)
    · refine rg_step 5 (G' := fun f => if inb x3 6 = true then evT f 318 121 [oR 549 0, oI x1, oI x2, oI x3, oI x4] [vI (s.1 553 (ix x3)), vR 549 0] s else none) (fun _ => rfl) (rg_gd h fun h => ?_)
      refine rg_step 3 (G' := fun f => ev_after (evT f 317 0 [oR 549 0, oI ((s.1 553 (ix x3)) >>> (x4 &&& 31))] [] s) (fun q => evT f 318 127 [oR 549 0, oI x1, oI x2, oI x3, oI x4] (q.2 ++ []) q.1)) (fun _ => rfl) (rg_bd1 h fun s1 hc h => rg_call (q := cvV s1) (T_fM_note hc) ?_)
      refine rg_step 4 (G' := fun f => evT f 318 134 [oR 549 0, oI x1, oI x2, oI x3, oI (x4 - (cI 8))] [] s1) (fun _ => rfl) (rg_ltI (P := fun v2 => RG (fun f => evT f 318 134 [oR 549 0, oI x1, oI x2, oI x3, oI v2] [] s1) (cvI q)) h fun v2 h => ?_)
      exact rg_step 1 (G' := fun f => evT f 318 109 [oR 549 0, oI x1, oI x2, oI x3, oI v2] [] s1) (fun _ => rfl) (hk109 h)
theorem t_fM_call_h109 {k97 : ev_M → Int32 → Int32 → Int32 → Option (ev_M × Int32)} (hk97 : ∀ {s : ev_M} {x1 : Int32} {x2 : Int32} {x3 : Int32} {j4 : Option ev_V} {q : ev_M × Int32}, k97 s x1 x2 x3 = some q → RR 318 97 [oR 549 0, oI x1, oI x2, oI x3, j4] [] s (cvI q)) {n : Nat} {s : ev_M} {x1 : Int32} {x2 : Int32} {x3 : Int32} {x4 : Int32} {q : ev_M × Int32} (h : fM_call_h109 k97 n s x1 x2 x3 x4 = some q) : RR 318 109 [oR 549 0, oI x1, oI x2, oI x3, oI x4] [] s (cvI q) := ti_fM_call_h109 hk97 n s x1 x2 x3 x4 q h
theorem t_fM_call_b195 {s : ev_M} {x2 : Int32} {j1 : Option ev_V} {j3 : Option ev_V} {j4 : Option ev_V} {q : ev_M × Int32} (h : fM_call_b195 s x2 = some q) : RR 318 195 [oR 549 0, j1, oI x2, j3, j4] [] s (cvI q) := by
  refine rg_step 6 (G' := fun f => evT f 318 205 [oR 549 0, nn, oI x2, nn, nn] [] (wI s 549 10 ((s.1 549 10) + (cI 1)))) (fun _ => rfl) (rg_ltM h fun s3 h => ?_)
  exact rg_end 2 (fun _ => rfl) (by cases h; rfl)
theorem ti_fM_call_h171 : ∀ (n : Nat) (s : ev_M) (x2 : Int32) (x3 : Int32) (j1 : Option ev_V) (j4 : Option ev_V) (q : ev_M × Int32), fM_call_h171 n s x2 x3 = some q → RR 318 171 [oR 549 0, j1, oI x2, oI x3, j4] [] s (cvI q) := by
  intro n
  induction n with
  | zero => intro s x2 x3 j1 j4 q h; cases h
  | succ n ih =>
    have hk171 : ∀ {s : ev_M} {x2 : Int32} {x3 : Int32} {j1 : Option ev_V} {j4 : Option ev_V} {q : ev_M × Int32}, fM_call_h171 n s x2 x3 = some q → RR 318 171 [oR 549 0, j1, oI x2, oI x3, j4] [] s (cvI q) := fun h => ih _ _ _ _ _ _ h
    intro s x2 x3 j1 j4 q h
    refine rg_step 4 (G' := fun f => if x3 < (s.1 549 13) then evT f 318 179 [oR 549 0, nn, oI x2, oI x3, nn] [] s else evT f 318 195 [oR 549 0, nn, oI x2, oI x3, nn] [] s) (fun _ => rfl) (rg_if h (fun h => ?_) fun h => ?_)
    · refine rg_step 5 (G' := fun f => if inb x3 4096 = true then evT f 318 186 [oR 549 0, nn, oI x2, oI x3, nn] [vI (s.1 554 (ix x3)), vR 549 0] s else none) (fun _ => rfl) (rg_gd h fun h => ?_)
      refine rg_step 1 (G' := fun f => ev_after (evT f 317 0 [oR 549 0, oI (s.1 554 (ix x3))] [] s) (fun q => evT f 318 189 [oR 549 0, nn, oI x2, oI x3, nn] (q.2 ++ []) q.1)) (fun _ => rfl) (rg_bd1 h fun s4 hc h => rg_call (q := cvV s4) (T_fM_note hc) ?_)
      exact rg_step 2 (G' := fun f => evT f 318 171 [oR 549 0, nn, oI x2, oI (x3 + cI 1), nn] [] s4) (fun _ => rfl) (hk171 h)
    · exact (t_fM_call_b195) h
theorem t_fM_call_h171 {n : Nat} {s : ev_M} {x2 : Int32} {x3 : Int32} {j1 : Option ev_V} {j4 : Option ev_V} {q : ev_M × Int32} (h : fM_call_h171 n s x2 x3 = some q) : RR 318 171 [oR 549 0, j1, oI x2, oI x3, j4] [] s (cvI q) := ti_fM_call_h171 n s x2 x3 j1 j4 q h
theorem ti_fM_call_h97 : ∀ (n : Nat) (s : ev_M) (x1 : Int32) (x2 : Int32) (x3 : Int32) (j4 : Option ev_V) (q : ev_M × Int32), fM_call_h97 n s x1 x2 x3 = some q → RR 318 97 [oR 549 0, oI x1, oI x2, oI x3, j4] [] s (cvI q) := by
  intro n
  induction n with
  | zero => intro s x1 x2 x3 j4 q h; cases h
  | succ n ih =>
    have hk97 : ∀ {s : ev_M} {x1 : Int32} {x2 : Int32} {x3 : Int32} {j4 : Option ev_V} {q : ev_M × Int32}, fM_call_h97 n s x1 x2 x3 = some q → RR 318 97 [oR 549 0, oI x1, oI x2, oI x3, j4] [] s (cvI q) := fun h => ih _ _ _ _ _ _ h
    intro s x1 x2 x3 j4 q h
    refine rg_step 3 (G' := fun f => ev_after (evT f 313 0 [oI x1] [] s) (fun q => evT f 318 102 [oR 549 0, oI x1, oI x2, oI x3, nn] (q.2 ++ [vI x3]) q.1)) (fun _ => rfl) (rg_bd1 h fun v5 hc h => rg_call (q := cvP s v5) (T_fM_argumentsOf hc) ?_)
    refine rg_step 1 (G' := fun f => if x3 < v5 then evT f 318 105 [oR 549 0, oI x1, oI x2, oI x3, nn] [] s else evT f 318 143 [oR 549 0, oI x1, oI x2, oI x3, nn] [] s) (fun _ => rfl) (rg_if h (fun h => ?_) fun h => ?_)
    · exact rg_step 2 (G' := fun f => evT f 318 109 [oR 549 0, oI x1, oI x2, oI x3, oI (cI 24)] [] s) (fun _ => rfl) ((t_fM_call_h109 hk97) h)
    · refine rg_step 2 (G' := fun f => ev_after (evT f 314 0 [oI x1] [] s) (fun q => evT f 318 147 [oR 549 0, oI x1, oI x2, oI x3, nn] (q.2 ++ []) q.1)) (fun _ => rfl) (rg_bd1 h fun v6 hc h => rg_call (q := cvP s v6) (T_fM_reads hc) ?_)
      refine rg_step 1 (G' := fun f => if v6 = 0 then evT f 318 195 [oR 549 0, oI x1, oI x2, oI x3, nn] [] s else evT f 318 150 [oR 549 0, oI x1, oI x2, oI x3, nn] [] s) (fun _ => rfl) (rg_if h (fun h => ?_) fun h => ?_)
      · exact (t_fM_call_b195) h
      · refine rg_step 6 (G' := fun f => ev_after (evT f 317 0 [oR 549 0, oI ((s.1 549 13) >>> ((cI 8) &&& 31))] [] s) (fun q => evT f 318 161 [oR 549 0, oI x1, oI x2, oI x3, nn] (q.2 ++ []) q.1)) (fun _ => rfl) (rg_bd1 h fun s7 hc h => rg_call (q := cvV s7) (T_fM_note hc) ?_)
        refine rg_step 4 (G' := fun f => ev_after (evT f 317 0 [oR 549 0, oI (s7.1 549 13)] [] s7) (fun q => evT f 318 169 [oR 549 0, oI x1, oI x2, oI x3, nn] (q.2 ++ []) q.1)) (fun _ => rfl) (rg_bd1 h fun s8 hc h => rg_call (q := cvV s8) (T_fM_note hc) ?_)
        exact rg_step 2 (G' := fun f => evT f 318 171 [oR 549 0, oI x1, oI x2, oI (cI 0), nn] [] s8) (fun _ => rfl) ((t_fM_call_h171) h)
theorem t_fM_call_h97 {n : Nat} {s : ev_M} {x1 : Int32} {x2 : Int32} {x3 : Int32} {j4 : Option ev_V} {q : ev_M × Int32} (h : fM_call_h97 n s x1 x2 x3 = some q) : RR 318 97 [oR 549 0, oI x1, oI x2, oI x3, j4] [] s (cvI q) := ti_fM_call_h97 n s x1 x2 x3 j4 q h
theorem t_fM_call_b78 {s : ev_M} {x1 : Int32} {j2 : Option ev_V} {j3 : Option ev_V} {j4 : Option ev_V} {q : ev_M × Int32} (h : fM_call_b78 s x1 = some q) : RR 318 78 [oR 549 0, oI x1, j2, j3, j4] [] s (cvI q) := by
  refine rg_step 2 (G' := fun f => ev_after (evT f 530 0 [oR 549 0, nn, nn, nn, nn] [] s) (fun q => evT f 318 82 [oR 549 0, oI x1, nn, nn, nn] (q.2 ++ []) q.1)) (fun _ => rfl) (rg_bd2 h fun s9 v10 hc h => rg_call (q := cvI (s9, v10)) (T_fM_act hc) ?_)
  refine rg_step 4 (G' := fun f => if (s9.1 549 15) = 0 then evT f 318 90 [oR 549 0, oI x1, oI v10, nn, nn] [] s9 else evT f 318 205 [oR 549 0, oI x1, oI v10, nn, nn] [] s9) (fun _ => rfl) (rg_if h (fun h => ?_) fun h => ?_)
  · refine rg_step 3 (G' := fun f => ev_after (evT f 317 0 [oR 549 0, oI x1] [] s9) (fun q => evT f 318 95 [oR 549 0, oI x1, oI v10, nn, nn] (q.2 ++ []) q.1)) (fun _ => rfl) (rg_bd1 h fun s11 hc h => rg_call (q := cvV s11) (T_fM_note hc) ?_)
    exact rg_step 2 (G' := fun f => evT f 318 97 [oR 549 0, oI x1, oI v10, oI (cI 0), nn] [] s11) (fun _ => rfl) ((t_fM_call_h97) h)
  · exact rg_end 2 (fun _ => rfl) (by cases h; rfl)
theorem ti_fM_call_h52 : ∀ (n : Nat) (s : ev_M) (x1 : Int32) (x2 : Int32) (j3 : Option ev_V) (j4 : Option ev_V) (q : ev_M × Int32), fM_call_h52 n s x1 x2 = some q → RR 318 52 [oR 549 0, oI x1, oI x2, j3, j4] [] s (cvI q) := by
  intro n
  induction n with
  | zero => intro s x1 x2 j3 j4 q h; cases h
  | succ n ih =>
    have hk52 : ∀ {s : ev_M} {x1 : Int32} {x2 : Int32} {j3 : Option ev_V} {j4 : Option ev_V} {q : ev_M × Int32}, fM_call_h52 n s x1 x2 = some q → RR 318 52 [oR 549 0, oI x1, oI x2, j3, j4] [] s (cvI q) := fun h => ih _ _ _ _ _ _ h
    intro s x1 x2 j3 j4 q h
    refine rg_step 4 (G' := fun f => if x2 < (s.1 549 13) then evT f 318 60 [oR 549 0, oI x1, oI x2, nn, nn] [] s else evT f 318 78 [oR 549 0, oI x1, oI x2, nn, nn] [] s) (fun _ => rfl) (rg_if h (fun h => ?_) fun h => ?_)
    · refine rg_step 7 (G' := fun f => if inb x2 4096 = true then evT f 318 71 [oR 549 0, oI x1, oI x2, nn, nn] [vI (s.1 550 (ix x2)), vI x2, vR 554 0] s else none) (fun _ => rfl) (rg_gd h fun h => ?_)
      refine rg_step 1 (G' := fun f => if inb x2 4096 = true then evT f 318 72 [oR 549 0, oI x1, oI x2, nn, nn] [] (wI s 554 (ix x2) (i2b (s.1 550 (ix x2)))) else none) (fun _ => rfl) (rg_gd h fun h => rg_ltM h fun s12 h => ?_)
      exact rg_step 2 (G' := fun f => evT f 318 52 [oR 549 0, oI x1, oI (x2 + cI 1), nn, nn] [] s12) (fun _ => rfl) (hk52 h)
    · exact (t_fM_call_b78) h
theorem t_fM_call_h52 {n : Nat} {s : ev_M} {x1 : Int32} {x2 : Int32} {j3 : Option ev_V} {j4 : Option ev_V} {q : ev_M × Int32} (h : fM_call_h52 n s x1 x2 = some q) : RR 318 52 [oR 549 0, oI x1, oI x2, j3, j4] [] s (cvI q) := ti_fM_call_h52 n s x1 x2 j3 j4 q h
theorem T_fM_call {s : ev_M} {a1 : Int32} {q : ev_M × Int32} (h : fM_call s a1 = some q) : RR 318 0 [oR 549 0, oI a1, nn, nn, nn] [] s (cvI q) := by
  refine rg_step 3 (G' := fun f => evT f 318 5 [oR 549 0, oI a1, nn, nn, nn] [] (wI s 549 0 (cI 0))) (fun _ => rfl) (rg_ltM h fun s13 h => ?_)
  refine rg_step 3 (G' := fun f => if (s13.1 549 5) = 0 then evT f 318 15 [oR 549 0, oI a1, nn, nn, nn] [] s13 else evT f 318 12 [oR 549 0, oI a1, nn, nn, nn] [] s13) (fun _ => rfl) (rg_if h (fun h => ?_) fun h => ?_)
  · refine rg_step 3 (G' := fun f => evT f 318 20 [oR 549 0, oI a1, nn, nn, nn] [] (wI s13 549 16 a1)) (fun _ => rfl) (rg_ltM h fun s14 h => ?_)
    refine rg_step 3 (G' := fun f => evT f 318 25 [oR 549 0, oI a1, nn, nn, nn] [] (wI s14 549 14 (cI 0))) (fun _ => rfl) (rg_ltM h fun s15 h => ?_)
    refine rg_step 3 (G' := fun f => evT f 318 30 [oR 549 0, oI a1, nn, nn, nn] [] (wI s15 549 15 (cI 0))) (fun _ => rfl) (rg_ltM h fun s16 h => ?_)
    refine rg_step 2 (G' := fun f => ev_after (evT f 314 0 [oI a1] [] s16) (fun q => evT f 318 34 [oR 549 0, oI a1, nn, nn, nn] (q.2 ++ []) q.1)) (fun _ => rfl) (rg_bd1 h fun v17 hc h => rg_call (q := cvP s16 v17) (T_fM_reads hc) ?_)
    refine rg_step 1 (G' := fun f => if v17 = 0 then evT f 318 78 [oR 549 0, oI a1, nn, nn, nn] [] s16 else evT f 318 37 [oR 549 0, oI a1, nn, nn, nn] [] s16) (fun _ => rfl) (rg_if h (fun h => ?_) fun h => ?_)
    · exact (t_fM_call_b78) h
    · refine rg_step 4 (G' := fun f => evT f 318 45 [oR 549 0, oI a1, nn, nn, nn] [] (wI s16 549 13 (s16.1 549 2))) (fun _ => rfl) (rg_ltM h fun s18 h => ?_)
      refine rg_step 3 (G' := fun f => evT f 318 50 [oR 549 0, oI a1, nn, nn, nn] [] (wI s18 549 2 (cI 0))) (fun _ => rfl) (rg_ltM h fun s19 h => ?_)
      exact rg_step 2 (G' := fun f => evT f 318 52 [oR 549 0, oI a1, oI (cI 0), nn, nn] [] s19) (fun _ => rfl) ((t_fM_call_h52) h)
  · exact rg_end 2 (fun _ => rfl) (by cases h; rfl)
theorem T_fM_call1 {s : ev_M} {a1 : Int32} {a2 : Int32} {q : ev_M × Int32} (h : fM_call1 s a1 a2 = some q) : RR 319 0 [oR 549 0, oI a1, oI a2] [] s (cvI q) := by
  refine rg_step 5 (G' := fun f => evT f 319 7 [oR 549 0, oI a1, oI a2] [] (wI s 553 (ix (cI 0)) a2)) (fun _ => rfl) (rg_ltM h fun s1 h => ?_)
  refine rg_step 3 (G' := fun f => ev_after (evT f 318 0 [oR 549 0, oI a1, nn, nn, nn] [] s1) (fun q => evT f 319 12 [oR 549 0, oI a1, oI a2] (q.2 ++ []) q.1)) (fun _ => rfl) (rg_bd2 h fun s2 v3 hc h => rg_call (q := cvI (s2, v3)) (T_fM_call hc) ?_)
  exact rg_end 1 (fun _ => rfl) (by cases h; rfl)
theorem T_fM_call2 {s : ev_M} {a1 : Int32} {a2 : Int32} {a3 : Int32} {q : ev_M × Int32} (h : fM_call2 s a1 a2 a3 = some q) : RR 320 0 [oR 549 0, oI a1, oI a2, oI a3] [] s (cvI q) := by
  refine rg_step 5 (G' := fun f => evT f 320 7 [oR 549 0, oI a1, oI a2, oI a3] [] (wI s 553 (ix (cI 1)) a3)) (fun _ => rfl) (rg_ltM h fun s1 h => ?_)
  refine rg_step 4 (G' := fun f => ev_after (evT f 319 0 [oR 549 0, oI a1, oI a2] [] s1) (fun q => evT f 320 13 [oR 549 0, oI a1, oI a2, oI a3] (q.2 ++ []) q.1)) (fun _ => rfl) (rg_bd2 h fun s2 v3 hc h => rg_call (q := cvI (s2, v3)) (T_fM_call1 hc) ?_)
  exact rg_end 1 (fun _ => rfl) (by cases h; rfl)
theorem T_fM_call3 {s : ev_M} {a1 : Int32} {a2 : Int32} {a3 : Int32} {a4 : Int32} {q : ev_M × Int32} (h : fM_call3 s a1 a2 a3 a4 = some q) : RR 321 0 [oR 549 0, oI a1, oI a2, oI a3, oI a4] [] s (cvI q) := by
  refine rg_step 5 (G' := fun f => evT f 321 8 [oR 549 0, oI a1, oI a2, oI a3, oI a4] [] (wI s 553 (ix (cI 2)) a4)) (fun _ => rfl) (rg_ltM h fun s1 h => ?_)
  refine rg_step 5 (G' := fun f => ev_after (evT f 320 0 [oR 549 0, oI a1, oI a2, oI a3] [] s1) (fun q => evT f 321 15 [oR 549 0, oI a1, oI a2, oI a3, oI a4] (q.2 ++ []) q.1)) (fun _ => rfl) (rg_bd2 h fun s2 v3 hc h => rg_call (q := cvI (s2, v3)) (T_fM_call2 hc) ?_)
  exact rg_end 1 (fun _ => rfl) (by cases h; rfl)
theorem t_fM_wish_b14 {s : ev_M} {y1 : Int32} {y2 : Int32} {y3 : Int32} {y4 : Int32} {j0 : Option ev_V} {j1 : Option ev_V} {j2 : Option ev_V} {j3 : Option ev_V} {q : ev_M × Int32} (h : fM_wish_b14 s y1 y2 y3 y4 = some q) : RR 521 14 [j0, j1, j2, j3] [vI y4, vI y3, vI y2, vI y1, vR 549 0] s (cvI q) := by
  refine rg_step 1 (G' := fun f => ev_after (evT f 321 0 [oR 549 0, oI y1, oI y2, oI y3, oI y4] [] s) (fun q => evT f 521 17 [nn, nn, nn, nn] (q.2 ++ []) q.1)) (fun _ => rfl) (rg_bd2 h fun s1 v2 hc h => rg_call (q := cvI (s1, v2)) (T_fM_call3 hc) ?_)
  exact rg_end 1 (fun _ => rfl) (by cases h; rfl)
theorem T_fM_wish {s : ev_M} {a1 : Int32} {a2 : Int32} {a3 : Int32} {q : ev_M × Int32} (h : fM_wish s a1 a2 a3 = some q) : RR 521 0 [oR 549 0, oI a1, oI a2, oI a3] [] s (cvI q) := by
  refine rg_step 6 (G' := fun f => if a3 = 0 then evT f 521 13 [oR 549 0, oI a1, oI a2, oI a3] [vI a2, vI a1, vI (cI 39), vR 549 0] s else evT f 521 9 [oR 549 0, oI a1, oI a2, oI a3] [vI a2, vI a1, vI (cI 39), vR 549 0] s) (fun _ => rfl) (rg_if h (fun h => ?_) fun h => ?_)
  · exact rg_step 1 (G' := fun f => evT f 521 14 [oR 549 0, oI a1, oI a2, oI a3] [vI (cI 0), vI a2, vI a1, vI (cI 39), vR 549 0] s) (fun _ => rfl) ((t_fM_wish_b14) h)
  · exact rg_step 2 (G' := fun f => evT f 521 14 [oR 549 0, oI a1, oI a2, oI a3] [vI (cI 1), vI a2, vI a1, vI (cI 39), vR 549 0] s) (fun _ => rfl) ((t_fM_wish_b14) h)
theorem T_fLog_stages {s : ev_M} {a1 : Int32} {a2 : Int32} {a3 : Int32} {a4 : Int32} {a5 : Int32} {a6 : Int32} {a7 : Int32} {q : ev_M × Int32} (h : fLog_stages s a1 a2 a3 a4 a5 a6 a7 = some q) : RR 122 0 [oR 9 0, oI a1, oI a2, oI a3, oI a4, oI a5, oI a6, oI a7] [] s (cvI q) := by
  refine rg_step 3 (G' := fun f => evT f 122 5 [oR 9 0, oI a1, oI a2, oI a3, oI a4, oI a5, oI a6, oI a7] [] (wI s 9 14 a1)) (fun _ => rfl) (rg_ltM h fun s1 h => ?_)
  refine rg_step 5 (G' := fun f => evT f 122 12 [oR 9 0, oI a1, oI a2, oI a3, oI a4, oI a5, oI a6, oI a7] [] (wI s1 14 (ix (cI 0)) a2)) (fun _ => rfl) (rg_ltM h fun s2 h => ?_)
  refine rg_step 5 (G' := fun f => evT f 122 19 [oR 9 0, oI a1, oI a2, oI a3, oI a4, oI a5, oI a6, oI a7] [] (wI s2 14 (ix (cI 1)) a3)) (fun _ => rfl) (rg_ltM h fun s3 h => ?_)
  refine rg_step 5 (G' := fun f => evT f 122 27 [oR 9 0, oI a1, oI a2, oI a3, oI a4, oI a5, oI a6, oI a7] [] (wI s3 14 (ix (cI 2)) a4)) (fun _ => rfl) (rg_ltM h fun s4 h => ?_)
  refine rg_step 5 (G' := fun f => evT f 122 35 [oR 9 0, oI a1, oI a2, oI a3, oI a4, oI a5, oI a6, oI a7] [] (wI s4 14 (ix (cI 3)) a5)) (fun _ => rfl) (rg_ltM h fun s5 h => ?_)
  refine rg_step 5 (G' := fun f => evT f 122 43 [oR 9 0, oI a1, oI a2, oI a3, oI a4, oI a5, oI a6, oI a7] [] (wI s5 14 (ix (cI 4)) a6)) (fun _ => rfl) (rg_ltM h fun s6 h => ?_)
  refine rg_step 5 (G' := fun f => evT f 122 51 [oR 9 0, oI a1, oI a2, oI a3, oI a4, oI a5, oI a6, oI a7] [] (wI s6 14 (ix (cI 5)) a7)) (fun _ => rfl) (rg_ltM h fun s7 h => ?_)
  refine rg_step 3 (G' := fun f => if (s7.1 9 9) = 0 then evT f 122 58 [oR 9 0, oI a1, oI a2, oI a3, oI a4, oI a5, oI a6, oI a7] [] s7 else evT f 122 62 [oR 9 0, oI a1, oI a2, oI a3, oI a4, oI a5, oI a6, oI a7] [] s7) (fun _ => rfl) (rg_if h (fun h => ?_) fun h => ?_)
  · exact rg_end 3 (fun _ => rfl) (by cases h; rfl)
  · exact rg_end 2 (fun _ => rfl) (by cases h; rfl)
theorem T_fLog_blocksFor {s : ev_M} {a0 : Int32} {q : Int32} (h : fLog_blocksFor s a0 = some q) : RR 127 0 [oI a0] [] s (cvP s q) := by
  refine rg_step 7 (G' := fun f => if (cI 248) = 0 then none else evT f 127 11 [oI a0] [vI (((a0 + (cI 248)) - (cI 1)) / (cI 248))] s) (fun _ => rfl) (rg_dv h fun h => ?_)
  exact rg_end 1 (fun _ => rfl) (by cases h; rfl)
theorem T_fLog_append {s : ev_M} {a1 : Int32} {q : ev_M} (h : fLog_append s a1 = some q) : RR 125 0 [oR 9 0, oI a1] [] s (cvV q) := by
  refine rg_step 6 (G' := fun f => if (s.1 9 6) < (cI 37200) then evT f 125 12 [oR 9 0, oI a1] [] s else evT f 125 30 [oR 9 0, oI a1] [] s) (fun _ => rfl) (rg_if h (fun h => ?_) fun h => ?_)
  · refine rg_step 9 (G' := fun f => evT f 125 27 [oR 9 0, oI a1] [vI (s.1 9 6), vR 13 0] (wI s 9 6 ((s.1 9 6) + (cI 1)))) (fun _ => rfl) (rg_ltM h fun s1 h => ?_)
    refine rg_step 3 (G' := fun f => if inb (s.1 9 6) 37200 = true then evT f 125 30 [oR 9 0, oI a1] [] (wI s1 13 (ix (s.1 9 6)) (i2b (i2b a1))) else none) (fun _ => rfl) (rg_gd h fun h => rg_ltM h fun s2 h => ?_)
    exact rg_end 1 (fun _ => rfl) (by cases h; rfl)
  · exact rg_end 1 (fun _ => rfl) (by cases h; rfl)
theorem t_fLog_readsTape_b16 {s : ev_M} {j0 : Option ev_V} {q : Int32} (h : fLog_readsTape_b16 s = some q) : RR 126 16 [j0] [] s (cvP s q) := by
  exact rg_end 3 (fun _ => rfl) (by cases h; rfl)
theorem T_fLog_readsTape {s : ev_M} {a0 : Int32} {q : Int32} (h : fLog_readsTape s a0 = some q) : RR 126 0 [oI a0] [] s (cvP s q) := by
  refine rg_step 3 (G' := fun f => if a0 = (cI 1) then evT f 126 16 [oI a0] [] s else evT f 126 5 [oI a0] [] s) (fun _ => rfl) (rg_if h (fun h => ?_) fun h => ?_)
  · exact (t_fLog_readsTape_b16) h
  · refine rg_step 3 (G' := fun f => if a0 = (cI 4) then evT f 126 16 [oI a0] [] s else evT f 126 10 [oI a0] [] s) (fun _ => rfl) (rg_if h (fun h => ?_) fun h => ?_)
    · exact (t_fLog_readsTape_b16) h
    · refine rg_step 3 (G' := fun f => if a0 = (cI 31) then evT f 126 16 [oI a0] [] s else evT f 126 20 [oI a0] [] s) (fun _ => rfl) (rg_if h (fun h => ?_) fun h => ?_)
      · exact (t_fLog_readsTape_b16) h
      · exact rg_end 2 (fun _ => rfl) (by cases h; rfl)
theorem ti_fLog_appendRecord_h25 {k10 : ev_M → Int32 → Option ev_M} (hk10 : ∀ {s : ev_M} {x1 : Int32} {j2 : Option ev_V} {q : ev_M}, k10 s x1 = some q → RR 124 10 [oR 9 0, oI x1, j2] [] s (cvV q)) : ∀ (n : Nat) (s : ev_M) (x1 : Int32) (x2 : Int32) (q : ev_M), fLog_appendRecord_h25 k10 n s x1 x2 = some q → RR 124 25 [oR 9 0, oI x1, oI x2] [] s (cvV q) := by
  intro n
  induction n with
  | zero => intro s x1 x2 q h; cases h
  | succ n ih =>
    have hk25 : ∀ {s : ev_M} {x1 : Int32} {x2 : Int32} {q : ev_M}, fLog_appendRecord_h25 k10 n s x1 x2 = some q → RR 124 25 [oR 9 0, oI x1, oI x2] [] s (cvV q) := fun h => ih _ _ _ _ h
    intro s x1 x2 q h
    refine rg_step 2 (G' := fun f => if x2 < 0 then evT f 124 47 [oR 9 0, oI x1, oI x2] [] s else evT f 124 29 [oR 9 0, oI x1, oI x2] [] s) (fun _ => rfl) (rg_if h (fun h => ?_) fun h => ?_)
    · exact rg_step 2 (G' := fun f => evT f 124 10 [oR 9 0, oI (x1 + cI 1), oI x2] [] s) (fun _ => rfl) (hk10 h)
    · refine rg_step 5 (G' := fun f => if inb x1 6 = true then evT f 124 36 [oR 9 0, oI x1, oI x2] [vI (s.1 14 (ix x1)), vR 9 0] s else none) (fun _ => rfl) (rg_gd h fun h => ?_)
      refine rg_step 3 (G' := fun f => ev_after (evT f 125 0 [oR 9 0, oI ((s.1 14 (ix x1)) >>> (x2 &&& 31))] [] s) (fun q => evT f 124 41 [oR 9 0, oI x1, oI x2] (q.2 ++ []) q.1)) (fun _ => rfl) (rg_bd1 h fun s1 hc h => rg_call (q := cvV s1) (T_fLog_append hc) ?_)
      exact rg_step 2 (G' := fun f => evT f 124 25 [oR 9 0, oI x1, oI (x2 + cI (-8))] [] s1) (fun f => Eq.trans (b := evT (f + 1 + 1) 124 41 [oR 9 0, oI x1, oI x2] [] s1) rfl ((ev_inc (f := f + 1) (M := 124) (pc := 41) (i := 2) (n := 3) (c := (-8)) (r := 0) (dl := []) (L := [oR 9 0, oI x1, oI x2]) (L' := [oR 9 0, oI x1, oI (x2 + cI (-8))]) (s := s1) (y := x2) rfl rfl rfl).trans rfl)) (hk25 h)
theorem t_fLog_appendRecord_h25 {k10 : ev_M → Int32 → Option ev_M} (hk10 : ∀ {s : ev_M} {x1 : Int32} {j2 : Option ev_V} {q : ev_M}, k10 s x1 = some q → RR 124 10 [oR 9 0, oI x1, j2] [] s (cvV q)) {n : Nat} {s : ev_M} {x1 : Int32} {x2 : Int32} {q : ev_M} (h : fLog_appendRecord_h25 k10 n s x1 x2 = some q) : RR 124 25 [oR 9 0, oI x1, oI x2] [] s (cvV q) := ti_fLog_appendRecord_h25 hk10 n s x1 x2 q h
theorem ti_fLog_appendRecord_h91 : ∀ (n : Nat) (s : ev_M) (x1 : Int32) (j2 : Option ev_V) (q : ev_M), fLog_appendRecord_h91 n s x1 = some q → RR 124 91 [oR 9 0, oI x1, j2] [] s (cvV q) := by
  intro n
  induction n with
  | zero => intro s x1 j2 q h; cases h
  | succ n ih =>
    have hk91 : ∀ {s : ev_M} {x1 : Int32} {j2 : Option ev_V} {q : ev_M}, fLog_appendRecord_h91 n s x1 = some q → RR 124 91 [oR 9 0, oI x1, j2] [] s (cvV q) := fun h => ih _ _ _ _ h
    intro s x1 j2 q h
    refine rg_step 5 (G' := fun f => if x1 < (s.1 1 1) then evT f 124 102 [oR 9 0, oI x1, nn] [] s else evT f 124 121 [oR 9 0, oI x1, nn] [] s) (fun _ => rfl) (rg_if h (fun h => ?_) fun h => ?_)
    · refine rg_step 6 (G' := fun f => if inb x1 4096 = true then evT f 124 112 [oR 9 0, oI x1, nn] [vI (s.1 2 (ix x1)), vR 9 0] s else none) (fun _ => rfl) (rg_gd h fun h => ?_)
      refine rg_step 1 (G' := fun f => ev_after (evT f 125 0 [oR 9 0, oI (s.1 2 (ix x1))] [] s) (fun q => evT f 124 115 [oR 9 0, oI x1, nn] (q.2 ++ []) q.1)) (fun _ => rfl) (rg_bd1 h fun s2 hc h => rg_call (q := cvV s2) (T_fLog_append hc) ?_)
      exact rg_step 2 (G' := fun f => evT f 124 91 [oR 9 0, oI (x1 + cI 1), nn] [] s2) (fun _ => rfl) (hk91 h)
    · exact rg_end 1 (fun _ => rfl) (by cases h; rfl)
theorem t_fLog_appendRecord_h91 {n : Nat} {s : ev_M} {x1 : Int32} {j2 : Option ev_V} {q : ev_M} (h : fLog_appendRecord_h91 n s x1 = some q) : RR 124 91 [oR 9 0, oI x1, j2] [] s (cvV q) := ti_fLog_appendRecord_h91 n s x1 j2 q h
theorem ti_fLog_appendRecord_h10 : ∀ (n : Nat) (s : ev_M) (x1 : Int32) (j2 : Option ev_V) (q : ev_M), fLog_appendRecord_h10 n s x1 = some q → RR 124 10 [oR 9 0, oI x1, j2] [] s (cvV q) := by
  intro n
  induction n with
  | zero => intro s x1 j2 q h; cases h
  | succ n ih =>
    have hk10 : ∀ {s : ev_M} {x1 : Int32} {j2 : Option ev_V} {q : ev_M}, fLog_appendRecord_h10 n s x1 = some q → RR 124 10 [oR 9 0, oI x1, j2] [] s (cvV q) := fun h => ih _ _ _ _ h
    intro s x1 j2 q h
    refine rg_step 5 (G' := fun f => if inb (s.1 9 14) 41 = true then evT f 124 19 [oR 9 0, oI x1, nn] [vI (s.1 1003 (ix (s.1 9 14))), vI x1] s else none) (fun _ => rfl) (rg_gd h fun h => ?_)
    refine rg_step 1 (G' := fun f => if x1 < (s.1 1003 (ix (s.1 9 14))) then evT f 124 22 [oR 9 0, oI x1, nn] [] s else evT f 124 53 [oR 9 0, oI x1, nn] [] s) (fun _ => rfl) (rg_if h (fun h => ?_) fun h => ?_)
    · exact rg_step 2 (G' := fun f => evT f 124 25 [oR 9 0, oI x1, oI (cI 24)] [] s) (fun _ => rfl) ((t_fLog_appendRecord_h25 hk10) h)
    · refine rg_step 3 (G' := fun f => ev_after (evT f 126 0 [oI (s.1 9 14)] [] s) (fun q => evT f 124 60 [oR 9 0, oI x1, nn] (q.2 ++ []) q.1)) (fun _ => rfl) (rg_bd1 h fun v3 hc h => rg_call (q := cvP s v3) (T_fLog_readsTape hc) ?_)
      refine rg_step 1 (G' := fun f => if v3 = 0 then evT f 124 63 [oR 9 0, oI x1, nn] [] s else evT f 124 64 [oR 9 0, oI x1, nn] [] s) (fun _ => rfl) (rg_if h (fun h => ?_) fun h => ?_)
      · exact rg_end 1 (fun _ => rfl) (by cases h; rfl)
      · refine rg_step 7 (G' := fun f => ev_after (evT f 125 0 [oR 9 0, oI ((s.1 1 1) >>> ((cI 8) &&& 31))] [] s) (fun q => evT f 124 78 [oR 9 0, oI x1, nn] (q.2 ++ []) q.1)) (fun _ => rfl) (rg_bd1 h fun s4 hc h => rg_call (q := cvV s4) (T_fLog_append hc) ?_)
        refine rg_step 5 (G' := fun f => ev_after (evT f 125 0 [oR 9 0, oI (s4.1 1 1)] [] s4) (fun q => evT f 124 89 [oR 9 0, oI x1, nn] (q.2 ++ []) q.1)) (fun _ => rfl) (rg_bd1 h fun s5 hc h => rg_call (q := cvV s5) (T_fLog_append hc) ?_)
        exact rg_step 2 (G' := fun f => evT f 124 91 [oR 9 0, oI (cI 0), nn] [] s5) (fun _ => rfl) ((t_fLog_appendRecord_h91) h)
theorem t_fLog_appendRecord_h10 {n : Nat} {s : ev_M} {x1 : Int32} {j2 : Option ev_V} {q : ev_M} (h : fLog_appendRecord_h10 n s x1 = some q) : RR 124 10 [oR 9 0, oI x1, j2] [] s (cvV q) := ti_fLog_appendRecord_h10 n s x1 j2 q h
theorem T_fLog_appendRecord {s : ev_M} {q : ev_M} (h : fLog_appendRecord s = some q) : RR 124 0 [oR 9 0, nn, nn] [] s (cvV q) := by
  refine rg_step 4 (G' := fun f => ev_after (evT f 125 0 [oR 9 0, oI (s.1 9 14)] [] s) (fun q => evT f 124 8 [oR 9 0, nn, nn] (q.2 ++ []) q.1)) (fun _ => rfl) (rg_bd1 h fun s6 hc h => rg_call (q := cvV s6) (T_fLog_append hc) ?_)
  exact rg_step 2 (G' := fun f => evT f 124 10 [oR 9 0, oI (cI 0), nn] [] s6) (fun _ => rfl) ((t_fLog_appendRecord_h10) h)
theorem t_fLog_admits_b69 {s : ev_M} {y0 : Int32} {y1 : Int32} {j1 : Option ev_V} {q : ev_M × Int32} (h : fLog_admits_b69 s y0 y1 = some q) : RR 123 69 [oR 9 0, j1] [vI y1, vI y0] s (cvI q) := by
  refine rg_step 2 (G' := fun f => evT f 123 71 [oR 9 0, oI (y0 + y1)] [] s) (fun _ => rfl) (rg_ltI (P := fun v1 => RG (fun f => evT f 123 71 [oR 9 0, oI v1] [] s) (cvI q)) h fun v1 h => ?_)
  refine rg_step 5 (G' := fun f => ev_after (evT f 127 0 [oI ((s.1 9 6) + v1)] [] s) (fun q => evT f 123 80 [oR 9 0, oI v1] (q.2 ++ []) q.1)) (fun _ => rfl) (rg_bd1 h fun v2 hc h => rg_call (q := cvP s v2) (T_fLog_blocksFor hc) ?_)
  refine rg_step 5 (G' := fun f => if v2 ≤ ((cI 150) - (s.1 9 4)) then evT f 123 93 [oR 9 0, oI v1] [] s else evT f 123 91 [oR 9 0, oI v1] [] s) (fun _ => rfl) (rg_if h (fun h => ?_) fun h => ?_)
  · refine rg_step 2 (G' := fun f => ev_after (evT f 124 0 [oR 9 0, nn, nn] [] s) (fun q => evT f 123 97 [oR 9 0, oI v1] (q.2 ++ []) q.1)) (fun _ => rfl) (rg_bd1 h fun s3 hc h => rg_call (q := cvV s3) (T_fLog_appendRecord hc) ?_)
    refine rg_step 6 (G' := fun f => evT f 123 107 [oR 9 0, oI v1] [] (wI s3 9 7 ((s3.1 9 7) + (cI 1)))) (fun _ => rfl) (rg_ltM h fun s4 h => ?_)
    exact rg_end 2 (fun _ => rfl) (by cases h; rfl)
  · exact rg_end 2 (fun _ => rfl) (by cases h; rfl)
theorem T_fLog_admits {s : ev_M} {q : ev_M × Int32} (h : fLog_admits s = some q) : RR 123 0 [oR 9 0, nn] [] s (cvI q) := by
  refine rg_step 3 (G' := fun f => if (s.1 9 12) = 0 then evT f 123 19 [oR 9 0, nn] [] s else evT f 123 7 [oR 9 0, nn] [] s) (fun _ => rfl) (rg_if h (fun h => ?_) fun h => ?_)
  · refine rg_step 5 (G' := fun f => ev_after (evT f 308 0 [oI (s.1 9 14), oI (cI 1), oI (cI 40)] [] s) (fun q => evT f 123 29 [oR 9 0, nn] (q.2 ++ []) q.1)) (fun _ => rfl) (rg_bd1 h fun v5 hc h => rg_call (q := cvP s v5) (T_fPH_outside hc) ?_)
    refine rg_step 1 (G' := fun f => if v5 = 0 then evT f 123 34 [oR 9 0, nn] [] s else evT f 123 32 [oR 9 0, nn] [] s) (fun _ => rfl) (rg_if h (fun h => ?_) fun h => ?_)
    · refine rg_step 6 (G' := fun f => if inb (s.1 9 14) 41 = true then evT f 123 44 [oR 9 0, nn] [vI (s.1 1003 (ix (s.1 9 14))), vI (cI 4), vI (cI 1)] s else none) (fun _ => rfl) (rg_gd h fun h => ?_)
      refine rg_step 5 (G' := fun f => ev_after (evT f 126 0 [oI (s.1 9 14)] [] s) (fun q => evT f 123 53 [oR 9 0, nn] (q.2 ++ [vI ((cI 1) + ((cI 4) * (s.1 1003 (ix (s.1 9 14)))))]) q.1)) (fun _ => rfl) (rg_bd1 h fun v6 hc h => rg_call (q := cvP s v6) (T_fLog_readsTape hc) ?_)
      refine rg_step 1 (G' := fun f => if v6 = 0 then evT f 123 68 [oR 9 0, nn] [vI ((cI 1) + ((cI 4) * (s.1 1003 (ix (s.1 9 14)))))] s else evT f 123 56 [oR 9 0, nn] [vI ((cI 1) + ((cI 4) * (s.1 1003 (ix (s.1 9 14)))))] s) (fun _ => rfl) (rg_if h (fun h => ?_) fun h => ?_)
      · exact rg_step 1 (G' := fun f => evT f 123 69 [oR 9 0, nn] [vI (cI 0), vI ((cI 1) + ((cI 4) * (s.1 1003 (ix (s.1 9 14)))))] s) (fun _ => rfl) ((t_fLog_admits_b69) h)
      · exact rg_step 6 (G' := fun f => evT f 123 69 [oR 9 0, nn] [vI ((cI 2) + (s.1 1 1)), vI ((cI 1) + ((cI 4) * (s.1 1003 (ix (s.1 9 14)))))] s) (fun _ => rfl) ((t_fLog_admits_b69) h)
    · exact rg_end 2 (fun _ => rfl) (by cases h; rfl)
  · refine rg_step 6 (G' := fun f => evT f 123 17 [oR 9 0, nn] [] (wI s 9 13 ((s.1 9 13) + (cI 1)))) (fun _ => rfl) (rg_ltM h fun s7 h => ?_)
    exact rg_end 2 (fun _ => rfl) (by cases h; rfl)
theorem t_fChron_setWish_b60 {s : ev_M} {x1 : Int32} {x4 : Int32} {y1 : Int32} {y2 : Int32} {j2 : Option ev_V} {j3 : Option ev_V} {q : ev_M × Int32} (h : fChron_setWish_b60 s x1 x4 y1 y2 = some q) : RR 46 60 [oR 15 0, oI x1, j2, j3, oI x4] [vI y2, vI y1, vR 28 0] s (cvI q) := by
  refine rg_step 1 (G' := fun f => if inb y1 34 = true then evT f 46 61 [oR 15 0, oI x1, nn, nn, oI x4] [] (wI s 28 (ix y1) y2) else none) (fun _ => rfl) (rg_gd h fun h => rg_ltM h fun s1 h => ?_)
  refine rg_step 4 (G' := fun f => if inb x1 34 = true then evT f 46 67 [oR 15 0, oI x1, nn, nn, oI x4] [vI (s1.1 28 (ix x1))] s1 else none) (fun _ => rfl) (rg_gd h fun h => ?_)
  refine rg_step 2 (G' := fun f => if (s1.1 28 (ix x1)) = x4 then evT f 46 72 [oR 15 0, oI x1, nn, nn, oI x4] [] s1 else evT f 46 76 [oR 15 0, oI x1, nn, nn, oI x4] [] s1) (fun _ => rfl) (rg_if h (fun h => ?_) fun h => ?_)
  · exact rg_end 3 (fun _ => rfl) (by cases h; rfl)
  · exact rg_end 2 (fun _ => rfl) (by cases h; rfl)
theorem T_fChron_setWish {s : ev_M} {a1 : Int32} {a2 : Int32} {a3 : Int32} {q : ev_M × Int32} (h : fChron_setWish s a1 a2 a3 = some q) : RR 46 0 [oR 15 0, oI a1, oI a2, oI a3, nn] [] s (cvI q) := by
  refine rg_step 4 (G' := fun f => ev_after (evT f 308 0 [oI a2, oI (cI 0), oI (cI 8)] [] s) (fun q => evT f 46 7 [oR 15 0, oI a1, oI a2, oI a3, nn] (q.2 ++ []) q.1)) (fun _ => rfl) (rg_bd1 h fun v2 hc h => rg_call (q := cvP s v2) (T_fPH_outside hc) ?_)
  refine rg_step 1 (G' := fun f => if v2 = 0 then evT f 46 13 [oR 15 0, oI a1, oI a2, oI a3, nn] [] s else evT f 46 10 [oR 15 0, oI a1, oI a2, oI a3, nn] [] s) (fun _ => rfl) (rg_if h (fun h => ?_) fun h => ?_)
  · refine rg_step 3 (G' := fun f => ev_after (evT f 123 0 [oR 9 0, nn] [] s) (fun q => evT f 46 20 [oR 15 0, oI a1, oI a2, oI a3, nn] (q.2 ++ []) q.1)) (fun _ => rfl) (rg_bd2 h fun s3 v4 hc h => rg_call (q := cvI (s3, v4)) (T_fLog_admits hc) ?_)
    refine rg_step 1 (G' := fun f => if v4 = 0 then evT f 46 23 [oR 15 0, oI a1, oI a2, oI a3, nn] [] s3 else evT f 46 26 [oR 15 0, oI a1, oI a2, oI a3, nn] [] s3) (fun _ => rfl) (rg_if h (fun h => ?_) fun h => ?_)
    · exact rg_end 2 (fun _ => rfl) (by cases h; rfl)
    · refine rg_step 4 (G' := fun f => if inb a1 34 = true then evT f 46 32 [oR 15 0, oI a1, oI a2, oI a3, nn] [vI (s3.1 28 (ix a1))] s3 else none) (fun _ => rfl) (rg_gd h fun h => ?_)
      refine rg_step 1 (G' := fun f => evT f 46 34 [oR 15 0, oI a1, oI a2, oI a3, oI (s3.1 28 (ix a1))] [] s3) (fun _ => rfl) (rg_ltI (P := fun v5 => RG (fun f => evT f 46 34 [oR 15 0, oI a1, oI a2, oI a3, oI v5] [] s3) (cvI q)) h fun v5 h => ?_)
      refine rg_step 5 (G' := fun f => if a3 = 0 then evT f 46 52 [oR 15 0, oI a1, oI a2, oI a3, oI v5] [vI a1, vR 28 0] s3 else evT f 46 43 [oR 15 0, oI a1, oI a2, oI a3, oI v5] [vI a1, vR 28 0] s3) (fun _ => rfl) (rg_if h (fun h => ?_) fun h => ?_)
      · exact rg_step 7 (G' := fun f => evT f 46 60 [oR 15 0, oI a1, oI a2, oI a3, oI v5] [vI (v5 &&& (((cI 1) <<< (a2 &&& 31)) ^^^ (cI (-1)))), vI a1, vR 28 0] s3) (fun _ => rfl) ((t_fChron_setWish_b60) h)
      · exact rg_step 6 (G' := fun f => evT f 46 60 [oR 15 0, oI a1, oI a2, oI a3, oI v5] [vI (v5 ||| ((cI 1) <<< (a2 &&& 31))), vI a1, vR 28 0] s3) (fun _ => rfl) ((t_fChron_setWish_b60) h)
  · exact rg_end 2 (fun _ => rfl) (by cases h; rfl)
theorem T_fTape_byteAt_1 {s : ev_M} {a1 : Int32} {q : Int32} (h : fTape_byteAt_1 s a1 = some q) : RR 224 0 [oR 1 0, oI a1] [] s (cvP s q) := by
  refine rg_step 2 (G' := fun f => if a1 < 0 then evT f 224 25 [oR 1 0, oI a1] [] s else evT f 224 4 [oR 1 0, oI a1] [] s) (fun _ => rfl) (rg_if h (fun h => ?_) fun h => ?_)
  · exact rg_end 2 (fun _ => rfl) (by cases h; rfl)
  · refine rg_step 4 (G' := fun f => if a1 < (s.1 1 1) then evT f 224 12 [oR 1 0, oI a1] [] s else evT f 224 25 [oR 1 0, oI a1] [] s) (fun _ => rfl) (rg_if h (fun h => ?_) fun h => ?_)
    · refine rg_step 4 (G' := fun f => if inb a1 4096 = true then evT f 224 18 [oR 1 0, oI a1] [vI (s.1 2 (ix a1))] s else none) (fun _ => rfl) (rg_gd h fun h => ?_)
      exact rg_end 4 (fun _ => rfl) (by cases h; rfl)
    · exact rg_end 2 (fun _ => rfl) (by cases h; rfl)
theorem t_fTape_readsNumber_1_b69 {s : ev_M} {x1 : Int32} {x2 : Int32} {q : ev_M × Int32} (h : fTape_readsNumber_1_b69 s x1 x2 = some q) : RR 228 69 [oR 1 0, oI x1, oI x2] [] s (cvI q) := by
  refine rg_step 2 (G' := fun f => if x2 = 0 then evT f 228 85 [oR 1 0, oI x1, oI x2] [] s else evT f 228 73 [oR 1 0, oI x1, oI x2] [] s) (fun _ => rfl) (rg_if h (fun h => ?_) fun h => ?_)
  · exact rg_end 2 (fun _ => rfl) (by cases h; rfl)
  · refine rg_step 6 (G' := fun f => if (s.1 1 4) < (cI 4) then evT f 228 87 [oR 1 0, oI x1, oI x2] [] s else evT f 228 85 [oR 1 0, oI x1, oI x2] [] s) (fun _ => rfl) (rg_if h (fun h => ?_) fun h => ?_)
    · refine rg_step 9 (G' := fun f => evT f 228 102 [oR 1 0, oI x1, oI x2] [vI (s.1 1 4), vR 3 0] (wI s 1 4 ((s.1 1 4) + (cI 1)))) (fun _ => rfl) (rg_ltM h fun s1 h => ?_)
      refine rg_step 2 (G' := fun f => if inb (s.1 1 4) 4 = true then evT f 228 104 [oR 1 0, oI x1, oI x2] [] (wI s1 3 (ix (s.1 1 4)) x1) else none) (fun _ => rfl) (rg_gd h fun h => rg_ltM h fun s2 h => ?_)
      exact rg_end 2 (fun _ => rfl) (by cases h; rfl)
    · exact rg_end 2 (fun _ => rfl) (by cases h; rfl)
theorem ti_fTape_readsNumber_1_h4 : ∀ (n : Nat) (s : ev_M) (x1 : Int32) (x2 : Int32) (q : ev_M × Int32), fTape_readsNumber_1_h4 n s x1 x2 = some q → RR 228 4 [oR 1 0, oI x1, oI x2] [] s (cvI q) := by
  intro n
  induction n with
  | zero => intro s x1 x2 q h; cases h
  | succ n ih =>
    have hk4 : ∀ {s : ev_M} {x1 : Int32} {x2 : Int32} {q : ev_M × Int32}, fTape_readsNumber_1_h4 n s x1 x2 = some q → RR 228 4 [oR 1 0, oI x1, oI x2] [] s (cvI q) := fun h => ih _ _ _ _ h
    intro s x1 x2 q h
    refine rg_step 3 (G' := fun f => if x2 < (cI 6) then evT f 228 10 [oR 1 0, oI x1, oI x2] [] s else evT f 228 69 [oR 1 0, oI x1, oI x2] [] s) (fun _ => rfl) (rg_if h (fun h => ?_) fun h => ?_)
    · refine rg_step 4 (G' := fun f => ev_after (evT f 224 0 [oR 1 0, oI (s.1 1 2)] [] s) (fun q => evT f 228 18 [oR 1 0, oI x1, oI x2] (q.2 ++ []) q.1)) (fun _ => rfl) (rg_bd1 h fun v3 hc h => rg_call (q := cvP s v3) (T_fTape_byteAt_1 hc) ?_)
      refine rg_step 2 (G' := fun f => if v3 < (cI 48) then evT f 228 69 [oR 1 0, oI x1, oI x2] [] s else evT f 228 23 [oR 1 0, oI x1, oI x2] [] s) (fun _ => rfl) (rg_if h (fun h => ?_) fun h => ?_)
      · exact (t_fTape_readsNumber_1_b69) h
      · refine rg_step 4 (G' := fun f => ev_after (evT f 224 0 [oR 1 0, oI (s.1 1 2)] [] s) (fun q => evT f 228 31 [oR 1 0, oI x1, oI x2] (q.2 ++ []) q.1)) (fun _ => rfl) (rg_bd1 h fun v4 hc h => rg_call (q := cvP s v4) (T_fTape_byteAt_1 hc) ?_)
        refine rg_step 2 (G' := fun f => if v4 ≤ (cI 57) then evT f 228 36 [oR 1 0, oI x1, oI x2] [] s else evT f 228 69 [oR 1 0, oI x1, oI x2] [] s) (fun _ => rfl) (rg_if h (fun h => ?_) fun h => ?_)
        · refine rg_step 7 (G' := fun f => ev_after (evT f 224 0 [oR 1 0, oI (s.1 1 2)] [] s) (fun q => evT f 228 48 [oR 1 0, oI x1, oI x2] (q.2 ++ [vI (x1 * (cI 10))]) q.1)) (fun _ => rfl) (rg_bd1 h fun v5 hc h => rg_call (q := cvP s v5) (T_fTape_byteAt_1 hc) ?_)
          refine rg_step 4 (G' := fun f => evT f 228 53 [oR 1 0, oI (((x1 * (cI 10)) + v5) - (cI 48)), oI x2] [] s) (fun _ => rfl) (rg_ltI (P := fun v6 => RG (fun f => evT f 228 53 [oR 1 0, oI v6, oI x2] [] s) (cvI q)) h fun v6 h => ?_)
          refine rg_step 7 (G' := fun f => evT f 228 66 [oR 1 0, oI v6, oI (x2 + cI 1)] [] (wI s 1 2 ((s.1 1 2) + (cI 1)))) (fun _ => rfl) (rg_ltM h fun s7 h => ?_)
          exact rg_step 1 (G' := fun f => evT f 228 4 [oR 1 0, oI v6, oI (x2 + cI 1)] [] s7) (fun _ => rfl) (hk4 h)
        · exact (t_fTape_readsNumber_1_b69) h
    · exact (t_fTape_readsNumber_1_b69) h
theorem t_fTape_readsNumber_1_h4 {n : Nat} {s : ev_M} {x1 : Int32} {x2 : Int32} {q : ev_M × Int32} (h : fTape_readsNumber_1_h4 n s x1 x2 = some q) : RR 228 4 [oR 1 0, oI x1, oI x2] [] s (cvI q) := ti_fTape_readsNumber_1_h4 n s x1 x2 q h
theorem T_fTape_readsNumber_1 {s : ev_M} {q : ev_M × Int32} (h : fTape_readsNumber_1 s = some q) : RR 228 0 [oR 1 0, nn, nn] [] s (cvI q) := by
  exact rg_step 4 (G' := fun f => evT f 228 4 [oR 1 0, oI (cI 0), oI (cI 0)] [] s) (fun _ => rfl) ((t_fTape_readsNumber_1_h4) h)
theorem t_fTape_readsName_1_b83 {s : ev_M} {x1 : Int32} {j0 : Option ev_V} {q : ev_M × Int32} (h : fTape_readsName_1_b83 s x1 = some q) : RR 229 83 [j0, oI x1] [] s (cvI q) := by
  refine rg_step 2 (G' := fun f => if x1 ≤ 0 then evT f 229 91 [nn, oI x1] [] s else evT f 229 87 [nn, oI x1] [] s) (fun _ => rfl) (rg_if h (fun h => ?_) fun h => ?_)
  · exact rg_end 2 (fun _ => rfl) (by cases h; rfl)
  · exact rg_end 3 (fun _ => rfl) (by cases h; rfl)
theorem ti_fTape_readsName_1_h7 : ∀ (n : Nat) (s : ev_M) (x1 : Int32) (q : ev_M × Int32), fTape_readsName_1_h7 n s x1 = some q → RR 229 7 [oR 1 0, oI x1] [] s (cvI q) := by
  intro n
  induction n with
  | zero => intro s x1 q h; cases h
  | succ n ih =>
    have hk7 : ∀ {s : ev_M} {x1 : Int32} {q : ev_M × Int32}, fTape_readsName_1_h7 n s x1 = some q → RR 229 7 [oR 1 0, oI x1] [] s (cvI q) := fun h => ih _ _ _ h
    intro s x1 q h
    refine rg_step 3 (G' := fun f => if x1 < (cI 10) then evT f 229 13 [oR 1 0, oI x1] [] s else evT f 229 83 [oR 1 0, oI x1] [] s) (fun _ => rfl) (rg_if h (fun h => ?_) fun h => ?_)
    · refine rg_step 4 (G' := fun f => ev_after (evT f 224 0 [oR 1 0, oI (s.1 1 2)] [] s) (fun q => evT f 229 21 [oR 1 0, oI x1] (q.2 ++ []) q.1)) (fun _ => rfl) (rg_bd1 h fun v1 hc h => rg_call (q := cvP s v1) (T_fTape_byteAt_1 hc) ?_)
      refine rg_step 2 (G' := fun f => if v1 < (cI 65) then evT f 229 83 [oR 1 0, oI x1] [] s else evT f 229 26 [oR 1 0, oI x1] [] s) (fun _ => rfl) (rg_if h (fun h => ?_) fun h => ?_)
      · exact (t_fTape_readsName_1_b83) h
      · refine rg_step 4 (G' := fun f => ev_after (evT f 224 0 [oR 1 0, oI (s.1 1 2)] [] s) (fun q => evT f 229 34 [oR 1 0, oI x1] (q.2 ++ []) q.1)) (fun _ => rfl) (rg_bd1 h fun v2 hc h => rg_call (q := cvP s v2) (T_fTape_byteAt_1 hc) ?_)
        refine rg_step 2 (G' := fun f => if v2 ≤ (cI 90) then evT f 229 39 [oR 1 0, oI x1] [] s else evT f 229 83 [oR 1 0, oI x1] [] s) (fun _ => rfl) (rg_if h (fun h => ?_) fun h => ?_)
        · refine rg_step 9 (G' := fun f => ev_after (evT f 224 0 [oR 1 0, oI (s.1 1 2)] [] s) (fun q => evT f 229 56 [oR 1 0, oI x1] (q.2 ++ [vL ((s.2.1 1 5) * (cL 27)), vR 1 0]) q.1)) (fun _ => rfl) (rg_bd1 h fun v3 hc h => rg_call (q := cvP s v3) (T_fTape_byteAt_1 hc) ?_)
          refine rg_step 7 (G' := fun f => evT f 229 67 [oR 1 0, oI x1] [] (wL s 1 5 (((((s.2.1 1 5) * (cL 27)) + (Int32.toInt64 v3)) - (cL 65)) + (cL 1)))) (fun _ => rfl) (rg_ltM h fun s4 h => ?_)
          refine rg_step 7 (G' := fun f => evT f 229 80 [oR 1 0, oI (x1 + cI 1)] [] (wI s4 1 2 ((s4.1 1 2) + (cI 1)))) (fun _ => rfl) (rg_ltM h fun s5 h => ?_)
          exact rg_step 1 (G' := fun f => evT f 229 7 [oR 1 0, oI (x1 + cI 1)] [] s5) (fun _ => rfl) (hk7 h)
        · exact (t_fTape_readsName_1_b83) h
    · exact (t_fTape_readsName_1_b83) h
theorem t_fTape_readsName_1_h7 {n : Nat} {s : ev_M} {x1 : Int32} {q : ev_M × Int32} (h : fTape_readsName_1_h7 n s x1 = some q) : RR 229 7 [oR 1 0, oI x1] [] s (cvI q) := ti_fTape_readsName_1_h7 n s x1 q h
theorem T_fTape_readsName_1 {s : ev_M} {q : ev_M × Int32} (h : fTape_readsName_1 s = some q) : RR 229 0 [oR 1 0, nn] [] s (cvI q) := by
  refine rg_step 3 (G' := fun f => evT f 229 5 [oR 1 0, nn] [] (wL s 1 5 (cL 0))) (fun _ => rfl) (rg_ltM h fun s6 h => ?_)
  exact rg_step 2 (G' := fun f => evT f 229 7 [oR 1 0, oI (cI 0)] [] s6) (fun _ => rfl) ((t_fTape_readsName_1_h7) h)
theorem T_fTape_reads_1 {s : ev_M} {a1 : Int32} {q : ev_M × Int32} (h : fTape_reads_1 s a1 = some q) : RR 227 0 [oR 1 0, oI a1] [] s (cvI q) := by
  refine rg_step 3 (G' := fun f => if a1 = (cI 35) then evT f 227 6 [oR 1 0, oI a1] [] s else evT f 227 11 [oR 1 0, oI a1] [] s) (fun _ => rfl) (rg_if h (fun h => ?_) fun h => ?_)
  · refine rg_step 2 (G' := fun f => ev_after (evT f 228 0 [oR 1 0, nn, nn] [] s) (fun q => evT f 227 10 [oR 1 0, oI a1] (q.2 ++ []) q.1)) (fun _ => rfl) (rg_bd2 h fun s1 v2 hc h => rg_call (q := cvI (s1, v2)) (T_fTape_readsNumber_1 hc) ?_)
    exact rg_step 1 (G' := fun f => if bz v2 = true then some (s1, [vI v2]) else none) (fun _ => rfl) (rg_gd h fun h => rg_end 0 (fun _ => rfl) (by cases h; rfl))
  · refine rg_step 3 (G' := fun f => if a1 = (cI 64) then evT f 227 17 [oR 1 0, oI a1] [] s else evT f 227 22 [oR 1 0, oI a1] [] s) (fun _ => rfl) (rg_if h (fun h => ?_) fun h => ?_)
    · refine rg_step 2 (G' := fun f => ev_after (evT f 229 0 [oR 1 0, nn] [] s) (fun q => evT f 227 21 [oR 1 0, oI a1] (q.2 ++ []) q.1)) (fun _ => rfl) (rg_bd2 h fun s3 v4 hc h => rg_call (q := cvI (s3, v4)) (T_fTape_readsName_1 hc) ?_)
      exact rg_step 1 (G' := fun f => if bz v4 = true then some (s3, [vI v4]) else none) (fun _ => rfl) (rg_gd h fun h => rg_end 0 (fun _ => rfl) (by cases h; rfl))
    · refine rg_step 4 (G' := fun f => ev_after (evT f 224 0 [oR 1 0, oI (s.1 1 2)] [] s) (fun q => evT f 227 30 [oR 1 0, oI a1] (q.2 ++ []) q.1)) (fun _ => rfl) (rg_bd1 h fun v5 hc h => rg_call (q := cvP s v5) (T_fTape_byteAt_1 hc) ?_)
      refine rg_step 2 (G' := fun f => if v5 = a1 then evT f 227 36 [oR 1 0, oI a1] [] s else evT f 227 34 [oR 1 0, oI a1] [] s) (fun _ => rfl) (rg_if h (fun h => ?_) fun h => ?_)
      · refine rg_step 6 (G' := fun f => evT f 227 46 [oR 1 0, oI a1] [] (wI s 1 2 ((s.1 1 2) + (cI 1)))) (fun _ => rfl) (rg_ltM h fun s6 h => ?_)
        exact rg_end 2 (fun _ => rfl) (by cases h; rfl)
      · exact rg_end 2 (fun _ => rfl) (by cases h; rfl)
theorem ti_fTape_readsEntry_1_1010_h56 : ∀ (n : Nat) (s : ev_M) (x2 : Int32) (x3 : Int32) (j4 : Option ev_V) (q : ev_M × Int32), fTape_readsEntry_1_1010_h56 n s x2 x3 = some q → RR 226 56 [oR 1 0, oR 1010 0, oI x2, oI x3, j4] [] s (cvI q) := by
  intro n
  induction n with
  | zero => intro s x2 x3 j4 q h; cases h
  | succ n ih =>
    have hk56 : ∀ {s : ev_M} {x2 : Int32} {x3 : Int32} {j4 : Option ev_V} {q : ev_M × Int32}, fTape_readsEntry_1_1010_h56 n s x2 x3 = some q → RR 226 56 [oR 1 0, oR 1010 0, oI x2, oI x3, j4] [] s (cvI q) := fun h => ih _ _ _ _ _ h
    intro s x2 x3 j4 q h
    refine rg_step 3 (G' := fun f => ev_after ((fSlen 1010).map (cvP s)) (fun q => evT f 226 61 [oR 1 0, oR 1010 0, oI x2, oI x3, nn] (q.2 ++ [vI x3]) q.1)) (fun _ => rfl) (rg_bd1 h fun v1 hc h => rg_prm (q := cvP s v1) (by rw [hc]; rfl) ?_)
    refine rg_step 1 (G' := fun f => if x3 < v1 then evT f 226 64 [oR 1 0, oR 1010 0, oI x2, oI x3, nn] [] s else evT f 226 97 [oR 1 0, oR 1010 0, oI x2, oI x3, nn] [] s) (fun _ => rfl) (rg_if h (fun h => ?_) fun h => ?_)
    · refine rg_step 3 (G' := fun f => ev_after ((fSat 1010 x3).map (cvP s)) (fun q => evT f 226 69 [oR 1 0, oR 1010 0, oI x2, oI x3, nn] (q.2 ++ []) q.1)) (fun _ => rfl) (rg_bd1 h fun v2 hc h => rg_prm (q := cvP s v2) (by rw [hc]; rfl) ?_)
      refine rg_step 4 (G' := fun f => ev_after (evT f 227 0 [oR 1 0, oI v2] [] s) (fun q => evT f 226 77 [oR 1 0, oR 1010 0, oI x2, oI x3, oI v2] (q.2 ++ []) q.1)) (fun _ => rfl) (rg_bd2 h fun s3 v4 hc h => rg_call (q := cvI (s3, v4)) (T_fTape_reads_1 hc) ?_)
      refine rg_step 1 (G' := fun f => if v4 = 0 then evT f 226 80 [oR 1 0, oR 1010 0, oI x2, oI x3, oI v2] [] s3 else evT f 226 82 [oR 1 0, oR 1010 0, oI x2, oI x3, oI v2] [] s3) (fun _ => rfl) (rg_if h (fun h => ?_) fun h => ?_)
      · exact rg_end 2 (fun _ => rfl) (by cases h; rfl)
      · refine rg_step 3 (G' := fun f => if v2 = (cI 59) then evT f 226 89 [oR 1 0, oR 1010 0, oI x2, oI x3, oI v2] [] s3 else evT f 226 91 [oR 1 0, oR 1010 0, oI x2, oI x3, oI v2] [] s3) (fun _ => rfl) (rg_if h (fun h => ?_) fun h => ?_)
        · exact rg_end 2 (fun _ => rfl) (by cases h; rfl)
        · exact rg_step 2 (G' := fun f => evT f 226 56 [oR 1 0, oR 1010 0, oI x2, oI (x3 + cI 1), oI v2] [] s3) (fun _ => rfl) (hk56 h)
    · exact rg_end 2 (fun _ => rfl) (by cases h; rfl)
theorem t_fTape_readsEntry_1_1010_h56 {n : Nat} {s : ev_M} {x2 : Int32} {x3 : Int32} {j4 : Option ev_V} {q : ev_M × Int32} (h : fTape_readsEntry_1_1010_h56 n s x2 x3 = some q) : RR 226 56 [oR 1 0, oR 1010 0, oI x2, oI x3, j4] [] s (cvI q) := ti_fTape_readsEntry_1_1010_h56 n s x2 x3 j4 q h
theorem t_fTape_readsEntry_1_1010_b36 {s : ev_M} {x2 : Int32} {y0 : Int32} {j3 : Option ev_V} {j4 : Option ev_V} {q : ev_M × Int32} (h : fTape_readsEntry_1_1010_b36 s x2 y0 = some q) : RR 226 36 [oR 1 0, oR 1010 0, oI x2, j3, j4] [vI y0] s (cvI q) := by
  refine rg_step 3 (G' := fun f => if y0 < 0 then evT f 226 41 [oR 1 0, oR 1010 0, oI x2, oI y0, nn] [] s else evT f 226 43 [oR 1 0, oR 1010 0, oI x2, oI y0, nn] [] s) (fun _ => rfl) (rg_if h (fun h => ?_) fun h => ?_)
  · exact rg_end 2 (fun _ => rfl) (by cases h; rfl)
  · refine rg_step 6 (G' := fun f => evT f 226 53 [oR 1 0, oR 1010 0, oI x2, oI y0, nn] [] (wI s 1 2 ((s.1 1 2) + (cI 1)))) (fun _ => rfl) (rg_ltM h fun s5 h => ?_)
    exact rg_step 1 (G' := fun f => evT f 226 56 [oR 1 0, oR 1010 0, oI x2, oI (y0 + cI 1), nn] [] s5) (fun _ => rfl) ((t_fTape_readsEntry_1_1010_h56) h)
theorem t_fTape_readsEntry_1_1010_b35 {s : ev_M} {x2 : Int32} {j3 : Option ev_V} {j4 : Option ev_V} {q : ev_M × Int32} (h : fTape_readsEntry_1_1010_b35 s x2 = some q) : RR 226 35 [oR 1 0, oR 1010 0, oI x2, j3, j4] [] s (cvI q) := by
  exact rg_step 1 (G' := fun f => evT f 226 36 [oR 1 0, oR 1010 0, oI x2, nn, nn] [vI (cI (-1))] s) (fun _ => rfl) ((t_fTape_readsEntry_1_1010_b36) h)
theorem T_fTape_readsEntry_1_1010 {s : ev_M} {q : ev_M × Int32} (h : fTape_readsEntry_1_1010 s = some q) : RR 226 0 [oR 1 0, oR 1010 0, nn, nn, nn] [] s (cvI q) := by
  refine rg_step 3 (G' := fun f => evT f 226 5 [oR 1 0, oR 1010 0, nn, nn, nn] [] (wI s 1 4 (cI 0))) (fun _ => rfl) (rg_ltM h fun s6 h => ?_)
  refine rg_step 4 (G' := fun f => ev_after (evT f 224 0 [oR 1 0, oI (s6.1 1 2)] [] s6) (fun q => evT f 226 13 [oR 1 0, oR 1010 0, nn, nn, nn] (q.2 ++ []) q.1)) (fun _ => rfl) (rg_bd1 h fun v7 hc h => rg_call (q := cvP s6 v7) (T_fTape_byteAt_1 hc) ?_)
  refine rg_step 4 (G' := fun f => if v7 < (cI 65) then evT f 226 35 [oR 1 0, oR 1010 0, oI v7, nn, nn] [] s6 else evT f 226 20 [oR 1 0, oR 1010 0, oI v7, nn, nn] [] s6) (fun _ => rfl) (rg_if h (fun h => ?_) fun h => ?_)
  · exact (t_fTape_readsEntry_1_1010_b35) h
  · refine rg_step 3 (G' := fun f => if v7 ≤ (cI 90) then evT f 226 26 [oR 1 0, oR 1010 0, oI v7, nn, nn] [] s6 else evT f 226 35 [oR 1 0, oR 1010 0, oI v7, nn, nn] [] s6) (fun _ => rfl) (rg_if h (fun h => ?_) fun h => ?_)
    · refine rg_step 4 (G' := fun f => ev_after ((fSix 1010 (i2c v7)).map (cvP s6)) (fun q => evT f 226 32 [oR 1 0, oR 1010 0, oI v7, nn, nn] (q.2 ++ []) q.1)) (fun _ => rfl) (rg_bd1 h fun v8 hc h => rg_prm (q := cvP s6 v8) (by rw [hc]; rfl) ?_)
      exact rg_step 1 (G' := fun f => evT f 226 36 [oR 1 0, oR 1010 0, oI v7, nn, nn] [vI v8] s6) (fun _ => rfl) ((t_fTape_readsEntry_1_1010_b36) h)
    · exact (t_fTape_readsEntry_1_1010_b35) h
theorem ti_fBook_placeOf_h2 {s : ev_M} : ∀ (n : Nat) (x1 : Int32) (x2 : Int32) (q : Int32), fBook_placeOf_h2 s n x1 x2 = some q → RR 22 2 [oR 30 0, oI x1, oI x2] [] s (cvP s q) := by
  intro n
  induction n with
  | zero => intro x1 x2 q h; cases h
  | succ n ih =>
    have hk2 : ∀ {x1 : Int32} {x2 : Int32} {q : Int32}, fBook_placeOf_h2 s n x1 x2 = some q → RR 22 2 [oR 30 0, oI x1, oI x2] [] s (cvP s q) := fun h => ih _ _ _ h
    intro x1 x2 q h
    refine rg_step 4 (G' := fun f => if x2 < (s.1 30 2) then evT f 22 10 [oR 30 0, oI x1, oI x2] [] s else evT f 22 28 [oR 30 0, oI x1, oI x2] [] s) (fun _ => rfl) (rg_if h (fun h => ?_) fun h => ?_)
    · refine rg_step 4 (G' := fun f => if inb x2 12 = true then evT f 22 16 [oR 30 0, oI x1, oI x2] [vI (s.1 31 (ix x2))] s else none) (fun _ => rfl) (rg_gd h fun h => ?_)
      refine rg_step 2 (G' := fun f => if (s.1 31 (ix x2)) = x1 then evT f 22 20 [oR 30 0, oI x1, oI x2] [] s else evT f 22 22 [oR 30 0, oI x1, oI x2] [] s) (fun _ => rfl) (rg_if h (fun h => ?_) fun h => ?_)
      · exact rg_end 2 (fun _ => rfl) (by cases h; rfl)
      · exact rg_step 2 (G' := fun f => evT f 22 2 [oR 30 0, oI x1, oI (x2 + cI 1)] [] s) (fun _ => rfl) (hk2 h)
    · exact rg_end 2 (fun _ => rfl) (by cases h; rfl)
theorem t_fBook_placeOf_h2 {s : ev_M} {n : Nat} {x1 : Int32} {x2 : Int32} {q : Int32} (h : fBook_placeOf_h2 s n x1 x2 = some q) : RR 22 2 [oR 30 0, oI x1, oI x2] [] s (cvP s q) := ti_fBook_placeOf_h2 n x1 x2 q h
theorem T_fBook_placeOf {s : ev_M} {a1 : Int32} {q : Int32} (h : fBook_placeOf s a1 = some q) : RR 22 0 [oR 30 0, oI a1, nn] [] s (cvP s q) := by
  exact rg_step 2 (G' := fun f => evT f 22 2 [oR 30 0, oI a1, oI (cI 0)] [] s) (fun _ => rfl) ((t_fBook_placeOf_h2) h)
theorem T_fBook_addsPlace {s : ev_M} {a1 : Int32} {q : ev_M × Int32} (h : fBook_addsPlace s a1 = some q) : RR 15 0 [oR 30 0, oI a1] [] s (cvI q) := by
  refine rg_step 4 (G' := fun f => ev_after (evT f 308 0 [oI a1, oI (cI 1), oI (cI 99999)] [] s) (fun q => evT f 15 7 [oR 30 0, oI a1] (q.2 ++ []) q.1)) (fun _ => rfl) (rg_bd1 h fun v1 hc h => rg_call (q := cvP s v1) (T_fPH_outside hc) ?_)
  refine rg_step 1 (G' := fun f => if v1 = 0 then evT f 15 10 [oR 30 0, oI a1] [] s else evT f 15 28 [oR 30 0, oI a1] [] s) (fun _ => rfl) (rg_if h (fun h => ?_) fun h => ?_)
  · refine rg_step 3 (G' := fun f => ev_after (evT f 22 0 [oR 30 0, oI a1, nn] [] s) (fun q => evT f 15 15 [oR 30 0, oI a1] (q.2 ++ []) q.1)) (fun _ => rfl) (rg_bd1 h fun v2 hc h => rg_call (q := cvP s v2) (T_fBook_placeOf hc) ?_)
    refine rg_step 2 (G' := fun f => if v2 = (cI (-1)) then evT f 15 19 [oR 30 0, oI a1] [] s else evT f 15 28 [oR 30 0, oI a1] [] s) (fun _ => rfl) (rg_if h (fun h => ?_) fun h => ?_)
    · refine rg_step 4 (G' := fun f => if (s.1 30 2) < (cI 12) then evT f 15 30 [oR 30 0, oI a1] [] s else evT f 15 28 [oR 30 0, oI a1] [] s) (fun _ => rfl) (rg_if h (fun h => ?_) fun h => ?_)
      · refine rg_step 9 (G' := fun f => evT f 15 45 [oR 30 0, oI a1] [vI (s.1 30 2), vR 31 0] (wI s 30 2 ((s.1 30 2) + (cI 1)))) (fun _ => rfl) (rg_ltM h fun s3 h => ?_)
        refine rg_step 2 (G' := fun f => if inb (s.1 30 2) 12 = true then evT f 15 47 [oR 30 0, oI a1] [] (wI s3 31 (ix (s.1 30 2)) a1) else none) (fun _ => rfl) (rg_gd h fun h => rg_ltM h fun s4 h => ?_)
        exact rg_end 2 (fun _ => rfl) (by cases h; rfl)
      · exact rg_end 2 (fun _ => rfl) (by cases h; rfl)
    · exact rg_end 2 (fun _ => rfl) (by cases h; rfl)
  · exact rg_end 2 (fun _ => rfl) (by cases h; rfl)
theorem t_fBook_streetOf_b40 {s : ev_M} {k3 : Int32 → Int64 → Int32 → Option Int32} (hk3 : ∀ {x1 : Int32} {x2 : Int64} {x4 : Int32} {j3 : Option ev_V} {q : Int32}, k3 x1 x2 x4 = some q → RR 23 3 [oR 30 0, oI x1, oL x2, j3, oI x4] [] s (cvP s q)) {x1 : Int32} {x2 : Int64} {x4 : Int32} {j3 : Option ev_V} {q : Int32} (h : fBook_streetOf_b40 s k3 x1 x2 x4 = some q) : RR 23 40 [oR 30 0, oI x1, oL x2, j3, oI x4] [] s (cvP s q) := by
  exact rg_step 2 (G' := fun f => evT f 23 3 [oR 30 0, oI x1, oL x2, nn, oI (x4 + cI 1)] [] s) (fun _ => rfl) (hk3 h)
theorem ti_fBook_streetOf_h3 {s : ev_M} : ∀ (n : Nat) (x1 : Int32) (x2 : Int64) (x4 : Int32) (j3 : Option ev_V) (q : Int32), fBook_streetOf_h3 s n x1 x2 x4 = some q → RR 23 3 [oR 30 0, oI x1, oL x2, j3, oI x4] [] s (cvP s q) := by
  intro n
  induction n with
  | zero => intro x1 x2 x4 j3 q h; cases h
  | succ n ih =>
    have hk3 : ∀ {x1 : Int32} {x2 : Int64} {x4 : Int32} {j3 : Option ev_V} {q : Int32}, fBook_streetOf_h3 s n x1 x2 x4 = some q → RR 23 3 [oR 30 0, oI x1, oL x2, j3, oI x4] [] s (cvP s q) := fun h => ih _ _ _ _ _ h
    intro x1 x2 x4 j3 q h
    refine rg_step 4 (G' := fun f => if x4 < (s.1 30 4) then evT f 23 12 [oR 30 0, oI x1, oL x2, nn, oI x4] [] s else evT f 23 46 [oR 30 0, oI x1, oL x2, nn, oI x4] [] s) (fun _ => rfl) (rg_if h (fun h => ?_) fun h => ?_)
    · refine rg_step 6 (G' := fun f => if inb x4 30 = true then evT f 23 21 [oR 30 0, oI x1, oL x2, nn, oI x4] [vI (s.1 (33 + (ix (cI 3))) (ix x4))] s else none) (fun _ => rfl) (rg_gd h fun h => ?_)
      refine rg_step 2 (G' := fun f => if (s.1 (33 + (ix (cI 3))) (ix x4)) = x1 then evT f 23 25 [oR 30 0, oI x1, oL x2, nn, oI x4] [] s else evT f 23 40 [oR 30 0, oI x1, oL x2, nn, oI x4] [] s) (fun _ => rfl) (rg_if h (fun h => ?_) fun h => ?_)
      · refine rg_step 4 (G' := fun f => if inb x4 30 = true then evT f 23 32 [oR 30 0, oI x1, oL x2, nn, oI x4] [vL (s.2.1 37 (ix x4))] s else none) (fun _ => rfl) (rg_gd h fun h => ?_)
        refine rg_step 3 (G' := fun f => if (lg_cmp (s.2.1 37 (ix x4)) x2) = 0 then evT f 23 37 [oR 30 0, oI x1, oL x2, nn, oI x4] [] s else evT f 23 40 [oR 30 0, oI x1, oL x2, nn, oI x4] [] s) (fun _ => rfl) (rg_if h (fun h => ?_) fun h => ?_)
        · exact rg_end 2 (fun _ => rfl) (by cases h; rfl)
        · exact (t_fBook_streetOf_b40 hk3) h
      · exact (t_fBook_streetOf_b40 hk3) h
    · exact rg_end 2 (fun _ => rfl) (by cases h; rfl)
theorem t_fBook_streetOf_h3 {s : ev_M} {n : Nat} {x1 : Int32} {x2 : Int64} {x4 : Int32} {j3 : Option ev_V} {q : Int32} (h : fBook_streetOf_h3 s n x1 x2 x4 = some q) : RR 23 3 [oR 30 0, oI x1, oL x2, j3, oI x4] [] s (cvP s q) := ti_fBook_streetOf_h3 n x1 x2 x4 j3 q h
theorem T_fBook_streetOf {s : ev_M} {a1 : Int32} {a2 : Int64} {q : Int32} (h : fBook_streetOf s a1 a2 = some q) : RR 23 0 [oR 30 0, oI a1, oL a2, nn, nn] [] s (cvP s q) := by
  exact rg_step 2 (G' := fun f => evT f 23 3 [oR 30 0, oI a1, oL a2, nn, oI (cI 0)] [] s) (fun _ => rfl) ((t_fBook_streetOf_h3) h)
theorem T_fBook_addsStreet_1 {s : ev_M} {a1 : Int32} {q : ev_M × Int32} (h : fBook_addsStreet_1 s a1 = some q) : RR 16 0 [oR 30 0, oI a1, oR 1 0, nn, nn, nn] [] s (cvI q) := by
  refine rg_step 5 (G' := fun f => evT f 16 7 [oR 30 0, oI a1, oR 1 0, oI (s.1 3 (ix (cI 1))), nn, nn] [] s) (fun _ => rfl) (rg_ltI (P := fun v1 => RG (fun f => evT f 16 7 [oR 30 0, oI a1, oR 1 0, oI v1, nn, nn] [] s) (cvI q)) h fun v1 h => ?_)
  refine rg_step 5 (G' := fun f => evT f 16 15 [oR 30 0, oI a1, oR 1 0, oI v1, oI (s.1 3 (ix (cI 2))), nn] [] s) (fun _ => rfl) (rg_ltI (P := fun v2 => RG (fun f => evT f 16 15 [oR 30 0, oI a1, oR 1 0, oI v1, oI v2, nn] [] s) (cvI q)) h fun v2 h => ?_)
  refine rg_step 5 (G' := fun f => evT f 16 23 [oR 30 0, oI a1, oR 1 0, oI v1, oI v2, oI (s.1 3 (ix (cI 3)))] [] s) (fun _ => rfl) (rg_ltI (P := fun v3 => RG (fun f => evT f 16 23 [oR 30 0, oI a1, oR 1 0, oI v1, oI v2, oI v3] [] s) (cvI q)) h fun v3 h => ?_)
  refine rg_step 5 (G' := fun f => ev_after (evT f 23 0 [oR 30 0, oI a1, oL (s.2.1 1 5), nn, nn] [] s) (fun q => evT f 16 32 [oR 30 0, oI a1, oR 1 0, oI v1, oI v2, oI v3] (q.2 ++ []) q.1)) (fun _ => rfl) (rg_bd1 h fun v4 hc h => rg_call (q := cvP s v4) (T_fBook_streetOf hc) ?_)
  refine rg_step 2 (G' := fun f => if v4 = (cI (-1)) then evT f 16 36 [oR 30 0, oI a1, oR 1 0, oI v1, oI v2, oI v3] [] s else evT f 16 45 [oR 30 0, oI a1, oR 1 0, oI v1, oI v2, oI v3] [] s) (fun _ => rfl) (rg_if h (fun h => ?_) fun h => ?_)
  · refine rg_step 4 (G' := fun f => if (s.1 30 4) < (cI 30) then evT f 16 47 [oR 30 0, oI a1, oR 1 0, oI v1, oI v2, oI v3] [] s else evT f 16 45 [oR 30 0, oI a1, oR 1 0, oI v1, oI v2, oI v3] [] s) (fun _ => rfl) (rg_if h (fun h => ?_) fun h => ?_)
    · refine rg_step 4 (G' := fun f => ev_after (evT f 308 0 [oI v1, oI (cI 0), oI (cI 999)] [] s) (fun q => evT f 16 55 [oR 30 0, oI a1, oR 1 0, oI v1, oI v2, oI v3] (q.2 ++ []) q.1)) (fun _ => rfl) (rg_bd1 h fun v5 hc h => rg_call (q := cvP s v5) (T_fPH_outside hc) ?_)
      refine rg_step 1 (G' := fun f => if v5 = 0 then evT f 16 58 [oR 30 0, oI a1, oR 1 0, oI v1, oI v2, oI v3] [] s else evT f 16 80 [oR 30 0, oI a1, oR 1 0, oI v1, oI v2, oI v3] [] s) (fun _ => rfl) (rg_if h (fun h => ?_) fun h => ?_)
      · refine rg_step 4 (G' := fun f => ev_after (evT f 308 0 [oI v2, oI (cI 0), oI (cI 999)] [] s) (fun q => evT f 16 67 [oR 30 0, oI a1, oR 1 0, oI v1, oI v2, oI v3] (q.2 ++ []) q.1)) (fun _ => rfl) (rg_bd1 h fun v6 hc h => rg_call (q := cvP s v6) (T_fPH_outside hc) ?_)
        refine rg_step 1 (G' := fun f => if v6 = 0 then evT f 16 70 [oR 30 0, oI a1, oR 1 0, oI v1, oI v2, oI v3] [] s else evT f 16 80 [oR 30 0, oI a1, oR 1 0, oI v1, oI v2, oI v3] [] s) (fun _ => rfl) (rg_if h (fun h => ?_) fun h => ?_)
        · refine rg_step 4 (G' := fun f => ev_after (evT f 308 0 [oI v3, oI (cI 0), oI (cI 3)] [] s) (fun q => evT f 16 77 [oR 30 0, oI a1, oR 1 0, oI v1, oI v2, oI v3] (q.2 ++ []) q.1)) (fun _ => rfl) (rg_bd1 h fun v7 hc h => rg_call (q := cvP s v7) (T_fPH_outside hc) ?_)
          refine rg_step 1 (G' := fun f => if v7 = 0 then evT f 16 82 [oR 30 0, oI a1, oR 1 0, oI v1, oI v2, oI v3] [] s else evT f 16 80 [oR 30 0, oI a1, oR 1 0, oI v1, oI v2, oI v3] [] s) (fun _ => rfl) (rg_if h (fun h => ?_) fun h => ?_)
          · refine rg_step 8 (G' := fun f => if inb (s.1 30 4) 30 = true then evT f 16 94 [oR 30 0, oI a1, oR 1 0, oI v1, oI v2, oI v3] [] (wI s (33 + (ix (cI 3))) (ix (s.1 30 4)) a1) else none) (fun _ => rfl) (rg_gd h fun h => rg_ltM h fun s8 h => ?_)
            refine rg_step 8 (G' := fun f => if inb (s8.1 30 4) 30 = true then evT f 16 106 [oR 30 0, oI a1, oR 1 0, oI v1, oI v2, oI v3] [] (wI s8 (33 + (ix (cI 0))) (ix (s8.1 30 4)) v1) else none) (fun _ => rfl) (rg_gd h fun h => rg_ltM h fun s9 h => ?_)
            refine rg_step 8 (G' := fun f => if inb (s9.1 30 4) 30 = true then evT f 16 119 [oR 30 0, oI a1, oR 1 0, oI v1, oI v2, oI v3] [] (wI s9 (33 + (ix (cI 1))) (ix (s9.1 30 4)) v2) else none) (fun _ => rfl) (rg_gd h fun h => rg_ltM h fun s10 h => ?_)
            refine rg_step 8 (G' := fun f => if inb (s10.1 30 4) 30 = true then evT f 16 132 [oR 30 0, oI a1, oR 1 0, oI v1, oI v2, oI v3] [] (wI s10 (33 + (ix (cI 2))) (ix (s10.1 30 4)) v3) else none) (fun _ => rfl) (rg_gd h fun h => rg_ltM h fun s11 h => ?_)
            refine rg_step 9 (G' := fun f => evT f 16 147 [oR 30 0, oI a1, oR 1 0, oI v1, oI v2, oI v3] [vI (s11.1 30 4), vR 37 0] (wI s11 30 4 ((s11.1 30 4) + (cI 1)))) (fun _ => rfl) (rg_ltM h fun s12 h => ?_)
            refine rg_step 3 (G' := fun f => if inb (s11.1 30 4) 30 = true then evT f 16 152 [oR 30 0, oI a1, oR 1 0, oI v1, oI v2, oI v3] [] (wL s12 37 (ix (s11.1 30 4)) (s12.2.1 1 5)) else none) (fun _ => rfl) (rg_gd h fun h => rg_ltM h fun s13 h => ?_)
            exact rg_end 2 (fun _ => rfl) (by cases h; rfl)
          · exact rg_end 2 (fun _ => rfl) (by cases h; rfl)
        · exact rg_end 2 (fun _ => rfl) (by cases h; rfl)
      · exact rg_end 2 (fun _ => rfl) (by cases h; rfl)
    · exact rg_end 2 (fun _ => rfl) (by cases h; rfl)
  · exact rg_end 2 (fun _ => rfl) (by cases h; rfl)
theorem t_fBook_isOnSide_b13 {s : ev_M} {j0 : Option ev_V} {j1 : Option ev_V} {q : Int32} (h : fBook_isOnSide_b13 s = some q) : RR 19 13 [j0, j1] [] s (cvP s q) := by
  exact rg_end 3 (fun _ => rfl) (by cases h; rfl)
theorem T_fBook_isOnSide {s : ev_M} {a0 : Int32} {a1 : Int32} {q : Int32} (h : fBook_isOnSide s a0 a1 = some q) : RR 19 0 [oI a0, oI a1] [] s (cvP s q) := by
  refine rg_step 2 (G' := fun f => if a1 = 0 then evT f 19 13 [oI a0, oI a1] [] s else evT f 19 4 [oI a0, oI a1] [] s) (fun _ => rfl) (rg_if h (fun h => ?_) fun h => ?_)
  · exact (t_fBook_isOnSide_b13) h
  · refine rg_step 3 (G' := fun f => if (cI 2) = 0 then none else evT f 19 7 [oI a0, oI a1] [vI (irem a0 (cI 2))] s) (fun _ => rfl) (rg_dv h fun h => ?_)
    refine rg_step 4 (G' := fun f => if (irem a0 (cI 2)) = ((cI 2) - a1) then evT f 19 13 [oI a0, oI a1] [] s else evT f 19 17 [oI a0, oI a1] [] s) (fun _ => rfl) (rg_if h (fun h => ?_) fun h => ?_)
    · exact (t_fBook_isOnSide_b13) h
    · exact rg_end 2 (fun _ => rfl) (by cases h; rfl)
theorem T_fMath_max {s : ev_M} {a0 : Int32} {a1 : Int32} {q : Int32} (h : fMath_max s a0 a1 = some q) : RR 534 0 [oI a0, oI a1] [] s (cvP s q) := by
  refine rg_step 3 (G' := fun f => if a0 < a1 then evT f 534 9 [oI a0, oI a1] [] s else evT f 534 5 [oI a0, oI a1] [] s) (fun _ => rfl) (rg_if h (fun h => ?_) fun h => ?_)
  · exact rg_end 2 (fun _ => rfl) (by cases h; rfl)
  · exact rg_end 3 (fun _ => rfl) (by cases h; rfl)
theorem T_fMath_min {s : ev_M} {a0 : Int32} {a1 : Int32} {q : Int32} (h : fMath_min s a0 a1 = some q) : RR 535 0 [oI a0, oI a1] [] s (cvP s q) := by
  refine rg_step 3 (G' := fun f => if a0 ≤ a1 then evT f 535 5 [oI a0, oI a1] [] s else evT f 535 9 [oI a0, oI a1] [] s) (fun _ => rfl) (rg_if h (fun h => ?_) fun h => ?_)
  · exact rg_end 3 (fun _ => rfl) (by cases h; rfl)
  · exact rg_end 2 (fun _ => rfl) (by cases h; rfl)
theorem t_fBook_sharesHouse_b76 {s : ev_M} {k33 : Int32 → Int32 → Int32 → Int32 → Int32 → Option Int32} (hk33 : ∀ {x1 : Int32} {x2 : Int32} {x5 : Int32} {x6 : Int32} {x7 : Int32} {j3 : Option ev_V} {j4 : Option ev_V} {q : Int32}, k33 x1 x2 x5 x6 x7 = some q → RR 18 33 [oR 30 0, oI x1, oI x2, j3, j4, oI x5, oI x6, oI x7] [] s (cvP s q)) {x1 : Int32} {x2 : Int32} {x5 : Int32} {x6 : Int32} {x7 : Int32} {j3 : Option ev_V} {j4 : Option ev_V} {q : Int32} (h : fBook_sharesHouse_b76 s k33 x1 x2 x5 x6 x7 = some q) : RR 18 76 [oR 30 0, oI x1, oI x2, j3, j4, oI x5, oI x6, oI x7] [] s (cvP s q) := by
  exact rg_step 2 (G' := fun f => evT f 18 33 [oR 30 0, oI x1, oI x2, nn, nn, oI x5, oI x6, oI (x7 + cI 1)] [] s) (fun _ => rfl) (hk33 h)
theorem ti_fBook_sharesHouse_h33 {s : ev_M} : ∀ (n : Nat) (x1 : Int32) (x2 : Int32) (x5 : Int32) (x6 : Int32) (x7 : Int32) (j3 : Option ev_V) (j4 : Option ev_V) (q : Int32), fBook_sharesHouse_h33 s n x1 x2 x5 x6 x7 = some q → RR 18 33 [oR 30 0, oI x1, oI x2, j3, j4, oI x5, oI x6, oI x7] [] s (cvP s q) := by
  intro n
  induction n with
  | zero => intro x1 x2 x5 x6 x7 j3 j4 q h; cases h
  | succ n ih =>
    have hk33 : ∀ {x1 : Int32} {x2 : Int32} {x5 : Int32} {x6 : Int32} {x7 : Int32} {j3 : Option ev_V} {j4 : Option ev_V} {q : Int32}, fBook_sharesHouse_h33 s n x1 x2 x5 x6 x7 = some q → RR 18 33 [oR 30 0, oI x1, oI x2, j3, j4, oI x5, oI x6, oI x7] [] s (cvP s q) := fun h => ih _ _ _ _ _ _ _ _ h
    intro x1 x2 x5 x6 x7 j3 j4 q h
    refine rg_step 3 (G' := fun f => if x7 ≤ x6 then evT f 18 40 [oR 30 0, oI x1, oI x2, nn, nn, oI x5, oI x6, oI x7] [] s else evT f 18 82 [oR 30 0, oI x1, oI x2, nn, nn, oI x5, oI x6, oI x7] [] s) (fun _ => rfl) (rg_if h (fun h => ?_) fun h => ?_)
    · refine rg_step 5 (G' := fun f => if x7 ≤ (x5 + (cI 1)) then evT f 18 49 [oR 30 0, oI x1, oI x2, nn, nn, oI x5, oI x6, oI x7] [] s else evT f 18 82 [oR 30 0, oI x1, oI x2, nn, nn, oI x5, oI x6, oI x7] [] s) (fun _ => rfl) (rg_if h (fun h => ?_) fun h => ?_)
      · refine rg_step 3 (G' := fun f => ev_after (evT f 19 0 [oI x7, oI x2] [] s) (fun q => evT f 18 55 [oR 30 0, oI x1, oI x2, nn, nn, oI x5, oI x6, oI x7] (q.2 ++ []) q.1)) (fun _ => rfl) (rg_bd1 h fun v1 hc h => rg_call (q := cvP s v1) (T_fBook_isOnSide hc) ?_)
        refine rg_step 1 (G' := fun f => if v1 = 0 then evT f 18 76 [oR 30 0, oI x1, oI x2, nn, nn, oI x5, oI x6, oI x7] [] s else evT f 18 58 [oR 30 0, oI x1, oI x2, nn, nn, oI x5, oI x6, oI x7] [] s) (fun _ => rfl) (rg_if h (fun h => ?_) fun h => ?_)
        · exact (t_fBook_sharesHouse_b76 hk33) h
        · refine rg_step 7 (G' := fun f => if inb x1 60 = true then evT f 18 68 [oR 30 0, oI x1, oI x2, nn, nn, oI x5, oI x6, oI x7] [vI (s.1 (39 + (ix (cI 1))) (ix x1)), vI x7] s else none) (fun _ => rfl) (rg_gd h fun h => ?_)
          refine rg_step 1 (G' := fun f => ev_after (evT f 19 0 [oI x7, oI (s.1 (39 + (ix (cI 1))) (ix x1))] [] s) (fun q => evT f 18 71 [oR 30 0, oI x1, oI x2, nn, nn, oI x5, oI x6, oI x7] (q.2 ++ []) q.1)) (fun _ => rfl) (rg_bd1 h fun v2 hc h => rg_call (q := cvP s v2) (T_fBook_isOnSide hc) ?_)
          refine rg_step 1 (G' := fun f => if v2 = 0 then evT f 18 76 [oR 30 0, oI x1, oI x2, nn, nn, oI x5, oI x6, oI x7] [] s else evT f 18 74 [oR 30 0, oI x1, oI x2, nn, nn, oI x5, oI x6, oI x7] [] s) (fun _ => rfl) (rg_if h (fun h => ?_) fun h => ?_)
          · exact (t_fBook_sharesHouse_b76 hk33) h
          · exact rg_end 2 (fun _ => rfl) (by cases h; rfl)
      · exact rg_end 2 (fun _ => rfl) (by cases h; rfl)
    · exact rg_end 2 (fun _ => rfl) (by cases h; rfl)
theorem t_fBook_sharesHouse_h33 {s : ev_M} {n : Nat} {x1 : Int32} {x2 : Int32} {x5 : Int32} {x6 : Int32} {x7 : Int32} {j3 : Option ev_V} {j4 : Option ev_V} {q : Int32} (h : fBook_sharesHouse_h33 s n x1 x2 x5 x6 x7 = some q) : RR 18 33 [oR 30 0, oI x1, oI x2, j3, j4, oI x5, oI x6, oI x7] [] s (cvP s q) := ti_fBook_sharesHouse_h33 n x1 x2 x5 x6 x7 j3 j4 q h
theorem T_fBook_sharesHouse {s : ev_M} {a1 : Int32} {a2 : Int32} {a3 : Int32} {a4 : Int32} {q : Int32} (h : fBook_sharesHouse s a1 a2 a3 a4 = some q) : RR 18 0 [oR 30 0, oI a1, oI a2, oI a3, oI a4, nn, nn, nn] [] s (cvP s q) := by
  refine rg_step 7 (G' := fun f => if inb a1 60 = true then evT f 18 9 [oR 30 0, oI a1, oI a2, oI a3, oI a4, nn, nn, nn] [vI (s.1 (39 + (ix (cI 2))) (ix a1)), vI a3] s else none) (fun _ => rfl) (rg_gd h fun h => ?_)
  refine rg_step 1 (G' := fun f => ev_after (evT f 534 0 [oI a3, oI (s.1 (39 + (ix (cI 2))) (ix a1))] [] s) (fun q => evT f 18 12 [oR 30 0, oI a1, oI a2, oI a3, oI a4, nn, nn, nn] (q.2 ++ []) q.1)) (fun _ => rfl) (rg_bd1 h fun v3 hc h => rg_call (q := cvP s v3) (T_fMath_max hc) ?_)
  refine rg_step 8 (G' := fun f => if inb a1 60 = true then evT f 18 24 [oR 30 0, oI a1, oI a2, oI a3, oI a4, oI v3, nn, nn] [vI (s.1 (39 + (ix (cI 3))) (ix a1)), vI a4] s else none) (fun _ => rfl) (rg_gd h fun h => ?_)
  refine rg_step 1 (G' := fun f => ev_after (evT f 535 0 [oI a4, oI (s.1 (39 + (ix (cI 3))) (ix a1))] [] s) (fun q => evT f 18 27 [oR 30 0, oI a1, oI a2, oI a3, oI a4, oI v3, nn, nn] (q.2 ++ []) q.1)) (fun _ => rfl) (rg_bd1 h fun v4 hc h => rg_call (q := cvP s v4) (T_fMath_min hc) ?_)
  exact rg_step 3 (G' := fun f => evT f 18 33 [oR 30 0, oI a1, oI a2, oI a3, oI a4, oI v3, oI v4, oI v3] [] s) (fun _ => rfl) ((t_fBook_sharesHouse_h33) h)
theorem t_fBook_addsRange_1_b109 {k71 : ev_M → Int32 → Int32 → Int32 → Int32 → Int32 → Option (ev_M × Int32)} (hk71 : ∀ {s : ev_M} {x1 : Int32} {x3 : Int32} {x4 : Int32} {x5 : Int32} {x6 : Int32} {j2 : Option ev_V} {q : ev_M × Int32}, k71 s x1 x3 x4 x5 x6 = some q → RR 17 71 [oR 30 0, oI x1, j2, oI x3, oI x4, oI x5, oI x6] [] s (cvI q)) {s : ev_M} {x1 : Int32} {x3 : Int32} {x4 : Int32} {x5 : Int32} {x6 : Int32} {j2 : Option ev_V} {q : ev_M × Int32} (h : fBook_addsRange_1_b109 k71 s x1 x3 x4 x5 x6 = some q) : RR 17 109 [oR 30 0, oI x1, j2, oI x3, oI x4, oI x5, oI x6] [] s (cvI q) := by
  exact rg_step 2 (G' := fun f => evT f 17 71 [oR 30 0, oI x1, nn, oI x3, oI x4, oI x5, oI (x6 + cI 1)] [] s) (fun _ => rfl) (hk71 h)
theorem ti_fBook_addsRange_1_h71 : ∀ (n : Nat) (s : ev_M) (x1 : Int32) (x3 : Int32) (x4 : Int32) (x5 : Int32) (x6 : Int32) (j2 : Option ev_V) (q : ev_M × Int32), fBook_addsRange_1_h71 n s x1 x3 x4 x5 x6 = some q → RR 17 71 [oR 30 0, oI x1, j2, oI x3, oI x4, oI x5, oI x6] [] s (cvI q) := by
  intro n
  induction n with
  | zero => intro s x1 x3 x4 x5 x6 j2 q h; cases h
  | succ n ih =>
    have hk71 : ∀ {s : ev_M} {x1 : Int32} {x3 : Int32} {x4 : Int32} {x5 : Int32} {x6 : Int32} {j2 : Option ev_V} {q : ev_M × Int32}, fBook_addsRange_1_h71 n s x1 x3 x4 x5 x6 = some q → RR 17 71 [oR 30 0, oI x1, j2, oI x3, oI x4, oI x5, oI x6] [] s (cvI q) := fun h => ih _ _ _ _ _ _ _ _ h
    intro s x1 x3 x4 x5 x6 j2 q h
    refine rg_step 4 (G' := fun f => if x6 < (s.1 30 7) then evT f 17 80 [oR 30 0, oI x1, nn, oI x3, oI x4, oI x5, oI x6] [] s else evT f 17 115 [oR 30 0, oI x1, nn, oI x3, oI x4, oI x5, oI x6] [] s) (fun _ => rfl) (rg_if h (fun h => ?_) fun h => ?_)
    · refine rg_step 6 (G' := fun f => if inb x6 60 = true then evT f 17 89 [oR 30 0, oI x1, nn, oI x3, oI x4, oI x5, oI x6] [vI (s.1 (39 + (ix (cI 0))) (ix x6))] s else none) (fun _ => rfl) (rg_gd h fun h => ?_)
      refine rg_step 2 (G' := fun f => if (s.1 (39 + (ix (cI 0))) (ix x6)) = x1 then evT f 17 93 [oR 30 0, oI x1, nn, oI x3, oI x4, oI x5, oI x6] [] s else evT f 17 109 [oR 30 0, oI x1, nn, oI x3, oI x4, oI x5, oI x6] [] s) (fun _ => rfl) (rg_if h (fun h => ?_) fun h => ?_)
      · refine rg_step 6 (G' := fun f => ev_after (evT f 18 0 [oR 30 0, oI x6, oI x3, oI x4, oI x5, nn, nn, nn] [] s) (fun q => evT f 17 104 [oR 30 0, oI x1, nn, oI x3, oI x4, oI x5, oI x6] (q.2 ++ []) q.1)) (fun _ => rfl) (rg_bd1 h fun v1 hc h => rg_call (q := cvP s v1) (T_fBook_sharesHouse hc) ?_)
        refine rg_step 1 (G' := fun f => if v1 = 0 then evT f 17 109 [oR 30 0, oI x1, nn, oI x3, oI x4, oI x5, oI x6] [] s else evT f 17 107 [oR 30 0, oI x1, nn, oI x3, oI x4, oI x5, oI x6] [] s) (fun _ => rfl) (rg_if h (fun h => ?_) fun h => ?_)
        · exact (t_fBook_addsRange_1_b109 hk71) h
        · exact rg_end 2 (fun _ => rfl) (by cases h; rfl)
      · exact (t_fBook_addsRange_1_b109 hk71) h
    · refine rg_step 8 (G' := fun f => if inb (s.1 30 7) 60 = true then evT f 17 127 [oR 30 0, oI x1, nn, oI x3, oI x4, oI x5, oI x6] [] (wI s (39 + (ix (cI 0))) (ix (s.1 30 7)) x1) else none) (fun _ => rfl) (rg_gd h fun h => rg_ltM h fun s2 h => ?_)
      refine rg_step 8 (G' := fun f => if inb (s2.1 30 7) 60 = true then evT f 17 139 [oR 30 0, oI x1, nn, oI x3, oI x4, oI x5, oI x6] [] (wI s2 (39 + (ix (cI 1))) (ix (s2.1 30 7)) x3) else none) (fun _ => rfl) (rg_gd h fun h => rg_ltM h fun s3 h => ?_)
      refine rg_step 8 (G' := fun f => if inb (s3.1 30 7) 60 = true then evT f 17 152 [oR 30 0, oI x1, nn, oI x3, oI x4, oI x5, oI x6] [] (wI s3 (39 + (ix (cI 2))) (ix (s3.1 30 7)) x4) else none) (fun _ => rfl) (rg_gd h fun h => rg_ltM h fun s4 h => ?_)
      refine rg_step 11 (G' := fun f => evT f 17 169 [oR 30 0, oI x1, nn, oI x3, oI x4, oI x5, oI x6] [vI (s4.1 30 7), vR 39 (ix (cI 3))] (wI s4 30 7 ((s4.1 30 7) + (cI 1)))) (fun _ => rfl) (rg_ltM h fun s5 h => ?_)
      refine rg_step 2 (G' := fun f => if inb (s4.1 30 7) 60 = true then evT f 17 172 [oR 30 0, oI x1, nn, oI x3, oI x4, oI x5, oI x6] [] (wI s5 (39 + (ix (cI 3))) (ix (s4.1 30 7)) x5) else none) (fun _ => rfl) (rg_gd h fun h => rg_ltM h fun s6 h => ?_)
      exact rg_end 2 (fun _ => rfl) (by cases h; rfl)
theorem t_fBook_addsRange_1_h71 {n : Nat} {s : ev_M} {x1 : Int32} {x3 : Int32} {x4 : Int32} {x5 : Int32} {x6 : Int32} {j2 : Option ev_V} {q : ev_M × Int32} (h : fBook_addsRange_1_h71 n s x1 x3 x4 x5 x6 = some q) : RR 17 71 [oR 30 0, oI x1, j2, oI x3, oI x4, oI x5, oI x6] [] s (cvI q) := ti_fBook_addsRange_1_h71 n s x1 x3 x4 x5 x6 j2 q h
theorem T_fBook_addsRange_1 {s : ev_M} {a1 : Int32} {q : ev_M × Int32} (h : fBook_addsRange_1 s a1 = some q) : RR 17 0 [oR 30 0, oI a1, oR 1 0, nn, nn, nn, nn] [] s (cvI q) := by
  refine rg_step 5 (G' := fun f => evT f 17 7 [oR 30 0, oI a1, oR 1 0, oI (s.1 3 (ix (cI 1))), nn, nn, nn] [] s) (fun _ => rfl) (rg_ltI (P := fun v7 => RG (fun f => evT f 17 7 [oR 30 0, oI a1, oR 1 0, oI v7, nn, nn, nn] [] s) (cvI q)) h fun v7 h => ?_)
  refine rg_step 5 (G' := fun f => evT f 17 15 [oR 30 0, oI a1, oR 1 0, oI v7, oI (s.1 3 (ix (cI 2))), nn, nn] [] s) (fun _ => rfl) (rg_ltI (P := fun v8 => RG (fun f => evT f 17 15 [oR 30 0, oI a1, oR 1 0, oI v7, oI v8, nn, nn] [] s) (cvI q)) h fun v8 h => ?_)
  refine rg_step 5 (G' := fun f => evT f 17 23 [oR 30 0, oI a1, oR 1 0, oI v7, oI v8, oI (s.1 3 (ix (cI 3))), nn] [] s) (fun _ => rfl) (rg_ltI (P := fun v9 => RG (fun f => evT f 17 23 [oR 30 0, oI a1, oR 1 0, oI v7, oI v8, oI v9, nn] [] s) (cvI q)) h fun v9 h => ?_)
  refine rg_step 4 (G' := fun f => ev_after (evT f 308 0 [oI v7, oI (cI 0), oI (cI 2)] [] s) (fun q => evT f 17 29 [oR 30 0, oI a1, oR 1 0, oI v7, oI v8, oI v9, nn] (q.2 ++ []) q.1)) (fun _ => rfl) (rg_bd1 h fun v10 hc h => rg_call (q := cvP s v10) (T_fPH_outside hc) ?_)
  refine rg_step 1 (G' := fun f => if v10 = 0 then evT f 17 32 [oR 30 0, oI a1, oR 1 0, oI v7, oI v8, oI v9, nn] [] s else evT f 17 66 [oR 30 0, oI a1, oR 1 0, oI v7, oI v8, oI v9, nn] [] s) (fun _ => rfl) (rg_if h (fun h => ?_) fun h => ?_)
  · refine rg_step 4 (G' := fun f => ev_after (evT f 308 0 [oI v8, oI (cI 1), oI (cI 999)] [] s) (fun q => evT f 17 41 [oR 30 0, oI a1, oR 1 0, oI v7, oI v8, oI v9, nn] (q.2 ++ []) q.1)) (fun _ => rfl) (rg_bd1 h fun v11 hc h => rg_call (q := cvP s v11) (T_fPH_outside hc) ?_)
    refine rg_step 1 (G' := fun f => if v11 = 0 then evT f 17 44 [oR 30 0, oI a1, oR 1 0, oI v7, oI v8, oI v9, nn] [] s else evT f 17 66 [oR 30 0, oI a1, oR 1 0, oI v7, oI v8, oI v9, nn] [] s) (fun _ => rfl) (rg_if h (fun h => ?_) fun h => ?_)
    · refine rg_step 4 (G' := fun f => ev_after (evT f 308 0 [oI v9, oI v8, oI (cI 999)] [] s) (fun q => evT f 17 54 [oR 30 0, oI a1, oR 1 0, oI v7, oI v8, oI v9, nn] (q.2 ++ []) q.1)) (fun _ => rfl) (rg_bd1 h fun v12 hc h => rg_call (q := cvP s v12) (T_fPH_outside hc) ?_)
      refine rg_step 1 (G' := fun f => if v12 = 0 then evT f 17 57 [oR 30 0, oI a1, oR 1 0, oI v7, oI v8, oI v9, nn] [] s else evT f 17 66 [oR 30 0, oI a1, oR 1 0, oI v7, oI v8, oI v9, nn] [] s) (fun _ => rfl) (rg_if h (fun h => ?_) fun h => ?_)
      · refine rg_step 4 (G' := fun f => if (s.1 30 7) < (cI 60) then evT f 17 68 [oR 30 0, oI a1, oR 1 0, oI v7, oI v8, oI v9, nn] [] s else evT f 17 66 [oR 30 0, oI a1, oR 1 0, oI v7, oI v8, oI v9, nn] [] s) (fun _ => rfl) (rg_if h (fun h => ?_) fun h => ?_)
        · exact rg_step 2 (G' := fun f => evT f 17 71 [oR 30 0, oI a1, oR 1 0, oI v7, oI v8, oI v9, oI (cI 0)] [] s) (fun _ => rfl) ((t_fBook_addsRange_1_h71) h)
        · exact rg_end 2 (fun _ => rfl) (by cases h; rfl)
      · exact rg_end 2 (fun _ => rfl) (by cases h; rfl)
    · exact rg_end 2 (fun _ => rfl) (by cases h; rfl)
  · exact rg_end 2 (fun _ => rfl) (by cases h; rfl)
theorem t_fBook_hasHouse_b74 {s : ev_M} {k2 : Int32 → Int32 → Int32 → Option Int32} (hk2 : ∀ {x1 : Int32} {x2 : Int32} {x3 : Int32} {j4 : Option ev_V} {q : Int32}, k2 x1 x2 x3 = some q → RR 21 2 [oR 30 0, oI x1, oI x2, oI x3, j4] [] s (cvP s q)) {x1 : Int32} {x2 : Int32} {x3 : Int32} {j4 : Option ev_V} {q : Int32} (h : fBook_hasHouse_b74 s k2 x1 x2 x3 = some q) : RR 21 74 [oR 30 0, oI x1, oI x2, oI x3, j4] [] s (cvP s q) := by
  exact rg_step 2 (G' := fun f => evT f 21 2 [oR 30 0, oI x1, oI x2, oI (x3 + cI 1), nn] [] s) (fun _ => rfl) (hk2 h)
theorem t_fBook_hasHouse_b50 {s : ev_M} {k2 : Int32 → Int32 → Int32 → Option Int32} (hk2 : ∀ {x1 : Int32} {x2 : Int32} {x3 : Int32} {j4 : Option ev_V} {q : Int32}, k2 x1 x2 x3 = some q → RR 21 2 [oR 30 0, oI x1, oI x2, oI x3, j4] [] s (cvP s q)) {x1 : Int32} {x2 : Int32} {x3 : Int32} {y0 : Int32} {j4 : Option ev_V} {q : Int32} (h : fBook_hasHouse_b50 s k2 x1 x2 x3 y0 = some q) : RR 21 50 [oR 30 0, oI x1, oI x2, oI x3, j4] [vI y0] s (cvP s q) := by
  refine rg_step 3 (G' := fun f => if y0 = 0 then evT f 21 74 [oR 30 0, oI x1, oI x2, oI x3, oI y0] [] s else evT f 21 57 [oR 30 0, oI x1, oI x2, oI x3, oI y0] [] s) (fun _ => rfl) (rg_if h (fun h => ?_) fun h => ?_)
  · exact (t_fBook_hasHouse_b74 hk2) h
  · refine rg_step 7 (G' := fun f => if inb x3 60 = true then evT f 21 66 [oR 30 0, oI x1, oI x2, oI x3, oI y0] [vI (s.1 (39 + (ix (cI 1))) (ix x3)), vI x2] s else none) (fun _ => rfl) (rg_gd h fun h => ?_)
    refine rg_step 1 (G' := fun f => ev_after (evT f 19 0 [oI x2, oI (s.1 (39 + (ix (cI 1))) (ix x3))] [] s) (fun q => evT f 21 69 [oR 30 0, oI x1, oI x2, oI x3, oI y0] (q.2 ++ []) q.1)) (fun _ => rfl) (rg_bd1 h fun v1 hc h => rg_call (q := cvP s v1) (T_fBook_isOnSide hc) ?_)
    refine rg_step 1 (G' := fun f => if v1 = 0 then evT f 21 74 [oR 30 0, oI x1, oI x2, oI x3, oI y0] [] s else evT f 21 72 [oR 30 0, oI x1, oI x2, oI x3, oI y0] [] s) (fun _ => rfl) (rg_if h (fun h => ?_) fun h => ?_)
    · exact (t_fBook_hasHouse_b74 hk2) h
    · exact rg_end 2 (fun _ => rfl) (by cases h; rfl)
theorem t_fBook_hasHouse_b49 {s : ev_M} {k2 : Int32 → Int32 → Int32 → Option Int32} (hk2 : ∀ {x1 : Int32} {x2 : Int32} {x3 : Int32} {j4 : Option ev_V} {q : Int32}, k2 x1 x2 x3 = some q → RR 21 2 [oR 30 0, oI x1, oI x2, oI x3, j4] [] s (cvP s q)) {x1 : Int32} {x2 : Int32} {x3 : Int32} {j4 : Option ev_V} {q : Int32} (h : fBook_hasHouse_b49 s k2 x1 x2 x3 = some q) : RR 21 49 [oR 30 0, oI x1, oI x2, oI x3, j4] [] s (cvP s q) := by
  exact rg_step 1 (G' := fun f => evT f 21 50 [oR 30 0, oI x1, oI x2, oI x3, nn] [vI (cI 0)] s) (fun _ => rfl) ((t_fBook_hasHouse_b50 hk2) h)
theorem ti_fBook_hasHouse_h2 {s : ev_M} : ∀ (n : Nat) (x1 : Int32) (x2 : Int32) (x3 : Int32) (j4 : Option ev_V) (q : Int32), fBook_hasHouse_h2 s n x1 x2 x3 = some q → RR 21 2 [oR 30 0, oI x1, oI x2, oI x3, j4] [] s (cvP s q) := by
  intro n
  induction n with
  | zero => intro x1 x2 x3 j4 q h; cases h
  | succ n ih =>
    have hk2 : ∀ {x1 : Int32} {x2 : Int32} {x3 : Int32} {j4 : Option ev_V} {q : Int32}, fBook_hasHouse_h2 s n x1 x2 x3 = some q → RR 21 2 [oR 30 0, oI x1, oI x2, oI x3, j4] [] s (cvP s q) := fun h => ih _ _ _ _ _ h
    intro x1 x2 x3 j4 q h
    refine rg_step 4 (G' := fun f => if x3 < (s.1 30 7) then evT f 21 10 [oR 30 0, oI x1, oI x2, oI x3, nn] [] s else evT f 21 80 [oR 30 0, oI x1, oI x2, oI x3, nn] [] s) (fun _ => rfl) (rg_if h (fun h => ?_) fun h => ?_)
    · refine rg_step 6 (G' := fun f => if inb x3 60 = true then evT f 21 18 [oR 30 0, oI x1, oI x2, oI x3, nn] [vI (s.1 (39 + (ix (cI 0))) (ix x3))] s else none) (fun _ => rfl) (rg_gd h fun h => ?_)
      refine rg_step 2 (G' := fun f => if (s.1 (39 + (ix (cI 0))) (ix x3)) = x1 then evT f 21 22 [oR 30 0, oI x1, oI x2, oI x3, nn] [] s else evT f 21 49 [oR 30 0, oI x1, oI x2, oI x3, nn] [] s) (fun _ => rfl) (rg_if h (fun h => ?_) fun h => ?_)
      · refine rg_step 7 (G' := fun f => if inb x3 60 = true then evT f 21 31 [oR 30 0, oI x1, oI x2, oI x3, nn] [vI (s.1 (39 + (ix (cI 2))) (ix x3)), vI x2] s else none) (fun _ => rfl) (rg_gd h fun h => ?_)
        refine rg_step 6 (G' := fun f => if inb x3 60 = true then evT f 21 39 [oR 30 0, oI x1, oI x2, oI x3, nn] [vI (s.1 (39 + (ix (cI 3))) (ix x3)), vI (s.1 (39 + (ix (cI 2))) (ix x3)), vI x2] s else none) (fun _ => rfl) (rg_gd h fun h => ?_)
        refine rg_step 1 (G' := fun f => ev_after (evT f 308 0 [oI x2, oI (s.1 (39 + (ix (cI 2))) (ix x3)), oI (s.1 (39 + (ix (cI 3))) (ix x3))] [] s) (fun q => evT f 21 42 [oR 30 0, oI x1, oI x2, oI x3, nn] (q.2 ++ []) q.1)) (fun _ => rfl) (rg_bd1 h fun v2 hc h => rg_call (q := cvP s v2) (T_fPH_outside hc) ?_)
        refine rg_step 1 (G' := fun f => if v2 = 0 then evT f 21 45 [oR 30 0, oI x1, oI x2, oI x3, nn] [] s else evT f 21 49 [oR 30 0, oI x1, oI x2, oI x3, nn] [] s) (fun _ => rfl) (rg_if h (fun h => ?_) fun h => ?_)
        · exact rg_step 2 (G' := fun f => evT f 21 50 [oR 30 0, oI x1, oI x2, oI x3, nn] [vI (cI 1)] s) (fun _ => rfl) ((t_fBook_hasHouse_b50 hk2) h)
        · exact (t_fBook_hasHouse_b49 hk2) h
      · exact (t_fBook_hasHouse_b49 hk2) h
    · exact rg_end 2 (fun _ => rfl) (by cases h; rfl)
theorem t_fBook_hasHouse_h2 {s : ev_M} {n : Nat} {x1 : Int32} {x2 : Int32} {x3 : Int32} {j4 : Option ev_V} {q : Int32} (h : fBook_hasHouse_h2 s n x1 x2 x3 = some q) : RR 21 2 [oR 30 0, oI x1, oI x2, oI x3, j4] [] s (cvP s q) := ti_fBook_hasHouse_h2 n x1 x2 x3 j4 q h
theorem T_fBook_hasHouse {s : ev_M} {a1 : Int32} {a2 : Int32} {q : Int32} (h : fBook_hasHouse s a1 a2 = some q) : RR 21 0 [oR 30 0, oI a1, oI a2, nn, nn] [] s (cvP s q) := by
  exact rg_step 2 (G' := fun f => evT f 21 2 [oR 30 0, oI a1, oI a2, oI (cI 0), nn] [] s) (fun _ => rfl) ((t_fBook_hasHouse_h2) h)
theorem t_fBook_pointOf_b36 {s : ev_M} {k2 : Int32 → Int32 → Int32 → Option Int32} (hk2 : ∀ {x1 : Int32} {x2 : Int32} {x3 : Int32} {q : Int32}, k2 x1 x2 x3 = some q → RR 24 2 [oR 30 0, oI x1, oI x2, oI x3] [] s (cvP s q)) {x1 : Int32} {x2 : Int32} {x3 : Int32} {q : Int32} (h : fBook_pointOf_b36 s k2 x1 x2 x3 = some q) : RR 24 36 [oR 30 0, oI x1, oI x2, oI x3] [] s (cvP s q) := by
  exact rg_step 2 (G' := fun f => evT f 24 2 [oR 30 0, oI x1, oI x2, oI (x3 + cI 1)] [] s) (fun _ => rfl) (hk2 h)
theorem ti_fBook_pointOf_h2 {s : ev_M} : ∀ (n : Nat) (x1 : Int32) (x2 : Int32) (x3 : Int32) (q : Int32), fBook_pointOf_h2 s n x1 x2 x3 = some q → RR 24 2 [oR 30 0, oI x1, oI x2, oI x3] [] s (cvP s q) := by
  intro n
  induction n with
  | zero => intro x1 x2 x3 q h; cases h
  | succ n ih =>
    have hk2 : ∀ {x1 : Int32} {x2 : Int32} {x3 : Int32} {q : Int32}, fBook_pointOf_h2 s n x1 x2 x3 = some q → RR 24 2 [oR 30 0, oI x1, oI x2, oI x3] [] s (cvP s q) := fun h => ih _ _ _ _ h
    intro x1 x2 x3 q h
    refine rg_step 4 (G' := fun f => if x3 < (s.1 30 9) then evT f 24 10 [oR 30 0, oI x1, oI x2, oI x3] [] s else evT f 24 42 [oR 30 0, oI x1, oI x2, oI x3] [] s) (fun _ => rfl) (rg_if h (fun h => ?_) fun h => ?_)
    · refine rg_step 6 (G' := fun f => if inb x3 120 = true then evT f 24 18 [oR 30 0, oI x1, oI x2, oI x3] [vI (s.1 (44 + (ix (cI 0))) (ix x3))] s else none) (fun _ => rfl) (rg_gd h fun h => ?_)
      refine rg_step 2 (G' := fun f => if (s.1 (44 + (ix (cI 0))) (ix x3)) = x1 then evT f 24 22 [oR 30 0, oI x1, oI x2, oI x3] [] s else evT f 24 36 [oR 30 0, oI x1, oI x2, oI x3] [] s) (fun _ => rfl) (rg_if h (fun h => ?_) fun h => ?_)
      · refine rg_step 6 (G' := fun f => if inb x3 120 = true then evT f 24 30 [oR 30 0, oI x1, oI x2, oI x3] [vI (s.1 (44 + (ix (cI 1))) (ix x3))] s else none) (fun _ => rfl) (rg_gd h fun h => ?_)
        refine rg_step 2 (G' := fun f => if (s.1 (44 + (ix (cI 1))) (ix x3)) = x2 then evT f 24 34 [oR 30 0, oI x1, oI x2, oI x3] [] s else evT f 24 36 [oR 30 0, oI x1, oI x2, oI x3] [] s) (fun _ => rfl) (rg_if h (fun h => ?_) fun h => ?_)
        · exact rg_end 2 (fun _ => rfl) (by cases h; rfl)
        · exact (t_fBook_pointOf_b36 hk2) h
      · exact (t_fBook_pointOf_b36 hk2) h
    · exact rg_end 2 (fun _ => rfl) (by cases h; rfl)
theorem t_fBook_pointOf_h2 {s : ev_M} {n : Nat} {x1 : Int32} {x2 : Int32} {x3 : Int32} {q : Int32} (h : fBook_pointOf_h2 s n x1 x2 x3 = some q) : RR 24 2 [oR 30 0, oI x1, oI x2, oI x3] [] s (cvP s q) := ti_fBook_pointOf_h2 n x1 x2 x3 q h
theorem T_fBook_pointOf {s : ev_M} {a1 : Int32} {a2 : Int32} {q : Int32} (h : fBook_pointOf s a1 a2 = some q) : RR 24 0 [oR 30 0, oI a1, oI a2, nn] [] s (cvP s q) := by
  exact rg_step 2 (G' := fun f => evT f 24 2 [oR 30 0, oI a1, oI a2, oI (cI 0)] [] s) (fun _ => rfl) ((t_fBook_pointOf_h2) h)
theorem T_fBook_addsPoint {s : ev_M} {a1 : Int32} {a2 : Int32} {q : ev_M × Int32} (h : fBook_addsPoint s a1 a2 = some q) : RR 20 0 [oR 30 0, oI a1, oI a2] [] s (cvI q) := by
  refine rg_step 4 (G' := fun f => ev_after (evT f 21 0 [oR 30 0, oI a1, oI a2, nn, nn] [] s) (fun q => evT f 20 6 [oR 30 0, oI a1, oI a2] (q.2 ++ []) q.1)) (fun _ => rfl) (rg_bd1 h fun v1 hc h => rg_call (q := cvP s v1) (T_fBook_hasHouse hc) ?_)
  refine rg_step 1 (G' := fun f => if v1 = 0 then evT f 20 28 [oR 30 0, oI a1, oI a2] [] s else evT f 20 9 [oR 30 0, oI a1, oI a2] [] s) (fun _ => rfl) (rg_if h (fun h => ?_) fun h => ?_)
  · exact rg_end 2 (fun _ => rfl) (by cases h; rfl)
  · refine rg_step 4 (G' := fun f => ev_after (evT f 24 0 [oR 30 0, oI a1, oI a2, nn] [] s) (fun q => evT f 20 15 [oR 30 0, oI a1, oI a2] (q.2 ++ []) q.1)) (fun _ => rfl) (rg_bd1 h fun v2 hc h => rg_call (q := cvP s v2) (T_fBook_pointOf hc) ?_)
    refine rg_step 2 (G' := fun f => if v2 = (cI (-1)) then evT f 20 19 [oR 30 0, oI a1, oI a2] [] s else evT f 20 28 [oR 30 0, oI a1, oI a2] [] s) (fun _ => rfl) (rg_if h (fun h => ?_) fun h => ?_)
    · refine rg_step 4 (G' := fun f => if (s.1 30 9) < (cI 120) then evT f 20 30 [oR 30 0, oI a1, oI a2] [] s else evT f 20 28 [oR 30 0, oI a1, oI a2] [] s) (fun _ => rfl) (rg_if h (fun h => ?_) fun h => ?_)
      · refine rg_step 8 (G' := fun f => if inb (s.1 30 9) 120 = true then evT f 20 42 [oR 30 0, oI a1, oI a2] [] (wI s (44 + (ix (cI 0))) (ix (s.1 30 9)) a1) else none) (fun _ => rfl) (rg_gd h fun h => rg_ltM h fun s3 h => ?_)
        refine rg_step 11 (G' := fun f => evT f 20 59 [oR 30 0, oI a1, oI a2] [vI (s3.1 30 9), vR 44 (ix (cI 1))] (wI s3 30 9 ((s3.1 30 9) + (cI 1)))) (fun _ => rfl) (rg_ltM h fun s4 h => ?_)
        refine rg_step 2 (G' := fun f => if inb (s3.1 30 9) 120 = true then evT f 20 61 [oR 30 0, oI a1, oI a2] [] (wI s4 (44 + (ix (cI 1))) (ix (s3.1 30 9)) a2) else none) (fun _ => rfl) (rg_gd h fun h => rg_ltM h fun s5 h => ?_)
        exact rg_end 2 (fun _ => rfl) (by cases h; rfl)
      · exact rg_end 2 (fun _ => rfl) (by cases h; rfl)
    · exact rg_end 2 (fun _ => rfl) (by cases h; rfl)
theorem T_fBook_adds_1 {s : ev_M} {a1 : Int32} {q : ev_M × Int32} (h : fBook_adds_1 s a1 = some q) : RR 14 0 [oR 30 0, oI a1, oR 1 0, nn, nn] [] s (cvI q) := by
  refine rg_step 3 (G' := fun f => if a1 = (cI 80) then evT f 14 6 [oR 30 0, oI a1, oR 1 0, nn, nn] [] s else evT f 14 17 [oR 30 0, oI a1, oR 1 0, nn, nn] [] s) (fun _ => rfl) (rg_if h (fun h => ?_) fun h => ?_)
  · refine rg_step 6 (G' := fun f => ev_after (evT f 15 0 [oR 30 0, oI (s.1 3 (ix (cI 0)))] [] s) (fun q => evT f 14 16 [oR 30 0, oI a1, oR 1 0, nn, nn] (q.2 ++ []) q.1)) (fun _ => rfl) (rg_bd2 h fun s1 v2 hc h => rg_call (q := cvI (s1, v2)) (T_fBook_addsPlace hc) ?_)
    exact rg_step 1 (G' := fun f => if bz v2 = true then some (s1, [vI v2]) else none) (fun _ => rfl) (rg_gd h fun h => rg_end 0 (fun _ => rfl) (by cases h; rfl))
  · refine rg_step 6 (G' := fun f => ev_after (evT f 22 0 [oR 30 0, oI (s.1 3 (ix (cI 0))), nn] [] s) (fun q => evT f 14 27 [oR 30 0, oI a1, oR 1 0, nn, nn] (q.2 ++ []) q.1)) (fun _ => rfl) (rg_bd1 h fun v3 hc h => rg_call (q := cvP s v3) (T_fBook_placeOf hc) ?_)
    refine rg_step 4 (G' := fun f => if v3 = (cI (-1)) then evT f 14 33 [oR 30 0, oI a1, oR 1 0, oI v3, nn] [] s else evT f 14 35 [oR 30 0, oI a1, oR 1 0, oI v3, nn] [] s) (fun _ => rfl) (rg_if h (fun h => ?_) fun h => ?_)
    · exact rg_end 2 (fun _ => rfl) (by cases h; rfl)
    · refine rg_step 3 (G' := fun f => if a1 = (cI 83) then evT f 14 41 [oR 30 0, oI a1, oR 1 0, oI v3, nn] [] s else evT f 14 48 [oR 30 0, oI a1, oR 1 0, oI v3, nn] [] s) (fun _ => rfl) (rg_if h (fun h => ?_) fun h => ?_)
      · refine rg_step 4 (G' := fun f => ev_after (evT f 16 0 [oR 30 0, oI v3, oR 1 0, nn, nn, nn] [] s) (fun q => evT f 14 47 [oR 30 0, oI a1, oR 1 0, oI v3, nn] (q.2 ++ []) q.1)) (fun _ => rfl) (rg_bd2 h fun s4 v5 hc h => rg_call (q := cvI (s4, v5)) (T_fBook_addsStreet_1 hc) ?_)
        exact rg_step 1 (G' := fun f => if bz v5 = true then some (s4, [vI v5]) else none) (fun _ => rfl) (rg_gd h fun h => rg_end 0 (fun _ => rfl) (by cases h; rfl))
      · refine rg_step 5 (G' := fun f => ev_after (evT f 23 0 [oR 30 0, oI v3, oL (s.2.1 1 5), nn, nn] [] s) (fun q => evT f 14 57 [oR 30 0, oI a1, oR 1 0, oI v3, nn] (q.2 ++ []) q.1)) (fun _ => rfl) (rg_bd1 h fun v6 hc h => rg_call (q := cvP s v6) (T_fBook_streetOf hc) ?_)
        refine rg_step 4 (G' := fun f => if v6 = (cI (-1)) then evT f 14 65 [oR 30 0, oI a1, oR 1 0, oI v3, oI v6] [] s else evT f 14 67 [oR 30 0, oI a1, oR 1 0, oI v3, oI v6] [] s) (fun _ => rfl) (rg_if h (fun h => ?_) fun h => ?_)
        · exact rg_end 2 (fun _ => rfl) (by cases h; rfl)
        · refine rg_step 3 (G' := fun f => if a1 = (cI 82) then evT f 14 73 [oR 30 0, oI a1, oR 1 0, oI v3, oI v6] [] s else evT f 14 83 [oR 30 0, oI a1, oR 1 0, oI v3, oI v6] [] s) (fun _ => rfl) (rg_if h (fun h => ?_) fun h => ?_)
          · refine rg_step 4 (G' := fun f => ev_after (evT f 17 0 [oR 30 0, oI v6, oR 1 0, nn, nn, nn, nn] [] s) (fun q => evT f 14 80 [oR 30 0, oI a1, oR 1 0, oI v3, oI v6] (q.2 ++ []) q.1)) (fun _ => rfl) (rg_bd2 h fun s7 v8 hc h => rg_call (q := cvI (s7, v8)) (T_fBook_addsRange_1 hc) ?_)
            exact rg_step 2 (G' := fun f => if bz v8 = true then some (s7, [vI v8]) else none) (fun _ => rfl) (rg_gd h fun h => rg_end 0 (fun _ => rfl) (by cases h; rfl))
          · refine rg_step 7 (G' := fun f => ev_after (evT f 20 0 [oR 30 0, oI v6, oI (s.1 3 (ix (cI 1)))] [] s) (fun q => evT f 14 95 [oR 30 0, oI a1, oR 1 0, oI v3, oI v6] (q.2 ++ []) q.1)) (fun _ => rfl) (rg_bd2 h fun s9 v10 hc h => rg_call (q := cvI (s9, v10)) (T_fBook_addsPoint hc) ?_)
            exact rg_step 1 (G' := fun f => if bz v10 = true then some (s9, [vI v10]) else none) (fun _ => rfl) (rg_gd h fun h => rg_end 0 (fun _ => rfl) (by cases h; rfl))
theorem T_fBook_keepFirst {s : ev_M} {a1 : Int32} {a2 : Int32} {a3 : Int32} {a4 : Int32} {q : ev_M} (h : fBook_keepFirst s a1 a2 a3 a4 = some q) : RR 12 0 [oR 30 0, oI a1, oI a2, oI a3, oI a4] [] s (cvV q) := by
  refine rg_step 3 (G' := fun f => evT f 12 5 [oR 30 0, oI a1, oI a2, oI a3, oI a4] [] (wI s 30 2 a1)) (fun _ => rfl) (rg_ltM h fun s1 h => ?_)
  refine rg_step 3 (G' := fun f => evT f 12 10 [oR 30 0, oI a1, oI a2, oI a3, oI a4] [] (wI s1 30 4 a2)) (fun _ => rfl) (rg_ltM h fun s2 h => ?_)
  refine rg_step 3 (G' := fun f => evT f 12 15 [oR 30 0, oI a1, oI a2, oI a3, oI a4] [] (wI s2 30 7 a3)) (fun _ => rfl) (rg_ltM h fun s3 h => ?_)
  refine rg_step 3 (G' := fun f => evT f 12 21 [oR 30 0, oI a1, oI a2, oI a3, oI a4] [] (wI s3 30 9 a4)) (fun _ => rfl) (rg_ltM h fun s4 h => ?_)
  exact rg_end 1 (fun _ => rfl) (by cases h; rfl)
theorem T_fTape_hasMore_1 {s : ev_M} {q : Int32} (h : fTape_hasMore_1 s = some q) : RR 225 0 [oR 1 0] [] s (cvP s q) := by
  refine rg_step 5 (G' := fun f => if (s.1 1 2) < (s.1 1 1) then evT f 225 11 [oR 1 0] [] s else evT f 225 15 [oR 1 0] [] s) (fun _ => rfl) (rg_if h (fun h => ?_) fun h => ?_)
  · exact rg_end 3 (fun _ => rfl) (by cases h; rfl)
  · exact rg_end 2 (fun _ => rfl) (by cases h; rfl)
theorem t_fBook_readText_1_b102 {k33 : ev_M → Int32 → Int32 → Int32 → Int32 → Int32 → Int32 → Option (ev_M × Int32)} (hk33 : ∀ {s : ev_M} {x2 : Int32} {x3 : Int32} {x4 : Int32} {x5 : Int32} {x6 : Int32} {x7 : Int32} {j8 : Option ev_V} {j9 : Option ev_V} {q : ev_M × Int32}, k33 s x2 x3 x4 x5 x6 x7 = some q → RR 13 33 [oR 30 0, oR 1 0, oI x2, oI x3, oI x4, oI x5, oI x6, oI x7, j8, j9] [] s (cvI q)) {s : ev_M} {x2 : Int32} {x3 : Int32} {x4 : Int32} {x5 : Int32} {x6 : Int32} {x7 : Int32} {j8 : Option ev_V} {j9 : Option ev_V} {q : ev_M × Int32} (h : fBook_readText_1_b102 k33 s x2 x3 x4 x5 x6 x7 = some q) : RR 13 102 [oR 30 0, oR 1 0, oI x2, oI x3, oI x4, oI x5, oI x6, oI x7, j8, j9] [] s (cvI q) := by
  exact rg_step 2 (G' := fun f => evT f 13 33 [oR 30 0, oR 1 0, oI x2, oI x3, oI x4, oI x5, oI x6, oI (x7 + cI 1), nn, nn] [] s) (fun _ => rfl) (hk33 h)
theorem t_fBook_readText_1_b59 {k33 : ev_M → Int32 → Int32 → Int32 → Int32 → Int32 → Int32 → Option (ev_M × Int32)} (hk33 : ∀ {s : ev_M} {x2 : Int32} {x3 : Int32} {x4 : Int32} {x5 : Int32} {x6 : Int32} {x7 : Int32} {j8 : Option ev_V} {j9 : Option ev_V} {q : ev_M × Int32}, k33 s x2 x3 x4 x5 x6 x7 = some q → RR 13 33 [oR 30 0, oR 1 0, oI x2, oI x3, oI x4, oI x5, oI x6, oI x7, j8, j9] [] s (cvI q)) {s : ev_M} {x2 : Int32} {x3 : Int32} {x4 : Int32} {x5 : Int32} {x6 : Int32} {x7 : Int32} {j8 : Option ev_V} {j9 : Option ev_V} {q : ev_M × Int32} (h : fBook_readText_1_b59 k33 s x2 x3 x4 x5 x6 x7 = some q) : RR 13 59 [oR 30 0, oR 1 0, oI x2, oI x3, oI x4, oI x5, oI x6, oI x7, j8, j9] [] s (cvI q) := by
  refine rg_step 3 (G' := fun f => evT f 13 65 [oR 30 0, oR 1 0, oI x2, oI x3, oI x4, oI x5, oI x6, oI x7, oI (s.1 1 2), nn] [] s) (fun _ => rfl) (rg_ltI (P := fun v1 => RG (fun f => evT f 13 65 [oR 30 0, oR 1 0, oI x2, oI x3, oI x4, oI x5, oI x6, oI x7, oI v1, nn] [] s) (cvI q)) h fun v1 h => ?_)
  refine rg_step 3 (G' := fun f => ev_after (evT f 226 0 [oR 1 0, oR 1010 0, nn, nn, nn] [] s) (fun q => evT f 13 71 [oR 30 0, oR 1 0, oI x2, oI x3, oI x4, oI x5, oI x6, oI x7, oI v1, nn] (q.2 ++ []) q.1)) (fun _ => rfl) (rg_bd2 h fun s2 v3 hc h => rg_call (q := cvI (s2, v3)) (T_fTape_readsEntry_1_1010 hc) ?_)
  refine rg_step 4 (G' := fun f => if v3 = (cI (-1)) then evT f 13 79 [oR 30 0, oR 1 0, oI x2, oI x3, oI x4, oI x5, oI x6, oI x7, oI v1, oI v3] [] s2 else evT f 13 88 [oR 30 0, oR 1 0, oI x2, oI x3, oI x4, oI x5, oI x6, oI x7, oI v1, oI v3] [] s2) (fun _ => rfl) (rg_if h (fun h => ?_) fun h => ?_)
  · refine rg_step 3 (G' := fun f => evT f 13 85 [oR 30 0, oR 1 0, oI x2, oI x3, oI x4, oI x5, oI (s2.1 1 2), oI x7, oI v1, oI v3] [] s2) (fun _ => rfl) (rg_ltI (P := fun v4 => RG (fun f => evT f 13 85 [oR 30 0, oR 1 0, oI x2, oI x3, oI x4, oI x5, oI v4, oI x7, oI v1, oI v3] [] s2) (cvI q)) h fun v4 h => ?_)
    exact rg_step 1 (G' := fun f => evT f 13 102 [oR 30 0, oR 1 0, oI x2, oI x3, oI x4, oI x5, oI v4, oI x7, oI v1, oI v3] [] s2) (fun _ => rfl) ((t_fBook_readText_1_b102 hk33) h)
  · refine rg_step 4 (G' := fun f => ev_after (evT f 14 0 [oR 30 0, oI v3, oR 1 0, nn, nn] [] s2) (fun q => evT f 13 95 [oR 30 0, oR 1 0, oI x2, oI x3, oI x4, oI x5, oI x6, oI x7, oI v1, oI v3] (q.2 ++ []) q.1)) (fun _ => rfl) (rg_bd2 h fun s5 v6 hc h => rg_call (q := cvI (s5, v6)) (T_fBook_adds_1 hc) ?_)
    refine rg_step 1 (G' := fun f => if v6 = 0 then evT f 13 98 [oR 30 0, oR 1 0, oI x2, oI x3, oI x4, oI x5, oI x6, oI x7, oI v1, oI v3] [] s5 else evT f 13 102 [oR 30 0, oR 1 0, oI x2, oI x3, oI x4, oI x5, oI x6, oI x7, oI v1, oI v3] [] s5) (fun _ => rfl) (rg_if h (fun h => ?_) fun h => ?_)
    · exact rg_step 2 (G' := fun f => evT f 13 102 [oR 30 0, oR 1 0, oI x2, oI x3, oI x4, oI x5, oI v1, oI x7, oI v1, oI v3] [] s5) (fun _ => rfl) ((t_fBook_readText_1_b102 hk33) h)
    · exact (t_fBook_readText_1_b102 hk33) h
theorem t_fBook_readText_1_b127 {s : ev_M} {x2 : Int32} {x3 : Int32} {x4 : Int32} {x5 : Int32} {x6 : Int32} {j1 : Option ev_V} {j7 : Option ev_V} {j8 : Option ev_V} {j9 : Option ev_V} {q : ev_M × Int32} (h : fBook_readText_1_b127 s x2 x3 x4 x5 x6 = some q) : RR 13 127 [oR 30 0, j1, oI x2, oI x3, oI x4, oI x5, oI x6, j7, j8, j9] [] s (cvI q) := by
  refine rg_step 6 (G' := fun f => ev_after (evT f 12 0 [oR 30 0, oI x2, oI x3, oI x4, oI x5] [] s) (fun q => evT f 13 137 [oR 30 0, nn, oI x2, oI x3, oI x4, oI x5, oI x6, nn, nn, nn] (q.2 ++ []) q.1)) (fun _ => rfl) (rg_bd1 h fun s7 hc h => rg_call (q := cvV s7) (T_fBook_keepFirst hc) ?_)
  refine rg_step 3 (G' := fun f => if x6 = (cI (-1)) then evT f 13 143 [oR 30 0, nn, oI x2, oI x3, oI x4, oI x5, oI x6, nn, nn, nn] [] s7 else evT f 13 148 [oR 30 0, nn, oI x2, oI x3, oI x4, oI x5, oI x6, nn, nn, nn] [] s7) (fun _ => rfl) (rg_if h (fun h => ?_) fun h => ?_)
  · exact rg_end 3 (fun _ => rfl) (by cases h; rfl)
  · exact rg_end 4 (fun _ => rfl) (by cases h; rfl)
theorem t_fBook_readText_1_b108 {s : ev_M} {x2 : Int32} {x3 : Int32} {x4 : Int32} {x5 : Int32} {x6 : Int32} {x7 : Int32} {j1 : Option ev_V} {j8 : Option ev_V} {j9 : Option ev_V} {q : ev_M × Int32} (h : fBook_readText_1_b108 s x2 x3 x4 x5 x6 x7 = some q) : RR 13 108 [oR 30 0, j1, oI x2, oI x3, oI x4, oI x5, oI x6, oI x7, j8, j9] [] s (cvI q) := by
  refine rg_step 3 (G' := fun f => if x6 = (cI (-1)) then evT f 13 114 [oR 30 0, nn, oI x2, oI x3, oI x4, oI x5, oI x6, oI x7, nn, nn] [] s else evT f 13 127 [oR 30 0, nn, oI x2, oI x3, oI x4, oI x5, oI x6, oI x7, nn, nn] [] s) (fun _ => rfl) (rg_if h (fun h => ?_) fun h => ?_)
  · refine rg_step 3 (G' := fun f => ev_after (evT f 123 0 [oR 9 0, nn] [] s) (fun q => evT f 13 121 [oR 30 0, nn, oI x2, oI x3, oI x4, oI x5, oI x6, oI x7, nn, nn] (q.2 ++ []) q.1)) (fun _ => rfl) (rg_bd2 h fun s8 v9 hc h => rg_call (q := cvI (s8, v9)) (T_fLog_admits hc) ?_)
    refine rg_step 1 (G' := fun f => if v9 = 0 then evT f 13 127 [oR 30 0, nn, oI x2, oI x3, oI x4, oI x5, oI x6, oI x7, nn, nn] [] s8 else evT f 13 124 [oR 30 0, nn, oI x2, oI x3, oI x4, oI x5, oI x6, oI x7, nn, nn] [] s8) (fun _ => rfl) (rg_if h (fun h => ?_) fun h => ?_)
    · exact (t_fBook_readText_1_b127) h
    · exact rg_end 2 (fun _ => rfl) (by cases h; rfl)
  · exact (t_fBook_readText_1_b127) h
theorem ti_fBook_readText_1_h33 : ∀ (n : Nat) (s : ev_M) (x2 : Int32) (x3 : Int32) (x4 : Int32) (x5 : Int32) (x6 : Int32) (x7 : Int32) (j8 : Option ev_V) (j9 : Option ev_V) (q : ev_M × Int32), fBook_readText_1_h33 n s x2 x3 x4 x5 x6 x7 = some q → RR 13 33 [oR 30 0, oR 1 0, oI x2, oI x3, oI x4, oI x5, oI x6, oI x7, j8, j9] [] s (cvI q) := by
  intro n
  induction n with
  | zero => intro s x2 x3 x4 x5 x6 x7 j8 j9 q h; cases h
  | succ n ih =>
    have hk33 : ∀ {s : ev_M} {x2 : Int32} {x3 : Int32} {x4 : Int32} {x5 : Int32} {x6 : Int32} {x7 : Int32} {j8 : Option ev_V} {j9 : Option ev_V} {q : ev_M × Int32}, fBook_readText_1_h33 n s x2 x3 x4 x5 x6 x7 = some q → RR 13 33 [oR 30 0, oR 1 0, oI x2, oI x3, oI x4, oI x5, oI x6, oI x7, j8, j9] [] s (cvI q) := fun h => ih _ _ _ _ _ _ _ _ _ _ h
    intro s x2 x3 x4 x5 x6 x7 j8 j9 q h
    refine rg_step 3 (G' := fun f => if x6 = (cI (-1)) then evT f 13 39 [oR 30 0, oR 1 0, oI x2, oI x3, oI x4, oI x5, oI x6, oI x7, nn, nn] [] s else evT f 13 108 [oR 30 0, oR 1 0, oI x2, oI x3, oI x4, oI x5, oI x6, oI x7, nn, nn] [] s) (fun _ => rfl) (rg_if h (fun h => ?_) fun h => ?_)
    · refine rg_step 3 (G' := fun f => if x7 < (cI 4096) then evT f 13 47 [oR 30 0, oR 1 0, oI x2, oI x3, oI x4, oI x5, oI x6, oI x7, nn, nn] [] s else evT f 13 108 [oR 30 0, oR 1 0, oI x2, oI x3, oI x4, oI x5, oI x6, oI x7, nn, nn] [] s) (fun _ => rfl) (rg_if h (fun h => ?_) fun h => ?_)
      · refine rg_step 2 (G' := fun f => if x7 = 0 then evT f 13 59 [oR 30 0, oR 1 0, oI x2, oI x3, oI x4, oI x5, oI x6, oI x7, nn, nn] [] s else evT f 13 52 [oR 30 0, oR 1 0, oI x2, oI x3, oI x4, oI x5, oI x6, oI x7, nn, nn] [] s) (fun _ => rfl) (rg_if h (fun h => ?_) fun h => ?_)
        · exact (t_fBook_readText_1_b59 hk33) h
        · refine rg_step 2 (G' := fun f => ev_after (evT f 225 0 [oR 1 0] [] s) (fun q => evT f 13 56 [oR 30 0, oR 1 0, oI x2, oI x3, oI x4, oI x5, oI x6, oI x7, nn, nn] (q.2 ++ []) q.1)) (fun _ => rfl) (rg_bd1 h fun v10 hc h => rg_call (q := cvP s v10) (T_fTape_hasMore_1 hc) ?_)
          refine rg_step 1 (G' := fun f => if v10 = 0 then evT f 13 108 [oR 30 0, oR 1 0, oI x2, oI x3, oI x4, oI x5, oI x6, oI x7, nn, nn] [] s else evT f 13 59 [oR 30 0, oR 1 0, oI x2, oI x3, oI x4, oI x5, oI x6, oI x7, nn, nn] [] s) (fun _ => rfl) (rg_if h (fun h => ?_) fun h => ?_)
          · exact (t_fBook_readText_1_b108) h
          · exact (t_fBook_readText_1_b59 hk33) h
      · exact (t_fBook_readText_1_b108) h
    · exact (t_fBook_readText_1_b108) h
theorem t_fBook_readText_1_h33 {n : Nat} {s : ev_M} {x2 : Int32} {x3 : Int32} {x4 : Int32} {x5 : Int32} {x6 : Int32} {x7 : Int32} {j8 : Option ev_V} {j9 : Option ev_V} {q : ev_M × Int32} (h : fBook_readText_1_h33 n s x2 x3 x4 x5 x6 x7 = some q) : RR 13 33 [oR 30 0, oR 1 0, oI x2, oI x3, oI x4, oI x5, oI x6, oI x7, j8, j9] [] s (cvI q) := ti_fBook_readText_1_h33 n s x2 x3 x4 x5 x6 x7 j8 j9 q h
theorem T_fBook_readText_1 {s : ev_M} {q : ev_M × Int32} (h : fBook_readText_1 s = some q) : RR 13 0 [oR 30 0, oR 1 0, nn, nn, nn, nn, nn, nn, nn, nn] [] s (cvI q) := by
  refine rg_step 3 (G' := fun f => evT f 13 5 [oR 30 0, oR 1 0, oI (s.1 30 2), nn, nn, nn, nn, nn, nn, nn] [] s) (fun _ => rfl) (rg_ltI (P := fun v11 => RG (fun f => evT f 13 5 [oR 30 0, oR 1 0, oI v11, nn, nn, nn, nn, nn, nn, nn] [] s) (cvI q)) h fun v11 h => ?_)
  refine rg_step 3 (G' := fun f => evT f 13 10 [oR 30 0, oR 1 0, oI v11, oI (s.1 30 4), nn, nn, nn, nn, nn, nn] [] s) (fun _ => rfl) (rg_ltI (P := fun v12 => RG (fun f => evT f 13 10 [oR 30 0, oR 1 0, oI v11, oI v12, nn, nn, nn, nn, nn, nn] [] s) (cvI q)) h fun v12 h => ?_)
  refine rg_step 3 (G' := fun f => evT f 13 16 [oR 30 0, oR 1 0, oI v11, oI v12, oI (s.1 30 7), nn, nn, nn, nn, nn] [] s) (fun _ => rfl) (rg_ltI (P := fun v13 => RG (fun f => evT f 13 16 [oR 30 0, oR 1 0, oI v11, oI v12, oI v13, nn, nn, nn, nn, nn] [] s) (cvI q)) h fun v13 h => ?_)
  refine rg_step 3 (G' := fun f => evT f 13 22 [oR 30 0, oR 1 0, oI v11, oI v12, oI v13, oI (s.1 30 9), nn, nn, nn, nn] [] s) (fun _ => rfl) (rg_ltI (P := fun v14 => RG (fun f => evT f 13 22 [oR 30 0, oR 1 0, oI v11, oI v12, oI v13, oI v14, nn, nn, nn, nn] [] s) (cvI q)) h fun v14 h => ?_)
  refine rg_step 7 (G' := fun f => evT f 13 33 [oR 30 0, oR 1 0, oI v11, oI v12, oI v13, oI v14, oI (cI (-1)), oI (cI 0), nn, nn] [] (wI s 1 2 (cI 0))) (fun _ => rfl) (rg_ltM h fun s15 h => ?_)
  exact (t_fBook_readText_1_h33) h
theorem T_fBook_hasPoint {s : ev_M} {a1 : Int32} {q : Int32} (h : fBook_hasPoint s a1 = some q) : RR 28 0 [oR 30 0, oI a1] [] s (cvP s q) := by
  refine rg_step 7 (G' := fun f => ev_after (evT f 308 0 [oI a1, oI (cI 0), oI ((s.1 30 9) - (cI 1))] [] s) (fun q => evT f 28 11 [oR 30 0, oI a1] (q.2 ++ []) q.1)) (fun _ => rfl) (rg_bd1 h fun v1 hc h => rg_call (q := cvP s v1) (T_fPH_outside hc) ?_)
  refine rg_step 1 (G' := fun f => if v1 = 0 then evT f 28 14 [oR 30 0, oI a1] [] s else evT f 28 18 [oR 30 0, oI a1] [] s) (fun _ => rfl) (rg_if h (fun h => ?_) fun h => ?_)
  · exact rg_end 3 (fun _ => rfl) (by cases h; rfl)
  · exact rg_end 2 (fun _ => rfl) (by cases h; rfl)
theorem T_fChron_today {s : ev_M} {q : Int32} (h : fChron_today s = some q) : RR 41 0 [oR 15 0] [] s (cvP s q) := by
  refine rg_step 4 (G' := fun f => if (cI 1440) = 0 then none else evT f 41 8 [oR 15 0] [vI ((s.1 15 1) / (cI 1440))] s) (fun _ => rfl) (rg_dv h fun h => ?_)
  exact rg_end 1 (fun _ => rfl) (by cases h; rfl)
theorem T_fBook_addOrder {s : ev_M} {a1 : Int32} {a2 : Int32} {a3 : Int32} {a4 : Int32} {q : ev_M × Int32} (h : fBook_addOrder s a1 a2 a3 a4 = some q) : RR 35 0 [oR 30 0, oI a1, oI a2, oI a3, oI a4] [] s (cvI q) := by
  refine rg_step 3 (G' := fun f => ev_after (evT f 28 0 [oR 30 0, oI a1] [] s) (fun q => evT f 35 5 [oR 30 0, oI a1, oI a2, oI a3, oI a4] (q.2 ++ []) q.1)) (fun _ => rfl) (rg_bd1 h fun v1 hc h => rg_call (q := cvP s v1) (T_fBook_hasPoint hc) ?_)
  refine rg_step 1 (G' := fun f => if v1 = 0 then evT f 35 8 [oR 30 0, oI a1, oI a2, oI a3, oI a4] [] s else evT f 35 11 [oR 30 0, oI a1, oI a2, oI a3, oI a4] [] s) (fun _ => rfl) (rg_if h (fun h => ?_) fun h => ?_)
  · exact rg_end 2 (fun _ => rfl) (by cases h; rfl)
  · refine rg_step 4 (G' := fun f => ev_after (evT f 308 0 [oI a2, oI (cI 0), oI (cI 99)] [] s) (fun q => evT f 35 18 [oR 30 0, oI a1, oI a2, oI a3, oI a4] (q.2 ++ []) q.1)) (fun _ => rfl) (rg_bd1 h fun v2 hc h => rg_call (q := cvP s v2) (T_fPH_outside hc) ?_)
    refine rg_step 1 (G' := fun f => if v2 = 0 then evT f 35 21 [oR 30 0, oI a1, oI a2, oI a3, oI a4] [] s else evT f 35 45 [oR 30 0, oI a1, oI a2, oI a3, oI a4] [] s) (fun _ => rfl) (rg_if h (fun h => ?_) fun h => ?_)
    · refine rg_step 4 (G' := fun f => ev_after (evT f 41 0 [oR 15 0] [] s) (fun q => evT f 35 30 [oR 30 0, oI a1, oI a2, oI a3, oI a4] (q.2 ++ [vI a4]) q.1)) (fun _ => rfl) (rg_bd1 h fun v3 hc h => rg_call (q := cvP s v3) (T_fChron_today hc) ?_)
      refine rg_step 4 (G' := fun f => ev_after (evT f 308 0 [oI a4, oI (v3 + (cI 1)), oI (cI 100000)] [] s) (fun q => evT f 35 37 [oR 30 0, oI a1, oI a2, oI a3, oI a4] (q.2 ++ []) q.1)) (fun _ => rfl) (rg_bd1 h fun v4 hc h => rg_call (q := cvP s v4) (T_fPH_outside hc) ?_)
      refine rg_step 1 (G' := fun f => if v4 = 0 then evT f 35 40 [oR 30 0, oI a1, oI a2, oI a3, oI a4] [] s else evT f 35 45 [oR 30 0, oI a1, oI a2, oI a3, oI a4] [] s) (fun _ => rfl) (rg_if h (fun h => ?_) fun h => ?_)
      · refine rg_step 3 (G' := fun f => if a1 = a3 then evT f 35 45 [oR 30 0, oI a1, oI a2, oI a3, oI a4] [] s else evT f 35 48 [oR 30 0, oI a1, oI a2, oI a3, oI a4] [] s) (fun _ => rfl) (rg_if h (fun h => ?_) fun h => ?_)
        · exact rg_end 2 (fun _ => rfl) (by cases h; rfl)
        · refine rg_step 4 (G' := fun f => if (s.1 30 11) < (cI 60) then evT f 35 57 [oR 30 0, oI a1, oI a2, oI a3, oI a4] [] s else evT f 35 67 [oR 30 0, oI a1, oI a2, oI a3, oI a4] [] s) (fun _ => rfl) (rg_if h (fun h => ?_) fun h => ?_)
          · refine rg_step 3 (G' := fun f => ev_after (evT f 123 0 [oR 9 0, nn] [] s) (fun q => evT f 35 64 [oR 30 0, oI a1, oI a2, oI a3, oI a4] (q.2 ++ []) q.1)) (fun _ => rfl) (rg_bd2 h fun s5 v6 hc h => rg_call (q := cvI (s5, v6)) (T_fLog_admits hc) ?_)
            refine rg_step 1 (G' := fun f => if v6 = 0 then evT f 35 67 [oR 30 0, oI a1, oI a2, oI a3, oI a4] [] s5 else evT f 35 70 [oR 30 0, oI a1, oI a2, oI a3, oI a4] [] s5) (fun _ => rfl) (rg_if h (fun h => ?_) fun h => ?_)
            · exact rg_end 2 (fun _ => rfl) (by cases h; rfl)
            · refine rg_step 8 (G' := fun f => if inb (s5.1 30 11) 60 = true then evT f 35 82 [oR 30 0, oI a1, oI a2, oI a3, oI a4] [] (wI s5 (47 + (ix (cI 0))) (ix (s5.1 30 11)) a1) else none) (fun _ => rfl) (rg_gd h fun h => rg_ltM h fun s7 h => ?_)
              refine rg_step 8 (G' := fun f => if inb (s7.1 30 11) 60 = true then evT f 35 94 [oR 30 0, oI a1, oI a2, oI a3, oI a4] [] (wI s7 (47 + (ix (cI 1))) (ix (s7.1 30 11)) a2) else none) (fun _ => rfl) (rg_gd h fun h => rg_ltM h fun s8 h => ?_)
              refine rg_step 8 (G' := fun f => if inb (s8.1 30 11) 60 = true then evT f 35 106 [oR 30 0, oI a1, oI a2, oI a3, oI a4] [] (wI s8 (47 + (ix (cI 2))) (ix (s8.1 30 11)) a3) else none) (fun _ => rfl) (rg_gd h fun h => rg_ltM h fun s9 h => ?_)
              refine rg_step 8 (G' := fun f => if inb (s9.1 30 11) 60 = true then evT f 35 119 [oR 30 0, oI a1, oI a2, oI a3, oI a4] [] (wI s9 (47 + (ix (cI 3))) (ix (s9.1 30 11)) a4) else none) (fun _ => rfl) (rg_gd h fun h => rg_ltM h fun s10 h => ?_)
              refine rg_step 7 (G' := fun f => evT f 35 130 [oR 30 0, oI a1, oI a2, oI a3, oI a4] [vI (s10.1 30 11)] (wI s10 30 11 ((s10.1 30 11) + (cI 1)))) (fun _ => rfl) (rg_ltM h fun s11 h => ?_)
              exact rg_end 1 (fun _ => rfl) (by cases h; rfl)
          · exact rg_end 2 (fun _ => rfl) (by cases h; rfl)
      · exact rg_end 2 (fun _ => rfl) (by cases h; rfl)
    · exact rg_end 2 (fun _ => rfl) (by cases h; rfl)
theorem T_fBook_tellForwarding {s : ev_M} {a1 : Int32} {a2 : Int32} {a3 : Int32} {a4 : Int32} {q : ev_M × Int32} (h : fBook_tellForwarding s a1 a2 a3 a4 = some q) : RR 33 0 [oR 30 0, oI a1, oI a2, oI a3, oI a4] [] s (cvI q) := by
  refine rg_step 3 (G' := fun f => ev_after (evT f 28 0 [oR 30 0, oI a3] [] s) (fun q => evT f 33 5 [oR 30 0, oI a1, oI a2, oI a3, oI a4] (q.2 ++ []) q.1)) (fun _ => rfl) (rg_bd1 h fun v1 hc h => rg_call (q := cvP s v1) (T_fBook_hasPoint hc) ?_)
  refine rg_step 1 (G' := fun f => if v1 = 0 then evT f 33 8 [oR 30 0, oI a1, oI a2, oI a3, oI a4] [] s else evT f 33 11 [oR 30 0, oI a1, oI a2, oI a3, oI a4] [] s) (fun _ => rfl) (rg_if h (fun h => ?_) fun h => ?_)
  · exact rg_end 2 (fun _ => rfl) (by cases h; rfl)
  · refine rg_step 6 (G' := fun f => ev_after (evT f 35 0 [oR 30 0, oI a1, oI a2, oI a3, oI a4] [] s) (fun q => evT f 33 20 [oR 30 0, oI a1, oI a2, oI a3, oI a4] (q.2 ++ []) q.1)) (fun _ => rfl) (rg_bd2 h fun s2 v3 hc h => rg_call (q := cvI (s2, v3)) (T_fBook_addOrder hc) ?_)
    exact rg_end 1 (fun _ => rfl) (by cases h; rfl)
theorem T_fBook_tellHold {s : ev_M} {a1 : Int32} {a2 : Int32} {a3 : Int32} {q : ev_M × Int32} (h : fBook_tellHold s a1 a2 a3 = some q) : RR 34 0 [oR 30 0, oI a1, oI a2, oI a3] [] s (cvI q) := by
  refine rg_step 6 (G' := fun f => ev_after (evT f 35 0 [oR 30 0, oI a1, oI a2, oI (cI (-1)), oI a3] [] s) (fun q => evT f 34 8 [oR 30 0, oI a1, oI a2, oI a3] (q.2 ++ []) q.1)) (fun _ => rfl) (rg_bd2 h fun s1 v2 hc h => rg_call (q := cvI (s1, v2)) (T_fBook_addOrder hc) ?_)
  exact rg_end 1 (fun _ => rfl) (by cases h; rfl)
theorem t_fSheet_darken_1_b103 {k64 : ev_M → Int32 → Int32 → Int32 → Int32 → Option ev_M} (hk64 : ∀ {s : ev_M} {x2 : Int32} {x3 : Int32} {x4 : Int32} {x5 : Int32} {q : ev_M}, k64 s x2 x3 x4 x5 = some q → RR 198 64 [oR 52 0, oR 1 0, oI x2, oI x3, oI x4, oI x5] [] s (cvV q)) {s : ev_M} {x2 : Int32} {x3 : Int32} {x4 : Int32} {x5 : Int32} {y1 : Int32} {y2 : Int32} {q : ev_M} (h : fSheet_darken_1_b103 k64 s x2 x3 x4 x5 y1 y2 = some q) : RR 198 103 [oR 52 0, oR 1 0, oI x2, oI x3, oI x4, oI x5] [vI y2, vI y1, vR 53 0] s (cvV q) := by
  refine rg_step 2 (G' := fun f => if inb y1 4096 = true then evT f 198 105 [oR 52 0, oR 1 0, oI x2, oI x3, oI x4, oI x5] [] (wI s 53 (ix y1) (i2b (i2b y2))) else none) (fun _ => rfl) (rg_gd h fun h => rg_ltM h fun s1 h => ?_)
  exact rg_step 2 (G' := fun f => evT f 198 64 [oR 52 0, oR 1 0, oI x2, oI x3, oI x4, oI (x5 + cI 1)] [] s1) (fun _ => rfl) (hk64 h)
theorem t_fSheet_darken_1_b102 {k64 : ev_M → Int32 → Int32 → Int32 → Int32 → Option ev_M} (hk64 : ∀ {s : ev_M} {x2 : Int32} {x3 : Int32} {x4 : Int32} {x5 : Int32} {q : ev_M}, k64 s x2 x3 x4 x5 = some q → RR 198 64 [oR 52 0, oR 1 0, oI x2, oI x3, oI x4, oI x5] [] s (cvV q)) {s : ev_M} {x2 : Int32} {x3 : Int32} {x4 : Int32} {x5 : Int32} {y1 : Int32} {q : ev_M} (h : fSheet_darken_1_b102 k64 s x2 x3 x4 x5 y1 = some q) : RR 198 102 [oR 52 0, oR 1 0, oI x2, oI x3, oI x4, oI x5] [vI y1, vR 53 0] s (cvV q) := by
  exact rg_step 1 (G' := fun f => evT f 198 103 [oR 52 0, oR 1 0, oI x2, oI x3, oI x4, oI x5] [vI (cI 0), vI y1, vR 53 0] s) (fun _ => rfl) ((t_fSheet_darken_1_b103 hk64) h)
theorem ti_fSheet_darken_1_h64 : ∀ (n : Nat) (s : ev_M) (x2 : Int32) (x3 : Int32) (x4 : Int32) (x5 : Int32) (q : ev_M), fSheet_darken_1_h64 n s x2 x3 x4 x5 = some q → RR 198 64 [oR 52 0, oR 1 0, oI x2, oI x3, oI x4, oI x5] [] s (cvV q) := by
  intro n
  induction n with
  | zero => intro s x2 x3 x4 x5 q h; cases h
  | succ n ih =>
    have hk64 : ∀ {s : ev_M} {x2 : Int32} {x3 : Int32} {x4 : Int32} {x5 : Int32} {q : ev_M}, fSheet_darken_1_h64 n s x2 x3 x4 x5 = some q → RR 198 64 [oR 52 0, oR 1 0, oI x2, oI x3, oI x4, oI x5] [] s (cvV q) := fun h => ih _ _ _ _ _ _ h
    intro s x2 x3 x4 x5 q h
    refine rg_step 4 (G' := fun f => if x5 < (s.1 1 1) then evT f 198 73 [oR 52 0, oR 1 0, oI x2, oI x3, oI x4, oI x5] [] s else evT f 198 111 [oR 52 0, oR 1 0, oI x2, oI x3, oI x4, oI x5] [] s) (fun _ => rfl) (rg_if h (fun h => ?_) fun h => ?_)
    · refine rg_step 5 (G' := fun f => if x4 = 0 then evT f 198 102 [oR 52 0, oR 1 0, oI x2, oI x3, oI x4, oI x5] [vI x5, vR 53 0] s else evT f 198 84 [oR 52 0, oR 1 0, oI x2, oI x3, oI x4, oI x5] [vI x5, vR 53 0] s) (fun _ => rfl) (rg_if h (fun h => ?_) fun h => ?_)
      · exact (t_fSheet_darken_1_b102 hk64) h
      · refine rg_step 4 (G' := fun f => ev_after (evT f 224 0 [oR 1 0, oI x5] [] s) (fun q => evT f 198 91 [oR 52 0, oR 1 0, oI x2, oI x3, oI x4, oI x5] (q.2 ++ [vI (cI 2), vI x5, vR 53 0]) q.1)) (fun _ => rfl) (rg_bd1 h fun v2 hc h => rg_call (q := cvP s v2) (T_fTape_byteAt_1 hc) ?_)
        refine rg_step 5 (G' := fun f => if ((cI 2) * v2) < (x2 + x3) then evT f 198 98 [oR 52 0, oR 1 0, oI x2, oI x3, oI x4, oI x5] [vI x5, vR 53 0] s else evT f 198 102 [oR 52 0, oR 1 0, oI x2, oI x3, oI x4, oI x5] [vI x5, vR 53 0] s) (fun _ => rfl) (rg_if h (fun h => ?_) fun h => ?_)
        · exact rg_step 2 (G' := fun f => evT f 198 103 [oR 52 0, oR 1 0, oI x2, oI x3, oI x4, oI x5] [vI (cI 1), vI x5, vR 53 0] s) (fun _ => rfl) ((t_fSheet_darken_1_b103 hk64) h)
        · exact (t_fSheet_darken_1_b102 hk64) h
    · exact rg_end 1 (fun _ => rfl) (by cases h; rfl)
theorem t_fSheet_darken_1_h64 {n : Nat} {s : ev_M} {x2 : Int32} {x3 : Int32} {x4 : Int32} {x5 : Int32} {q : ev_M} (h : fSheet_darken_1_h64 n s x2 x3 x4 x5 = some q) : RR 198 64 [oR 52 0, oR 1 0, oI x2, oI x3, oI x4, oI x5] [] s (cvV q) := ti_fSheet_darken_1_h64 n s x2 x3 x4 x5 q h
theorem t_fSheet_darken_1_b59 {s : ev_M} {x2 : Int32} {x3 : Int32} {y0 : Int32} {j4 : Option ev_V} {j5 : Option ev_V} {q : ev_M} (h : fSheet_darken_1_b59 s x2 x3 y0 = some q) : RR 198 59 [oR 52 0, oR 1 0, oI x2, oI x3, j4, j5] [vI y0] s (cvV q) := by
  exact rg_step 3 (G' := fun f => evT f 198 64 [oR 52 0, oR 1 0, oI x2, oI x3, oI y0, oI (cI 0)] [] s) (fun _ => rfl) ((t_fSheet_darken_1_h64) h)
theorem ti_fSheet_darken_1_h9 : ∀ (n : Nat) (s : ev_M) (x2 : Int32) (x3 : Int32) (x4 : Int32) (j5 : Option ev_V) (q : ev_M), fSheet_darken_1_h9 n s x2 x3 x4 = some q → RR 198 9 [oR 52 0, oR 1 0, oI x2, oI x3, oI x4, j5] [] s (cvV q) := by
  intro n
  induction n with
  | zero => intro s x2 x3 x4 j5 q h; cases h
  | succ n ih =>
    have hk9 : ∀ {s : ev_M} {x2 : Int32} {x3 : Int32} {x4 : Int32} {j5 : Option ev_V} {q : ev_M}, fSheet_darken_1_h9 n s x2 x3 x4 = some q → RR 198 9 [oR 52 0, oR 1 0, oI x2, oI x3, oI x4, j5] [] s (cvV q) := fun h => ih _ _ _ _ _ _ h
    intro s x2 x3 x4 j5 q h
    refine rg_step 4 (G' := fun f => if x4 < (s.1 1 1) then evT f 198 18 [oR 52 0, oR 1 0, oI x2, oI x3, oI x4, nn] [] s else evT f 198 46 [oR 52 0, oR 1 0, oI x2, oI x3, oI x4, nn] [] s) (fun _ => rfl) (rg_if h (fun h => ?_) fun h => ?_)
    · refine rg_step 4 (G' := fun f => ev_after (evT f 224 0 [oR 1 0, oI x4] [] s) (fun q => evT f 198 25 [oR 52 0, oR 1 0, oI x2, oI x3, oI x4, nn] (q.2 ++ [vI x2]) q.1)) (fun _ => rfl) (rg_bd1 h fun v3 hc h => rg_call (q := cvP s v3) (T_fTape_byteAt_1 hc) ?_)
      refine rg_step 1 (G' := fun f => ev_after (evT f 535 0 [oI x2, oI v3] [] s) (fun q => evT f 198 28 [oR 52 0, oR 1 0, oI x2, oI x3, oI x4, nn] (q.2 ++ []) q.1)) (fun _ => rfl) (rg_bd1 h fun v4 hc h => rg_call (q := cvP s v4) (T_fMath_min hc) ?_)
      refine rg_step 5 (G' := fun f => ev_after (evT f 224 0 [oR 1 0, oI x4] [] s) (fun q => evT f 198 36 [oR 52 0, oR 1 0, oI v4, oI x3, oI x4, nn] (q.2 ++ [vI x3]) q.1)) (fun _ => rfl) (rg_bd1 h fun v5 hc h => rg_call (q := cvP s v5) (T_fTape_byteAt_1 hc) ?_)
      refine rg_step 1 (G' := fun f => ev_after (evT f 534 0 [oI x3, oI v5] [] s) (fun q => evT f 198 39 [oR 52 0, oR 1 0, oI v4, oI x3, oI x4, nn] (q.2 ++ []) q.1)) (fun _ => rfl) (rg_bd1 h fun v6 hc h => rg_call (q := cvP s v6) (T_fMath_max hc) ?_)
      exact rg_step 3 (G' := fun f => evT f 198 9 [oR 52 0, oR 1 0, oI v4, oI v6, oI (x4 + cI 1), nn] [] s) (fun _ => rfl) (hk9 h)
    · refine rg_step 5 (G' := fun f => if (x3 - x2) < (cI 32) then evT f 198 58 [oR 52 0, oR 1 0, oI x2, oI x3, oI x4, nn] [] s else evT f 198 54 [oR 52 0, oR 1 0, oI x2, oI x3, oI x4, nn] [] s) (fun _ => rfl) (rg_if h (fun h => ?_) fun h => ?_)
      · exact rg_step 1 (G' := fun f => evT f 198 59 [oR 52 0, oR 1 0, oI x2, oI x3, oI x4, nn] [vI (cI 0)] s) (fun _ => rfl) ((t_fSheet_darken_1_b59) h)
      · exact rg_step 2 (G' := fun f => evT f 198 59 [oR 52 0, oR 1 0, oI x2, oI x3, oI x4, nn] [vI (cI 1)] s) (fun _ => rfl) ((t_fSheet_darken_1_b59) h)
theorem t_fSheet_darken_1_h9 {n : Nat} {s : ev_M} {x2 : Int32} {x3 : Int32} {x4 : Int32} {j5 : Option ev_V} {q : ev_M} (h : fSheet_darken_1_h9 n s x2 x3 x4 = some q) : RR 198 9 [oR 52 0, oR 1 0, oI x2, oI x3, oI x4, j5] [] s (cvV q) := ti_fSheet_darken_1_h9 n s x2 x3 x4 j5 q h
theorem T_fSheet_darken_1 {s : ev_M} {q : ev_M} (h : fSheet_darken_1 s = some q) : RR 198 0 [oR 52 0, oR 1 0, nn, nn, nn, nn] [] s (cvV q) := by
  exact rg_step 6 (G' := fun f => evT f 198 9 [oR 52 0, oR 1 0, oI (cI 255), oI (cI 0), oI (cI 0), nn] [] s) (fun _ => rfl) ((t_fSheet_darken_1_h9) h)
theorem t_fSheet_takeNeighbours_b97 {k8 : ev_M → Int32 → Int32 → Int32 → Option ev_M} {k32 : ev_M → Int32 → Int32 → Int32 → Int32 → Option ev_M} (hk8 : ∀ {s : ev_M} {x1 : Int32} {x2 : Int32} {x3 : Int32} {j4 : Option ev_V} {j5 : Option ev_V} {q : ev_M}, k8 s x1 x2 x3 = some q → RR 201 8 [oR 52 0, oI x1, oI x2, oI x3, j4, j5] [] s (cvV q)) (hk32 : ∀ {s : ev_M} {x1 : Int32} {x2 : Int32} {x3 : Int32} {x4 : Int32} {j5 : Option ev_V} {q : ev_M}, k32 s x1 x2 x3 x4 = some q → RR 201 32 [oR 52 0, oI x1, oI x2, oI x3, oI x4, j5] [] s (cvV q)) {s : ev_M} {x1 : Int32} {x2 : Int32} {x3 : Int32} {x4 : Int32} {j5 : Option ev_V} {q : ev_M} (h : fSheet_takeNeighbours_b97 k8 k32 s x1 x2 x3 x4 = some q) : RR 201 97 [oR 52 0, oI x1, oI x2, oI x3, oI x4, j5] [] s (cvV q) := by
  exact rg_step 2 (G' := fun f => evT f 201 32 [oR 52 0, oI x1, oI x2, oI x3, oI (x4 + cI 1), nn] [] s) (fun _ => rfl) (hk32 h)
theorem t_fSheet_takeNeighbours_b103 {k8 : ev_M → Int32 → Int32 → Int32 → Option ev_M} (hk8 : ∀ {s : ev_M} {x1 : Int32} {x2 : Int32} {x3 : Int32} {j4 : Option ev_V} {j5 : Option ev_V} {q : ev_M}, k8 s x1 x2 x3 = some q → RR 201 8 [oR 52 0, oI x1, oI x2, oI x3, j4, j5] [] s (cvV q)) {s : ev_M} {x1 : Int32} {x2 : Int32} {x3 : Int32} {j4 : Option ev_V} {j5 : Option ev_V} {q : ev_M} (h : fSheet_takeNeighbours_b103 k8 s x1 x2 x3 = some q) : RR 201 103 [oR 52 0, oI x1, oI x2, oI x3, j4, j5] [] s (cvV q) := by
  exact rg_step 2 (G' := fun f => evT f 201 8 [oR 52 0, oI x1, oI x2, oI (x3 + cI 1), nn, nn] [] s) (fun _ => rfl) (hk8 h)
theorem ti_fSheet_takeNeighbours_h32 {k8 : ev_M → Int32 → Int32 → Int32 → Option ev_M} (hk8 : ∀ {s : ev_M} {x1 : Int32} {x2 : Int32} {x3 : Int32} {j4 : Option ev_V} {j5 : Option ev_V} {q : ev_M}, k8 s x1 x2 x3 = some q → RR 201 8 [oR 52 0, oI x1, oI x2, oI x3, j4, j5] [] s (cvV q)) : ∀ (n : Nat) (s : ev_M) (x1 : Int32) (x2 : Int32) (x3 : Int32) (x4 : Int32) (j5 : Option ev_V) (q : ev_M), fSheet_takeNeighbours_h32 k8 n s x1 x2 x3 x4 = some q → RR 201 32 [oR 52 0, oI x1, oI x2, oI x3, oI x4, j5] [] s (cvV q) := by
  intro n
  induction n with
  | zero => intro s x1 x2 x3 x4 j5 q h; cases h
  | succ n ih =>
    have hk32 : ∀ {s : ev_M} {x1 : Int32} {x2 : Int32} {x3 : Int32} {x4 : Int32} {j5 : Option ev_V} {q : ev_M}, fSheet_takeNeighbours_h32 k8 n s x1 x2 x3 x4 = some q → RR 201 32 [oR 52 0, oI x1, oI x2, oI x3, oI x4, j5] [] s (cvV q) := fun h => ih _ _ _ _ _ _ _ h
    intro s x1 x2 x3 x4 j5 q h
    refine rg_step 5 (G' := fun f => if x4 ≤ (x1 + (cI 1)) then evT f 201 40 [oR 52 0, oI x1, oI x2, oI x3, oI x4, nn] [] s else evT f 201 103 [oR 52 0, oI x1, oI x2, oI x3, oI x4, nn] [] s) (fun _ => rfl) (rg_if h (fun h => ?_) fun h => ?_)
    · refine rg_step 4 (G' := fun f => if x4 < (s.1 52 4) then evT f 201 49 [oR 52 0, oI x1, oI x2, oI x3, oI x4, nn] [] s else evT f 201 103 [oR 52 0, oI x1, oI x2, oI x3, oI x4, nn] [] s) (fun _ => rfl) (rg_if h (fun h => ?_) fun h => ?_)
      · refine rg_step 7 (G' := fun f => evT f 201 60 [oR 52 0, oI x1, oI x2, oI x3, oI x4, oI ((x3 * (s.1 52 4)) + x4)] [] s) (fun _ => rfl) (rg_ltI (P := fun v1 => RG (fun f => evT f 201 60 [oR 52 0, oI x1, oI x2, oI x3, oI x4, oI v1] [] s) (cvV q)) h fun v1 h => ?_)
        refine rg_step 4 (G' := fun f => if inb v1 4096 = true then evT f 201 67 [oR 52 0, oI x1, oI x2, oI x3, oI x4, oI v1] [vI (s.1 53 (ix v1))] s else none) (fun _ => rfl) (rg_gd h fun h => ?_)
        refine rg_step 2 (G' := fun f => if (s.1 53 (ix v1)) = (cI 1) then evT f 201 71 [oR 52 0, oI x1, oI x2, oI x3, oI x4, oI v1] [] s else evT f 201 97 [oR 52 0, oI x1, oI x2, oI x3, oI x4, oI v1] [] s) (fun _ => rfl) (rg_if h (fun h => ?_) fun h => ?_)
        · refine rg_step 5 (G' := fun f => if inb v1 4096 = true then evT f 201 79 [oR 52 0, oI x1, oI x2, oI x3, oI x4, oI v1] [] (wI s 53 (ix v1) (i2b (cI 2))) else none) (fun _ => rfl) (rg_gd h fun h => rg_ltM h fun s2 h => ?_)
          refine rg_step 9 (G' := fun f => evT f 201 94 [oR 52 0, oI x1, oI x2, oI x3, oI x4, oI v1] [vI (s2.1 52 8), vR 54 0] (wI s2 52 8 ((s2.1 52 8) + (cI 1)))) (fun _ => rfl) (rg_ltM h fun s3 h => ?_)
          refine rg_step 2 (G' := fun f => if inb (s2.1 52 8) 4096 = true then evT f 201 97 [oR 52 0, oI x1, oI x2, oI x3, oI x4, oI v1] [] (wI s3 54 (ix (s2.1 52 8)) v1) else none) (fun _ => rfl) (rg_gd h fun h => rg_ltM h fun s4 h => ?_)
          exact (t_fSheet_takeNeighbours_b97 hk8 hk32) h
        · exact (t_fSheet_takeNeighbours_b97 hk8 hk32) h
      · exact (t_fSheet_takeNeighbours_b103 hk8) h
    · exact (t_fSheet_takeNeighbours_b103 hk8) h
theorem t_fSheet_takeNeighbours_h32 {k8 : ev_M → Int32 → Int32 → Int32 → Option ev_M} (hk8 : ∀ {s : ev_M} {x1 : Int32} {x2 : Int32} {x3 : Int32} {j4 : Option ev_V} {j5 : Option ev_V} {q : ev_M}, k8 s x1 x2 x3 = some q → RR 201 8 [oR 52 0, oI x1, oI x2, oI x3, j4, j5] [] s (cvV q)) {n : Nat} {s : ev_M} {x1 : Int32} {x2 : Int32} {x3 : Int32} {x4 : Int32} {j5 : Option ev_V} {q : ev_M} (h : fSheet_takeNeighbours_h32 k8 n s x1 x2 x3 x4 = some q) : RR 201 32 [oR 52 0, oI x1, oI x2, oI x3, oI x4, j5] [] s (cvV q) := ti_fSheet_takeNeighbours_h32 hk8 n s x1 x2 x3 x4 j5 q h
theorem ti_fSheet_takeNeighbours_h8 : ∀ (n : Nat) (s : ev_M) (x1 : Int32) (x2 : Int32) (x3 : Int32) (j4 : Option ev_V) (j5 : Option ev_V) (q : ev_M), fSheet_takeNeighbours_h8 n s x1 x2 x3 = some q → RR 201 8 [oR 52 0, oI x1, oI x2, oI x3, j4, j5] [] s (cvV q) := by
  intro n
  induction n with
  | zero => intro s x1 x2 x3 j4 j5 q h; cases h
  | succ n ih =>
    have hk8 : ∀ {s : ev_M} {x1 : Int32} {x2 : Int32} {x3 : Int32} {j4 : Option ev_V} {j5 : Option ev_V} {q : ev_M}, fSheet_takeNeighbours_h8 n s x1 x2 x3 = some q → RR 201 8 [oR 52 0, oI x1, oI x2, oI x3, j4, j5] [] s (cvV q) := fun h => ih _ _ _ _ _ _ _ h
    intro s x1 x2 x3 j4 j5 q h
    refine rg_step 5 (G' := fun f => if x3 ≤ (x2 + (cI 1)) then evT f 201 15 [oR 52 0, oI x1, oI x2, oI x3, nn, nn] [] s else evT f 201 109 [oR 52 0, oI x1, oI x2, oI x3, nn, nn] [] s) (fun _ => rfl) (rg_if h (fun h => ?_) fun h => ?_)
    · refine rg_step 4 (G' := fun f => if x3 < (s.1 52 5) then evT f 201 23 [oR 52 0, oI x1, oI x2, oI x3, nn, nn] [] s else evT f 201 109 [oR 52 0, oI x1, oI x2, oI x3, nn, nn] [] s) (fun _ => rfl) (rg_if h (fun h => ?_) fun h => ?_)
      · refine rg_step 5 (G' := fun f => ev_after (evT f 534 0 [oI (cI 0), oI (x1 - (cI 1))] [] s) (fun q => evT f 201 30 [oR 52 0, oI x1, oI x2, oI x3, nn, nn] (q.2 ++ []) q.1)) (fun _ => rfl) (rg_bd1 h fun v5 hc h => rg_call (q := cvP s v5) (T_fMath_max hc) ?_)
        exact rg_step 1 (G' := fun f => evT f 201 32 [oR 52 0, oI x1, oI x2, oI x3, oI v5, nn] [] s) (fun _ => rfl) ((t_fSheet_takeNeighbours_h32 hk8) h)
      · exact rg_end 1 (fun _ => rfl) (by cases h; rfl)
    · exact rg_end 1 (fun _ => rfl) (by cases h; rfl)
theorem t_fSheet_takeNeighbours_h8 {n : Nat} {s : ev_M} {x1 : Int32} {x2 : Int32} {x3 : Int32} {j4 : Option ev_V} {j5 : Option ev_V} {q : ev_M} (h : fSheet_takeNeighbours_h8 n s x1 x2 x3 = some q) : RR 201 8 [oR 52 0, oI x1, oI x2, oI x3, j4, j5] [] s (cvV q) := ti_fSheet_takeNeighbours_h8 n s x1 x2 x3 j4 j5 q h
theorem T_fSheet_takeNeighbours {s : ev_M} {a1 : Int32} {a2 : Int32} {q : ev_M} (h : fSheet_takeNeighbours s a1 a2 = some q) : RR 201 0 [oR 52 0, oI a1, oI a2, nn, nn, nn] [] s (cvV q) := by
  refine rg_step 5 (G' := fun f => ev_after (evT f 534 0 [oI (cI 0), oI (a2 - (cI 1))] [] s) (fun q => evT f 201 7 [oR 52 0, oI a1, oI a2, nn, nn, nn] (q.2 ++ []) q.1)) (fun _ => rfl) (rg_bd1 h fun v6 hc h => rg_call (q := cvP s v6) (T_fMath_max hc) ?_)
  exact rg_step 1 (G' := fun f => evT f 201 8 [oR 52 0, oI a1, oI a2, oI v6, nn, nn] [] s) (fun _ => rfl) ((t_fSheet_takeNeighbours_h8) h)
theorem t_fSheet_takePart_b131 {s : ev_M} {x2 : Int32} {x3 : Int32} {x4 : Int32} {x5 : Int32} {j1 : Option ev_V} {j6 : Option ev_V} {j7 : Option ev_V} {j8 : Option ev_V} {q : ev_M} (h : fSheet_takePart_b131 s x2 x3 x4 x5 = some q) : RR 200 131 [oR 52 0, j1, oI x2, oI x3, oI x4, oI x5, j6, j7, j8] [] s (cvV q) := by
  refine rg_step 4 (G' := fun f => if (s.1 52 8) < (cI 4) then evT f 200 139 [oR 52 0, nn, oI x2, oI x3, oI x4, oI x5, nn, nn, nn] [] s else evT f 200 140 [oR 52 0, nn, oI x2, oI x3, oI x4, oI x5, nn, nn, nn] [] s) (fun _ => rfl) (rg_if h (fun h => ?_) fun h => ?_)
  · exact rg_end 1 (fun _ => rfl) (by cases h; rfl)
  · refine rg_step 8 (G' := fun f => if inb (s.1 52 9) 200 = true then evT f 200 152 [oR 52 0, nn, oI x2, oI x3, oI x4, oI x5, nn, nn, nn] [] (wI s (56 + (ix (cI 0))) (ix (s.1 52 9)) x2) else none) (fun _ => rfl) (rg_gd h fun h => rg_ltM h fun s1 h => ?_)
    refine rg_step 8 (G' := fun f => if inb (s1.1 52 9) 200 = true then evT f 200 165 [oR 52 0, nn, oI x2, oI x3, oI x4, oI x5, nn, nn, nn] [] (wI s1 (56 + (ix (cI 1))) (ix (s1.1 52 9)) x4) else none) (fun _ => rfl) (rg_gd h fun h => rg_ltM h fun s2 h => ?_)
    refine rg_step 12 (G' := fun f => if inb (s2.1 52 9) 200 = true then evT f 200 181 [oR 52 0, nn, oI x2, oI x3, oI x4, oI x5, nn, nn, nn] [] (wI s2 (56 + (ix (cI 2))) (ix (s2.1 52 9)) ((x3 - x2) + (cI 1))) else none) (fun _ => rfl) (rg_gd h fun h => rg_ltM h fun s3 h => ?_)
    refine rg_step 11 (G' := fun f => evT f 200 198 [oR 52 0, nn, oI x2, oI x3, oI x4, oI x5, nn, nn, nn] [vI (s3.1 52 9), vR 56 (ix (cI 3))] (wI s3 52 9 ((s3.1 52 9) + (cI 1)))) (fun _ => rfl) (rg_ltM h fun s4 h => ?_)
    refine rg_step 6 (G' := fun f => if inb (s3.1 52 9) 200 = true then evT f 200 206 [oR 52 0, nn, oI x2, oI x3, oI x4, oI x5, nn, nn, nn] [] (wI s4 (56 + (ix (cI 3))) (ix (s3.1 52 9)) ((x5 - x4) + (cI 1))) else none) (fun _ => rfl) (rg_gd h fun h => rg_ltM h fun s5 h => ?_)
    exact rg_end 1 (fun _ => rfl) (by cases h; rfl)
theorem ti_fSheet_takePart_h38 : ∀ (n : Nat) (s : ev_M) (x2 : Int32) (x3 : Int32) (x4 : Int32) (x5 : Int32) (x6 : Int32) (j1 : Option ev_V) (j7 : Option ev_V) (j8 : Option ev_V) (q : ev_M), fSheet_takePart_h38 n s x2 x3 x4 x5 x6 = some q → RR 200 38 [oR 52 0, j1, oI x2, oI x3, oI x4, oI x5, oI x6, j7, j8] [] s (cvV q) := by
  intro n
  induction n with
  | zero => intro s x2 x3 x4 x5 x6 j1 j7 j8 q h; cases h
  | succ n ih =>
    have hk38 : ∀ {s : ev_M} {x2 : Int32} {x3 : Int32} {x4 : Int32} {x5 : Int32} {x6 : Int32} {j1 : Option ev_V} {j7 : Option ev_V} {j8 : Option ev_V} {q : ev_M}, fSheet_takePart_h38 n s x2 x3 x4 x5 x6 = some q → RR 200 38 [oR 52 0, j1, oI x2, oI x3, oI x4, oI x5, oI x6, j7, j8] [] s (cvV q) := fun h => ih _ _ _ _ _ _ _ _ _ _ h
    intro s x2 x3 x4 x5 x6 j1 j7 j8 q h
    refine rg_step 4 (G' := fun f => if x6 < (s.1 52 8) then evT f 200 47 [oR 52 0, nn, oI x2, oI x3, oI x4, oI x5, oI x6, nn, nn] [] s else evT f 200 131 [oR 52 0, nn, oI x2, oI x3, oI x4, oI x5, oI x6, nn, nn] [] s) (fun _ => rfl) (rg_if h (fun h => ?_) fun h => ?_)
    · refine rg_step 5 (G' := fun f => if x6 < (cI 4096) then evT f 200 57 [oR 52 0, nn, oI x2, oI x3, oI x4, oI x5, oI x6, nn, nn] [] s else evT f 200 131 [oR 52 0, nn, oI x2, oI x3, oI x4, oI x5, oI x6, nn, nn] [] s) (fun _ => rfl) (rg_if h (fun h => ?_) fun h => ?_)
      · refine rg_step 4 (G' := fun f => if inb x6 4096 = true then evT f 200 64 [oR 52 0, nn, oI x2, oI x3, oI x4, oI x5, oI x6, nn, nn] [vI (s.1 54 (ix x6))] s else none) (fun _ => rfl) (rg_gd h fun h => ?_)
        refine rg_step 3 (G' := fun f => if (s.1 52 4) = 0 then none else evT f 200 69 [oR 52 0, nn, oI x2, oI x3, oI x4, oI x5, oI x6, nn, nn] [vI (irem (s.1 54 (ix x6)) (s.1 52 4))] s) (fun _ => rfl) (rg_dv h fun h => ?_)
        refine rg_step 1 (G' := fun f => evT f 200 71 [oR 52 0, nn, oI x2, oI x3, oI x4, oI x5, oI x6, oI (irem (s.1 54 (ix x6)) (s.1 52 4)), nn] [] s) (fun _ => rfl) (rg_ltI (P := fun v6 => RG (fun f => evT f 200 71 [oR 52 0, nn, oI x2, oI x3, oI x4, oI x5, oI x6, oI v6, nn] [] s) (cvV q)) h fun v6 h => ?_)
        refine rg_step 4 (G' := fun f => if inb x6 4096 = true then evT f 200 78 [oR 52 0, nn, oI x2, oI x3, oI x4, oI x5, oI x6, oI v6, nn] [vI (s.1 54 (ix x6))] s else none) (fun _ => rfl) (rg_gd h fun h => ?_)
        refine rg_step 3 (G' := fun f => if (s.1 52 4) = 0 then none else evT f 200 83 [oR 52 0, nn, oI x2, oI x3, oI x4, oI x5, oI x6, oI v6, nn] [vI ((s.1 54 (ix x6)) / (s.1 52 4))] s) (fun _ => rfl) (rg_dv h fun h => ?_)
        refine rg_step 1 (G' := fun f => evT f 200 85 [oR 52 0, nn, oI x2, oI x3, oI x4, oI x5, oI x6, oI v6, oI ((s.1 54 (ix x6)) / (s.1 52 4))] [] s) (fun _ => rfl) (rg_ltI (P := fun v7 => RG (fun f => evT f 200 85 [oR 52 0, nn, oI x2, oI x3, oI x4, oI x5, oI x6, oI v6, oI v7] [] s) (cvV q)) h fun v7 h => ?_)
        refine rg_step 3 (G' := fun f => ev_after (evT f 535 0 [oI x2, oI v6] [] s) (fun q => evT f 200 91 [oR 52 0, nn, oI x2, oI x3, oI x4, oI x5, oI x6, oI v6, oI v7] (q.2 ++ []) q.1)) (fun _ => rfl) (rg_bd1 h fun v8 hc h => rg_call (q := cvP s v8) (T_fMath_min hc) ?_)
        refine rg_step 4 (G' := fun f => ev_after (evT f 534 0 [oI x3, oI v6] [] s) (fun q => evT f 200 98 [oR 52 0, nn, oI v8, oI x3, oI x4, oI x5, oI x6, oI v6, oI v7] (q.2 ++ []) q.1)) (fun _ => rfl) (rg_bd1 h fun v9 hc h => rg_call (q := cvP s v9) (T_fMath_max hc) ?_)
        refine rg_step 4 (G' := fun f => ev_after (evT f 535 0 [oI x4, oI v7] [] s) (fun q => evT f 200 106 [oR 52 0, nn, oI v8, oI v9, oI x4, oI x5, oI x6, oI v6, oI v7] (q.2 ++ []) q.1)) (fun _ => rfl) (rg_bd1 h fun v10 hc h => rg_call (q := cvP s v10) (T_fMath_min hc) ?_)
        refine rg_step 4 (G' := fun f => ev_after (evT f 534 0 [oI x5, oI v7] [] s) (fun q => evT f 200 115 [oR 52 0, nn, oI v8, oI v9, oI v10, oI x5, oI x6, oI v6, oI v7] (q.2 ++ []) q.1)) (fun _ => rfl) (rg_bd1 h fun v11 hc h => rg_call (q := cvP s v11) (T_fMath_max hc) ?_)
        refine rg_step 5 (G' := fun f => ev_after (evT f 201 0 [oR 52 0, oI v6, oI v7, nn, nn, nn] [] s) (fun q => evT f 200 125 [oR 52 0, nn, oI v8, oI v9, oI v10, oI v11, oI x6, oI v6, oI v7] (q.2 ++ []) q.1)) (fun _ => rfl) (rg_bd1 h fun s12 hc h => rg_call (q := cvV s12) (T_fSheet_takeNeighbours hc) ?_)
        exact rg_step 2 (G' := fun f => evT f 200 38 [oR 52 0, nn, oI v8, oI v9, oI v10, oI v11, oI (x6 + cI 1), oI v6, oI v7] [] s12) (fun _ => rfl) (hk38 h)
      · exact (t_fSheet_takePart_b131) h
    · exact (t_fSheet_takePart_b131) h
theorem t_fSheet_takePart_h38 {n : Nat} {s : ev_M} {x2 : Int32} {x3 : Int32} {x4 : Int32} {x5 : Int32} {x6 : Int32} {j1 : Option ev_V} {j7 : Option ev_V} {j8 : Option ev_V} {q : ev_M} (h : fSheet_takePart_h38 n s x2 x3 x4 x5 x6 = some q) : RR 200 38 [oR 52 0, j1, oI x2, oI x3, oI x4, oI x5, oI x6, j7, j8] [] s (cvV q) := ti_fSheet_takePart_h38 n s x2 x3 x4 x5 x6 j1 j7 j8 q h
