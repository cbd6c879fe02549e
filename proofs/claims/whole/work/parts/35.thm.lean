/-! ===== the interpreter does what the functions say, 4 ===== -/
theorem T_fSheet_takePart {s : ev_M} {a1 : Int32} {q : ev_M} (h : fSheet_takePart s a1 = some q) : RR 200 0 [oR 52 0, oI a1, nn, nn, nn, nn, nn, nn, nn] [] s (cvV q) := by
  refine rg_step 3 (G' := fun f => evT f 200 5 [oR 52 0, oI a1, oI (s.1 52 4), nn, nn, nn, nn, nn, nn] [] s) (fun _ => rfl) (rg_ltI (P := fun v13 => RG (fun f => evT f 200 5 [oR 52 0, oI a1, oI v13, nn, nn, nn, nn, nn, nn] [] s) (cvV q)) h fun v13 h => ?_)
  refine rg_step 5 (G' := fun f => evT f 200 13 [oR 52 0, oI a1, oI v13, oI (cI 0), oI (s.1 52 5), nn, nn, nn, nn] [] s) (fun _ => rfl) (rg_ltI (P := fun v14 => RG (fun f => evT f 200 13 [oR 52 0, oI a1, oI v13, oI (cI 0), oI v14, nn, nn, nn, nn] [] s) (cvV q)) h fun v14 h => ?_)
  refine rg_step 7 (G' := fun f => evT f 200 23 [oR 52 0, oI a1, oI v13, oI (cI 0), oI v14, oI (cI 0), nn, nn, nn] [] (wI s 54 (ix (cI 0)) a1)) (fun _ => rfl) (rg_ltM h fun s15 h => ?_)
  refine rg_step 3 (G' := fun f => evT f 200 28 [oR 52 0, oI a1, oI v13, oI (cI 0), oI v14, oI (cI 0), nn, nn, nn] [] (wI s15 52 8 (cI 1))) (fun _ => rfl) (rg_ltM h fun s16 h => ?_)
  refine rg_step 5 (G' := fun f => if inb a1 4096 = true then evT f 200 35 [oR 52 0, oI a1, oI v13, oI (cI 0), oI v14, oI (cI 0), nn, nn, nn] [] (wI s16 53 (ix a1) (i2b (cI 2))) else none) (fun _ => rfl) (rg_gd h fun h => rg_ltM h fun s17 h => ?_)
  exact rg_step 2 (G' := fun f => evT f 200 38 [oR 52 0, oI a1, oI v13, oI (cI 0), oI v14, oI (cI 0), oI (cI 0), nn, nn] [] s17) (fun _ => rfl) ((t_fSheet_takePart_h38) h)
theorem t_fSheet_findParts_b45 {k7 : ev_M → Int32 → Option ev_M} (hk7 : ∀ {s : ev_M} {x1 : Int32} {q : ev_M}, k7 s x1 = some q → RR 199 7 [oR 52 0, oI x1] [] s (cvV q)) {s : ev_M} {x1 : Int32} {q : ev_M} (h : fSheet_findParts_b45 k7 s x1 = some q) : RR 199 45 [oR 52 0, oI x1] [] s (cvV q) := by
  exact rg_step 2 (G' := fun f => evT f 199 7 [oR 52 0, oI (x1 + cI 1)] [] s) (fun _ => rfl) (hk7 h)
theorem ti_fSheet_findParts_h7 : ∀ (n : Nat) (s : ev_M) (x1 : Int32) (q : ev_M), fSheet_findParts_h7 n s x1 = some q → RR 199 7 [oR 52 0, oI x1] [] s (cvV q) := by
  intro n
  induction n with
  | zero => intro s x1 q h; cases h
  | succ n ih =>
    have hk7 : ∀ {s : ev_M} {x1 : Int32} {q : ev_M}, fSheet_findParts_h7 n s x1 = some q → RR 199 7 [oR 52 0, oI x1] [] s (cvV q) := fun h => ih _ _ _ h
    intro s x1 q h
    refine rg_step 7 (G' := fun f => if x1 < ((s.1 52 4) * (s.1 52 5)) then evT f 199 20 [oR 52 0, oI x1] [] s else evT f 199 51 [oR 52 0, oI x1] [] s) (fun _ => rfl) (rg_if h (fun h => ?_) fun h => ?_)
    · refine rg_step 4 (G' := fun f => if (s.1 52 9) < (cI 200) then evT f 199 30 [oR 52 0, oI x1] [] s else evT f 199 51 [oR 52 0, oI x1] [] s) (fun _ => rfl) (rg_if h (fun h => ?_) fun h => ?_)
      · refine rg_step 4 (G' := fun f => if inb x1 4096 = true then evT f 199 36 [oR 52 0, oI x1] [vI (s.1 53 (ix x1))] s else none) (fun _ => rfl) (rg_gd h fun h => ?_)
        refine rg_step 2 (G' := fun f => if (s.1 53 (ix x1)) = (cI 1) then evT f 199 40 [oR 52 0, oI x1] [] s else evT f 199 45 [oR 52 0, oI x1] [] s) (fun _ => rfl) (rg_if h (fun h => ?_) fun h => ?_)
        · refine rg_step 3 (G' := fun f => ev_after (evT f 200 0 [oR 52 0, oI x1, nn, nn, nn, nn, nn, nn, nn] [] s) (fun q => evT f 199 45 [oR 52 0, oI x1] (q.2 ++ []) q.1)) (fun _ => rfl) (rg_bd1 h fun s1 hc h => rg_call (q := cvV s1) (T_fSheet_takePart hc) ?_)
          exact (t_fSheet_findParts_b45 hk7) h
        · exact (t_fSheet_findParts_b45 hk7) h
      · exact rg_end 1 (fun _ => rfl) (by cases h; rfl)
    · exact rg_end 1 (fun _ => rfl) (by cases h; rfl)
theorem t_fSheet_findParts_h7 {n : Nat} {s : ev_M} {x1 : Int32} {q : ev_M} (h : fSheet_findParts_h7 n s x1 = some q) : RR 199 7 [oR 52 0, oI x1] [] s (cvV q) := ti_fSheet_findParts_h7 n s x1 q h
theorem T_fSheet_findParts {s : ev_M} {q : ev_M} (h : fSheet_findParts s = some q) : RR 199 0 [oR 52 0, nn] [] s (cvV q) := by
  refine rg_step 3 (G' := fun f => evT f 199 5 [oR 52 0, nn] [] (wI s 52 9 (cI 0))) (fun _ => rfl) (rg_ltM h fun s2 h => ?_)
  exact rg_step 2 (G' := fun f => evT f 199 7 [oR 52 0, oI (cI 0)] [] s2) (fun _ => rfl) ((t_fSheet_findParts_h7) h)
theorem T_fSheet_areNear {s : ev_M} {a1 : Int32} {a2 : Int32} {q : Int32} (h : fSheet_areNear s a1 a2 = some q) : RR 204 0 [oR 52 0, oI a1, oI a2, nn, nn] [] s (cvP s q) := by
  refine rg_step 6 (G' := fun f => if inb a1 200 = true then evT f 204 8 [oR 52 0, oI a1, oI a2, nn, nn] [vI (s.1 (56 + (ix (cI 1))) (ix a1))] s else none) (fun _ => rfl) (rg_gd h fun h => ?_)
  refine rg_step 6 (G' := fun f => if inb a2 200 = true then evT f 204 16 [oR 52 0, oI a1, oI a2, nn, nn] [vI (s.1 (56 + (ix (cI 1))) (ix a2)), vI (s.1 (56 + (ix (cI 1))) (ix a1))] s else none) (fun _ => rfl) (rg_gd h fun h => ?_)
  refine rg_step 1 (G' := fun f => ev_after (evT f 534 0 [oI (s.1 (56 + (ix (cI 1))) (ix a1)), oI (s.1 (56 + (ix (cI 1))) (ix a2))] [] s) (fun q => evT f 204 19 [oR 52 0, oI a1, oI a2, nn, nn] (q.2 ++ []) q.1)) (fun _ => rfl) (rg_bd1 h fun v1 hc h => rg_call (q := cvP s v1) (T_fMath_max hc) ?_)
  refine rg_step 7 (G' := fun f => if inb a1 200 = true then evT f 204 28 [oR 52 0, oI a1, oI a2, oI v1, nn] [vI (s.1 (56 + (ix (cI 1))) (ix a1))] s else none) (fun _ => rfl) (rg_gd h fun h => ?_)
  refine rg_step 6 (G' := fun f => if inb a1 200 = true then evT f 204 36 [oR 52 0, oI a1, oI a2, oI v1, nn] [vI (s.1 (56 + (ix (cI 3))) (ix a1)), vI (s.1 (56 + (ix (cI 1))) (ix a1))] s else none) (fun _ => rfl) (rg_gd h fun h => ?_)
  refine rg_step 7 (G' := fun f => if inb a2 200 = true then evT f 204 45 [oR 52 0, oI a1, oI a2, oI v1, nn] [vI (s.1 (56 + (ix (cI 1))) (ix a2)), vI ((s.1 (56 + (ix (cI 1))) (ix a1)) + (s.1 (56 + (ix (cI 3))) (ix a1)))] s else none) (fun _ => rfl) (rg_gd h fun h => ?_)
  refine rg_step 6 (G' := fun f => if inb a2 200 = true then evT f 204 53 [oR 52 0, oI a1, oI a2, oI v1, nn] [vI (s.1 (56 + (ix (cI 3))) (ix a2)), vI (s.1 (56 + (ix (cI 1))) (ix a2)), vI ((s.1 (56 + (ix (cI 1))) (ix a1)) + (s.1 (56 + (ix (cI 3))) (ix a1)))] s else none) (fun _ => rfl) (rg_gd h fun h => ?_)
  refine rg_step 2 (G' := fun f => ev_after (evT f 535 0 [oI ((s.1 (56 + (ix (cI 1))) (ix a1)) + (s.1 (56 + (ix (cI 3))) (ix a1))), oI ((s.1 (56 + (ix (cI 1))) (ix a2)) + (s.1 (56 + (ix (cI 3))) (ix a2)))] [] s) (fun q => evT f 204 57 [oR 52 0, oI a1, oI a2, oI v1, nn] (q.2 ++ []) q.1)) (fun _ => rfl) (rg_bd1 h fun v2 hc h => rg_call (q := cvP s v2) (T_fMath_min hc) ?_)
  refine rg_step 12 (G' := fun f => if inb a1 200 = true then evT f 204 73 [oR 52 0, oI a1, oI a2, oI v1, oI v2] [vI (s.1 (56 + (ix (cI 3))) (ix a1)), vI ((cI 2) * (v2 - v1))] s else none) (fun _ => rfl) (rg_gd h fun h => ?_)
  refine rg_step 6 (G' := fun f => if inb a2 200 = true then evT f 204 81 [oR 52 0, oI a1, oI a2, oI v1, oI v2] [vI (s.1 (56 + (ix (cI 3))) (ix a2)), vI (s.1 (56 + (ix (cI 3))) (ix a1)), vI ((cI 2) * (v2 - v1))] s else none) (fun _ => rfl) (rg_gd h fun h => ?_)
  refine rg_step 1 (G' := fun f => ev_after (evT f 535 0 [oI (s.1 (56 + (ix (cI 3))) (ix a1)), oI (s.1 (56 + (ix (cI 3))) (ix a2))] [] s) (fun q => evT f 204 84 [oR 52 0, oI a1, oI a2, oI v1, oI v2] (q.2 ++ [vI ((cI 2) * (v2 - v1))]) q.1)) (fun _ => rfl) (rg_bd1 h fun v3 hc h => rg_call (q := cvP s v3) (T_fMath_min hc) ?_)
  refine rg_step 1 (G' := fun f => if ((cI 2) * (v2 - v1)) < v3 then evT f 204 91 [oR 52 0, oI a1, oI a2, oI v1, oI v2] [] s else evT f 204 87 [oR 52 0, oI a1, oI a2, oI v1, oI v2] [] s) (fun _ => rfl) (rg_if h (fun h => ?_) fun h => ?_)
  · exact rg_end 2 (fun _ => rfl) (by cases h; rfl)
  · exact rg_end 3 (fun _ => rfl) (by cases h; rfl)
theorem t_fSheet_joinLine_b100 {k21 : ev_M → Int32 → Int32 → Option ev_M} {k39 : ev_M → Int32 → Int32 → Int32 → Option ev_M} (hk21 : ∀ {s : ev_M} {x2 : Int32} {x3 : Int32} {j1 : Option ev_V} {j4 : Option ev_V} {q : ev_M}, k21 s x2 x3 = some q → RR 203 21 [oR 52 0, j1, oI x2, oI x3, j4] [] s (cvV q)) (hk39 : ∀ {s : ev_M} {x2 : Int32} {x3 : Int32} {x4 : Int32} {j1 : Option ev_V} {q : ev_M}, k39 s x2 x3 x4 = some q → RR 203 39 [oR 52 0, j1, oI x2, oI x3, oI x4] [] s (cvV q)) {s : ev_M} {x2 : Int32} {x3 : Int32} {x4 : Int32} {j1 : Option ev_V} {q : ev_M} (h : fSheet_joinLine_b100 k21 k39 s x2 x3 x4 = some q) : RR 203 100 [oR 52 0, j1, oI x2, oI x3, oI x4] [] s (cvV q) := by
  exact rg_step 2 (G' := fun f => evT f 203 39 [oR 52 0, nn, oI x2, oI x3, oI (x4 + cI 1)] [] s) (fun _ => rfl) (hk39 h)
theorem ti_fSheet_joinLine_h39 {k21 : ev_M → Int32 → Int32 → Option ev_M} (hk21 : ∀ {s : ev_M} {x2 : Int32} {x3 : Int32} {j1 : Option ev_V} {j4 : Option ev_V} {q : ev_M}, k21 s x2 x3 = some q → RR 203 21 [oR 52 0, j1, oI x2, oI x3, j4] [] s (cvV q)) : ∀ (n : Nat) (s : ev_M) (x2 : Int32) (x3 : Int32) (x4 : Int32) (j1 : Option ev_V) (q : ev_M), fSheet_joinLine_h39 k21 n s x2 x3 x4 = some q → RR 203 39 [oR 52 0, j1, oI x2, oI x3, oI x4] [] s (cvV q) := by
  intro n
  induction n with
  | zero => intro s x2 x3 x4 j1 q h; cases h
  | succ n ih =>
    have hk39 : ∀ {s : ev_M} {x2 : Int32} {x3 : Int32} {x4 : Int32} {j1 : Option ev_V} {q : ev_M}, fSheet_joinLine_h39 k21 n s x2 x3 x4 = some q → RR 203 39 [oR 52 0, j1, oI x2, oI x3, oI x4] [] s (cvV q) := fun h => ih _ _ _ _ _ _ h
    intro s x2 x3 x4 j1 q h
    refine rg_step 4 (G' := fun f => if x4 < (s.1 52 9) then evT f 203 48 [oR 52 0, nn, oI x2, oI x3, oI x4] [] s else evT f 203 106 [oR 52 0, nn, oI x2, oI x3, oI x4] [] s) (fun _ => rfl) (rg_if h (fun h => ?_) fun h => ?_)
    · refine rg_step 4 (G' := fun f => if inb x4 200 = true then evT f 203 55 [oR 52 0, nn, oI x2, oI x3, oI x4] [vI (s.1 60 (ix x4))] s else none) (fun _ => rfl) (rg_gd h fun h => ?_)
      refine rg_step 2 (G' := fun f => if (s.1 60 (ix x4)) = (cI (-1)) then evT f 203 59 [oR 52 0, nn, oI x2, oI x3, oI x4] [] s else evT f 203 100 [oR 52 0, nn, oI x2, oI x3, oI x4] [] s) (fun _ => rfl) (rg_if h (fun h => ?_) fun h => ?_)
      · refine rg_step 5 (G' := fun f => if inb x3 4096 = true then evT f 203 66 [oR 52 0, nn, oI x2, oI x3, oI x4] [vI (s.1 54 (ix x3)), vR 52 0] s else none) (fun _ => rfl) (rg_gd h fun h => ?_)
        refine rg_step 2 (G' := fun f => ev_after (evT f 204 0 [oR 52 0, oI (s.1 54 (ix x3)), oI x4, nn, nn] [] s) (fun q => evT f 203 71 [oR 52 0, nn, oI x2, oI x3, oI x4] (q.2 ++ []) q.1)) (fun _ => rfl) (rg_bd1 h fun v1 hc h => rg_call (q := cvP s v1) (T_fSheet_areNear hc) ?_)
        refine rg_step 1 (G' := fun f => if v1 = 0 then evT f 203 100 [oR 52 0, nn, oI x2, oI x3, oI x4] [] s else evT f 203 74 [oR 52 0, nn, oI x2, oI x3, oI x4] [] s) (fun _ => rfl) (rg_if h (fun h => ?_) fun h => ?_)
        · exact (t_fSheet_joinLine_b100 hk21 hk39) h
        · refine rg_step 5 (G' := fun f => if inb x4 200 = true then evT f 203 82 [oR 52 0, nn, oI x2, oI x3, oI x4] [] (wI s 60 (ix x4) x2) else none) (fun _ => rfl) (rg_gd h fun h => rg_ltM h fun s2 h => ?_)
          refine rg_step 9 (G' := fun f => evT f 203 97 [oR 52 0, nn, oI x2, oI x3, oI x4] [vI (s2.1 52 8), vR 54 0] (wI s2 52 8 ((s2.1 52 8) + (cI 1)))) (fun _ => rfl) (rg_ltM h fun s3 h => ?_)
          refine rg_step 2 (G' := fun f => if inb (s2.1 52 8) 4096 = true then evT f 203 100 [oR 52 0, nn, oI x2, oI x3, oI x4] [] (wI s3 54 (ix (s2.1 52 8)) x4) else none) (fun _ => rfl) (rg_gd h fun h => rg_ltM h fun s4 h => ?_)
          exact (t_fSheet_joinLine_b100 hk21 hk39) h
      · exact (t_fSheet_joinLine_b100 hk21 hk39) h
    · exact rg_step 2 (G' := fun f => evT f 203 21 [oR 52 0, nn, oI x2, oI (x3 + cI 1), oI x4] [] s) (fun _ => rfl) (hk21 h)
theorem t_fSheet_joinLine_h39 {k21 : ev_M → Int32 → Int32 → Option ev_M} (hk21 : ∀ {s : ev_M} {x2 : Int32} {x3 : Int32} {j1 : Option ev_V} {j4 : Option ev_V} {q : ev_M}, k21 s x2 x3 = some q → RR 203 21 [oR 52 0, j1, oI x2, oI x3, j4] [] s (cvV q)) {n : Nat} {s : ev_M} {x2 : Int32} {x3 : Int32} {x4 : Int32} {j1 : Option ev_V} {q : ev_M} (h : fSheet_joinLine_h39 k21 n s x2 x3 x4 = some q) : RR 203 39 [oR 52 0, j1, oI x2, oI x3, oI x4] [] s (cvV q) := ti_fSheet_joinLine_h39 hk21 n s x2 x3 x4 j1 q h
theorem ti_fSheet_joinLine_h21 : ∀ (n : Nat) (s : ev_M) (x2 : Int32) (x3 : Int32) (j1 : Option ev_V) (j4 : Option ev_V) (q : ev_M), fSheet_joinLine_h21 n s x2 x3 = some q → RR 203 21 [oR 52 0, j1, oI x2, oI x3, j4] [] s (cvV q) := by
  intro n
  induction n with
  | zero => intro s x2 x3 j1 j4 q h; cases h
  | succ n ih =>
    have hk21 : ∀ {s : ev_M} {x2 : Int32} {x3 : Int32} {j1 : Option ev_V} {j4 : Option ev_V} {q : ev_M}, fSheet_joinLine_h21 n s x2 x3 = some q → RR 203 21 [oR 52 0, j1, oI x2, oI x3, j4] [] s (cvV q) := fun h => ih _ _ _ _ _ _ h
    intro s x2 x3 j1 j4 q h
    refine rg_step 4 (G' := fun f => if x3 < (s.1 52 8) then evT f 203 29 [oR 52 0, nn, oI x2, oI x3, nn] [] s else evT f 203 112 [oR 52 0, nn, oI x2, oI x3, nn] [] s) (fun _ => rfl) (rg_if h (fun h => ?_) fun h => ?_)
    · refine rg_step 3 (G' := fun f => if x3 < (cI 200) then evT f 203 36 [oR 52 0, nn, oI x2, oI x3, nn] [] s else evT f 203 112 [oR 52 0, nn, oI x2, oI x3, nn] [] s) (fun _ => rfl) (rg_if h (fun h => ?_) fun h => ?_)
      · exact rg_step 2 (G' := fun f => evT f 203 39 [oR 52 0, nn, oI x2, oI x3, oI (cI 0)] [] s) (fun _ => rfl) ((t_fSheet_joinLine_h39 hk21) h)
      · exact rg_end 1 (fun _ => rfl) (by cases h; rfl)
    · exact rg_end 1 (fun _ => rfl) (by cases h; rfl)
theorem t_fSheet_joinLine_h21 {n : Nat} {s : ev_M} {x2 : Int32} {x3 : Int32} {j1 : Option ev_V} {j4 : Option ev_V} {q : ev_M} (h : fSheet_joinLine_h21 n s x2 x3 = some q) : RR 203 21 [oR 52 0, j1, oI x2, oI x3, j4] [] s (cvV q) := ti_fSheet_joinLine_h21 n s x2 x3 j1 j4 q h
theorem T_fSheet_joinLine {s : ev_M} {a1 : Int32} {a2 : Int32} {q : ev_M} (h : fSheet_joinLine s a1 a2 = some q) : RR 203 0 [oR 52 0, oI a1, oI a2, nn, nn] [] s (cvV q) := by
  refine rg_step 5 (G' := fun f => evT f 203 7 [oR 52 0, oI a1, oI a2, nn, nn] [] (wI s 54 (ix (cI 0)) a1)) (fun _ => rfl) (rg_ltM h fun s5 h => ?_)
  refine rg_step 3 (G' := fun f => evT f 203 12 [oR 52 0, oI a1, oI a2, nn, nn] [] (wI s5 52 8 (cI 1))) (fun _ => rfl) (rg_ltM h fun s6 h => ?_)
  refine rg_step 5 (G' := fun f => if inb a1 200 = true then evT f 203 19 [oR 52 0, oI a1, oI a2, nn, nn] [] (wI s6 60 (ix a1) a2) else none) (fun _ => rfl) (rg_gd h fun h => rg_ltM h fun s7 h => ?_)
  exact rg_step 2 (G' := fun f => evT f 203 21 [oR 52 0, oI a1, oI a2, oI (cI 0), nn] [] s7) (fun _ => rfl) ((t_fSheet_joinLine_h21) h)
theorem ti_fArr_fillI_60_h5 : ∀ (n : Nat) (s : ev_M) (x1 : Int32) (x2 : Int32) (x3 : Int32) (q : ev_M), fArr_fillI_60_h5 n s x1 x2 x3 = some q → RR 537 5 [oR 60 0, oI x1, oI x2, oI x3] [] s (cvV q) := by
  intro n
  induction n with
  | zero => intro s x1 x2 x3 q h; cases h
  | succ n ih =>
    have hk5 : ∀ {s : ev_M} {x1 : Int32} {x2 : Int32} {x3 : Int32} {q : ev_M}, fArr_fillI_60_h5 n s x1 x2 x3 = some q → RR 537 5 [oR 60 0, oI x1, oI x2, oI x3] [] s (cvV q) := fun h => ih _ _ _ _ _ h
    intro s x1 x2 x3 q h
    refine rg_step 3 (G' := fun f => if x2 < x3 then evT f 537 10 [oR 60 0, oI x1, oI x2, oI x3] [] s else evT f 537 20 [oR 60 0, oI x1, oI x2, oI x3] [] s) (fun _ => rfl) (rg_if h (fun h => ?_) fun h => ?_)
    · refine rg_step 4 (G' := fun f => if inb x2 200 = true then evT f 537 14 [oR 60 0, oI x1, oI x2, oI x3] [] (wI s 60 (ix x2) x1) else none) (fun _ => rfl) (rg_gd h fun h => rg_ltM h fun s1 h => ?_)
      exact rg_step 2 (G' := fun f => evT f 537 5 [oR 60 0, oI x1, oI (x2 + cI 1), oI x3] [] s1) (fun _ => rfl) (hk5 h)
    · exact rg_end 1 (fun _ => rfl) (by cases h; rfl)
theorem t_fArr_fillI_60_h5 {n : Nat} {s : ev_M} {x1 : Int32} {x2 : Int32} {x3 : Int32} {q : ev_M} (h : fArr_fillI_60_h5 n s x1 x2 x3 = some q) : RR 537 5 [oR 60 0, oI x1, oI x2, oI x3] [] s (cvV q) := ti_fArr_fillI_60_h5 n s x1 x2 x3 q h
theorem T_fArr_fillI_60 {s : ev_M} {a1 : Int32} {q : ev_M} (h : fArr_fillI_60 s a1 = some q) : RR 537 0 [oR 60 0, oI a1, nn, nn] [] s (cvV q) := by
  exact rg_step 5 (G' := fun f => evT f 537 5 [oR 60 0, oI a1, oI (cI 0), oI (cI 200)] [] s) (fun _ => rfl) ((t_fArr_fillI_60_h5) h)
theorem t_fSheet_joinLines_b39 {k12 : ev_M → Int32 → Int32 → Option ev_M} (hk12 : ∀ {s : ev_M} {x1 : Int32} {x2 : Int32} {q : ev_M}, k12 s x1 x2 = some q → RR 202 12 [oR 52 0, oI x1, oI x2] [] s (cvV q)) {s : ev_M} {x1 : Int32} {x2 : Int32} {q : ev_M} (h : fSheet_joinLines_b39 k12 s x1 x2 = some q) : RR 202 39 [oR 52 0, oI x1, oI x2] [] s (cvV q) := by
  exact rg_step 2 (G' := fun f => evT f 202 12 [oR 52 0, oI x1, oI (x2 + cI 1)] [] s) (fun _ => rfl) (hk12 h)
theorem ti_fSheet_joinLines_h12 : ∀ (n : Nat) (s : ev_M) (x1 : Int32) (x2 : Int32) (q : ev_M), fSheet_joinLines_h12 n s x1 x2 = some q → RR 202 12 [oR 52 0, oI x1, oI x2] [] s (cvV q) := by
  intro n
  induction n with
  | zero => intro s x1 x2 q h; cases h
  | succ n ih =>
    have hk12 : ∀ {s : ev_M} {x1 : Int32} {x2 : Int32} {q : ev_M}, fSheet_joinLines_h12 n s x1 x2 = some q → RR 202 12 [oR 52 0, oI x1, oI x2] [] s (cvV q) := fun h => ih _ _ _ _ h
    intro s x1 x2 q h
    refine rg_step 4 (G' := fun f => if x2 < (s.1 52 9) then evT f 202 20 [oR 52 0, oI x1, oI x2] [] s else evT f 202 45 [oR 52 0, oI x1, oI x2] [] s) (fun _ => rfl) (rg_if h (fun h => ?_) fun h => ?_)
    · refine rg_step 4 (G' := fun f => if inb x2 200 = true then evT f 202 26 [oR 52 0, oI x1, oI x2] [vI (s.1 60 (ix x2))] s else none) (fun _ => rfl) (rg_gd h fun h => ?_)
      refine rg_step 2 (G' := fun f => if (s.1 60 (ix x2)) = (cI (-1)) then evT f 202 30 [oR 52 0, oI x1, oI x2] [] s else evT f 202 39 [oR 52 0, oI x1, oI x2] [] s) (fun _ => rfl) (rg_if h (fun h => ?_) fun h => ?_)
      · refine rg_step 5 (G' := fun f => ev_after (evT f 203 0 [oR 52 0, oI x2, oI x1, nn, nn] [] s) (fun q => evT f 202 39 [oR 52 0, oI (x1 + cI 1), oI x2] (q.2 ++ []) q.1)) (fun _ => rfl) (rg_bd1 h fun s1 hc h => rg_call (q := cvV s1) (T_fSheet_joinLine hc) ?_)
        exact (t_fSheet_joinLines_b39 hk12) h
      · exact (t_fSheet_joinLines_b39 hk12) h
    · exact rg_end 1 (fun _ => rfl) (by cases h; rfl)
theorem t_fSheet_joinLines_h12 {n : Nat} {s : ev_M} {x1 : Int32} {x2 : Int32} {q : ev_M} (h : fSheet_joinLines_h12 n s x1 x2 = some q) : RR 202 12 [oR 52 0, oI x1, oI x2] [] s (cvV q) := ti_fSheet_joinLines_h12 n s x1 x2 q h
theorem T_fSheet_joinLines {s : ev_M} {q : ev_M} (h : fSheet_joinLines s = some q) : RR 202 0 [oR 52 0, nn, nn] [] s (cvV q) := by
  refine rg_step 6 (G' := fun f => ev_after (evT f 537 0 [oR 60 0, oI (cI (-1)), nn, nn] [] s) (fun q => evT f 202 10 [oR 52 0, oI (cI 0), nn] (q.2 ++ []) q.1)) (fun _ => rfl) (rg_bd1 h fun s2 hc h => rg_call (q := cvV s2) (T_fArr_fillI_60 hc) ?_)
  exact rg_step 2 (G' := fun f => evT f 202 12 [oR 52 0, oI (cI 0), oI (cI 0)] [] s2) (fun _ => rfl) ((t_fSheet_joinLines_h12) h)
theorem T_fSheet_goesBefore {s : ev_M} {a1 : Int32} {a2 : Int32} {q : Int32} (h : fSheet_goesBefore s a1 a2 = some q) : RR 206 0 [oR 52 0, oI a1, oI a2, nn, nn] [] s (cvP s q) := by
  refine rg_step 4 (G' := fun f => if inb a1 200 = true then evT f 206 6 [oR 52 0, oI a1, oI a2, nn, nn] [vI (s.1 60 (ix a1))] s else none) (fun _ => rfl) (rg_gd h fun h => ?_)
  refine rg_step 4 (G' := fun f => if inb a2 200 = true then evT f 206 12 [oR 52 0, oI a1, oI a2, nn, nn] [vI (s.1 60 (ix a2)), vI (s.1 60 (ix a1))] s else none) (fun _ => rfl) (rg_gd h fun h => ?_)
  refine rg_step 1 (G' := fun f => if (s.1 60 (ix a1)) = (s.1 60 (ix a2)) then evT f 206 36 [oR 52 0, oI a1, oI a2, nn, nn] [] s else evT f 206 15 [oR 52 0, oI a1, oI a2, nn, nn] [] s) (fun _ => rfl) (rg_if h (fun h => ?_) fun h => ?_)
  · refine rg_step 6 (G' := fun f => if inb a1 200 = true then evT f 206 44 [oR 52 0, oI a1, oI a2, nn, nn] [vI (s.1 (56 + (ix (cI 0))) (ix a1))] s else none) (fun _ => rfl) (rg_gd h fun h => ?_)
    refine rg_step 6 (G' := fun f => if inb a2 200 = true then evT f 206 52 [oR 52 0, oI a1, oI a2, nn, nn] [vI (s.1 (56 + (ix (cI 0))) (ix a2)), vI (s.1 (56 + (ix (cI 0))) (ix a1))] s else none) (fun _ => rfl) (rg_gd h fun h => ?_)
    refine rg_step 2 (G' := fun f => evT f 206 54 [oR 52 0, oI a1, oI a2, oI ((s.1 (56 + (ix (cI 0))) (ix a1)) - (s.1 (56 + (ix (cI 0))) (ix a2))), nn] [] s) (fun _ => rfl) (rg_ltI (P := fun v1 => RG (fun f => evT f 206 54 [oR 52 0, oI a1, oI a2, oI v1, nn] [] s) (cvP s q)) h fun v1 h => ?_)
    refine rg_step 6 (G' := fun f => if inb a1 200 = true then evT f 206 62 [oR 52 0, oI a1, oI a2, oI v1, nn] [vI (s.1 (56 + (ix (cI 1))) (ix a1))] s else none) (fun _ => rfl) (rg_gd h fun h => ?_)
    refine rg_step 6 (G' := fun f => if inb a2 200 = true then evT f 206 70 [oR 52 0, oI a1, oI a2, oI v1, nn] [vI (s.1 (56 + (ix (cI 1))) (ix a2)), vI (s.1 (56 + (ix (cI 1))) (ix a1))] s else none) (fun _ => rfl) (rg_gd h fun h => ?_)
    refine rg_step 2 (G' := fun f => evT f 206 73 [oR 52 0, oI a1, oI a2, oI v1, oI ((s.1 (56 + (ix (cI 1))) (ix a1)) - (s.1 (56 + (ix (cI 1))) (ix a2)))] [] s) (fun _ => rfl) (rg_ltI (P := fun v2 => RG (fun f => evT f 206 73 [oR 52 0, oI a1, oI a2, oI v1, oI v2] [] s) (cvP s q)) h fun v2 h => ?_)
    refine rg_step 2 (G' := fun f => if v1 = 0 then evT f 206 89 [oR 52 0, oI a1, oI a2, oI v1, oI v2] [] s else evT f 206 77 [oR 52 0, oI a1, oI a2, oI v1, oI v2] [] s) (fun _ => rfl) (rg_if h (fun h => ?_) fun h => ?_)
    · refine rg_step 2 (G' := fun f => if v2 = 0 then evT f 206 107 [oR 52 0, oI a1, oI a2, oI v1, oI v2] [] s else evT f 206 94 [oR 52 0, oI a1, oI a2, oI v1, oI v2] [] s) (fun _ => rfl) (rg_if h (fun h => ?_) fun h => ?_)
      · refine rg_step 3 (G' := fun f => if a1 < a2 then evT f 206 112 [oR 52 0, oI a1, oI a2, oI v1, oI v2] [] s else evT f 206 116 [oR 52 0, oI a1, oI a2, oI v1, oI v2] [] s) (fun _ => rfl) (rg_if h (fun h => ?_) fun h => ?_)
        · exact rg_end 3 (fun _ => rfl) (by cases h; rfl)
        · exact rg_end 2 (fun _ => rfl) (by cases h; rfl)
      · refine rg_step 2 (G' := fun f => if v2 < 0 then evT f 206 99 [oR 52 0, oI a1, oI a2, oI v1, oI v2] [] s else evT f 206 103 [oR 52 0, oI a1, oI a2, oI v1, oI v2] [] s) (fun _ => rfl) (rg_if h (fun h => ?_) fun h => ?_)
        · exact rg_end 3 (fun _ => rfl) (by cases h; rfl)
        · exact rg_end 3 (fun _ => rfl) (by cases h; rfl)
    · refine rg_step 2 (G' := fun f => if v1 < 0 then evT f 206 81 [oR 52 0, oI a1, oI a2, oI v1, oI v2] [] s else evT f 206 85 [oR 52 0, oI a1, oI a2, oI v1, oI v2] [] s) (fun _ => rfl) (rg_if h (fun h => ?_) fun h => ?_)
      · exact rg_end 3 (fun _ => rfl) (by cases h; rfl)
      · exact rg_end 3 (fun _ => rfl) (by cases h; rfl)
  · refine rg_step 4 (G' := fun f => if inb a1 200 = true then evT f 206 21 [oR 52 0, oI a1, oI a2, nn, nn] [vI (s.1 60 (ix a1))] s else none) (fun _ => rfl) (rg_gd h fun h => ?_)
    refine rg_step 4 (G' := fun f => if inb a2 200 = true then evT f 206 27 [oR 52 0, oI a1, oI a2, nn, nn] [vI (s.1 60 (ix a2)), vI (s.1 60 (ix a1))] s else none) (fun _ => rfl) (rg_gd h fun h => ?_)
    refine rg_step 1 (G' := fun f => if (s.1 60 (ix a1)) < (s.1 60 (ix a2)) then evT f 206 30 [oR 52 0, oI a1, oI a2, nn, nn] [] s else evT f 206 34 [oR 52 0, oI a1, oI a2, nn, nn] [] s) (fun _ => rfl) (rg_if h (fun h => ?_) fun h => ?_)
    · exact rg_end 3 (fun _ => rfl) (by cases h; rfl)
    · exact rg_end 2 (fun _ => rfl) (by cases h; rfl)
theorem t_fSheet_orderParts_b52 {k2 : ev_M → Int32 → Option ev_M} (hk2 : ∀ {s : ev_M} {x1 : Int32} {j2 : Option ev_V} {q : ev_M}, k2 s x1 = some q → RR 205 2 [oR 52 0, oI x1, j2] [] s (cvV q)) {s : ev_M} {x1 : Int32} {x2 : Int32} {q : ev_M} (h : fSheet_orderParts_b52 k2 s x1 x2 = some q) : RR 205 52 [oR 52 0, oI x1, oI x2] [] s (cvV q) := by
  refine rg_step 5 (G' := fun f => if inb x2 200 = true then evT f 205 59 [oR 52 0, oI x1, oI x2] [] (wI s 61 (ix x2) x1) else none) (fun _ => rfl) (rg_gd h fun h => rg_ltM h fun s1 h => ?_)
  exact rg_step 2 (G' := fun f => evT f 205 2 [oR 52 0, oI (x1 + cI 1), oI x2] [] s1) (fun _ => rfl) (hk2 h)
theorem ti_fSheet_orderParts_h12 {k2 : ev_M → Int32 → Option ev_M} (hk2 : ∀ {s : ev_M} {x1 : Int32} {j2 : Option ev_V} {q : ev_M}, k2 s x1 = some q → RR 205 2 [oR 52 0, oI x1, j2] [] s (cvV q)) : ∀ (n : Nat) (s : ev_M) (x1 : Int32) (x2 : Int32) (q : ev_M), fSheet_orderParts_h12 k2 n s x1 x2 = some q → RR 205 12 [oR 52 0, oI x1, oI x2] [] s (cvV q) := by
  intro n
  induction n with
  | zero => intro s x1 x2 q h; cases h
  | succ n ih =>
    have hk12 : ∀ {s : ev_M} {x1 : Int32} {x2 : Int32} {q : ev_M}, fSheet_orderParts_h12 k2 n s x1 x2 = some q → RR 205 12 [oR 52 0, oI x1, oI x2] [] s (cvV q) := fun h => ih _ _ _ _ h
    intro s x1 x2 q h
    refine rg_step 2 (G' := fun f => if x2 ≤ 0 then evT f 205 52 [oR 52 0, oI x1, oI x2] [] s else evT f 205 16 [oR 52 0, oI x1, oI x2] [] s) (fun _ => rfl) (rg_if h (fun h => ?_) fun h => ?_)
    · exact (t_fSheet_orderParts_b52 hk2) h
    · refine rg_step 8 (G' := fun f => if inb (x2 - (cI 1)) 200 = true then evT f 205 26 [oR 52 0, oI x1, oI x2] [vI (s.1 61 (ix (x2 - (cI 1)))), vI x1, vR 52 0] s else none) (fun _ => rfl) (rg_gd h fun h => ?_)
      refine rg_step 1 (G' := fun f => ev_after (evT f 206 0 [oR 52 0, oI x1, oI (s.1 61 (ix (x2 - (cI 1)))), nn, nn] [] s) (fun q => evT f 205 29 [oR 52 0, oI x1, oI x2] (q.2 ++ []) q.1)) (fun _ => rfl) (rg_bd1 h fun v2 hc h => rg_call (q := cvP s v2) (T_fSheet_goesBefore hc) ?_)
      refine rg_step 1 (G' := fun f => if v2 = 0 then evT f 205 52 [oR 52 0, oI x1, oI x2] [] s else evT f 205 32 [oR 52 0, oI x1, oI x2] [] s) (fun _ => rfl) (rg_if h (fun h => ?_) fun h => ?_)
      · exact (t_fSheet_orderParts_b52 hk2) h
      · refine rg_step 9 (G' := fun f => if inb (x2 - (cI 1)) 200 = true then evT f 205 45 [oR 52 0, oI x1, oI x2] [vI (s.1 61 (ix (x2 - (cI 1)))), vI x2, vR 61 0] s else none) (fun _ => rfl) (rg_gd h fun h => ?_)
        refine rg_step 1 (G' := fun f => if inb x2 200 = true then evT f 205 46 [oR 52 0, oI x1, oI x2] [] (wI s 61 (ix x2) (s.1 61 (ix (x2 - (cI 1))))) else none) (fun _ => rfl) (rg_gd h fun h => rg_ltM h fun s3 h => ?_)
        exact rg_step 2 (G' := fun f => evT f 205 12 [oR 52 0, oI x1, oI (x2 + cI (-1))] [] s3) (fun f => Eq.trans (b := evT (f + 1 + 1) 205 46 [oR 52 0, oI x1, oI x2] [] s3) rfl ((ev_inc (f := f + 1) (M := 205) (pc := 46) (i := 2) (n := 3) (c := (-1)) (r := 0) (dl := []) (L := [oR 52 0, oI x1, oI x2]) (L' := [oR 52 0, oI x1, oI (x2 + cI (-1))]) (s := s3) (y := x2) rfl rfl rfl).trans rfl)) (hk12 h)
theorem t_fSheet_orderParts_h12 {k2 : ev_M → Int32 → Option ev_M} (hk2 : ∀ {s : ev_M} {x1 : Int32} {j2 : Option ev_V} {q : ev_M}, k2 s x1 = some q → RR 205 2 [oR 52 0, oI x1, j2] [] s (cvV q)) {n : Nat} {s : ev_M} {x1 : Int32} {x2 : Int32} {q : ev_M} (h : fSheet_orderParts_h12 k2 n s x1 x2 = some q) : RR 205 12 [oR 52 0, oI x1, oI x2] [] s (cvV q) := ti_fSheet_orderParts_h12 hk2 n s x1 x2 q h
theorem ti_fSheet_orderParts_h2 : ∀ (n : Nat) (s : ev_M) (x1 : Int32) (j2 : Option ev_V) (q : ev_M), fSheet_orderParts_h2 n s x1 = some q → RR 205 2 [oR 52 0, oI x1, j2] [] s (cvV q) := by
  intro n
  induction n with
  | zero => intro s x1 j2 q h; cases h
  | succ n ih =>
    have hk2 : ∀ {s : ev_M} {x1 : Int32} {j2 : Option ev_V} {q : ev_M}, fSheet_orderParts_h2 n s x1 = some q → RR 205 2 [oR 52 0, oI x1, j2] [] s (cvV q) := fun h => ih _ _ _ _ h
    intro s x1 j2 q h
    refine rg_step 4 (G' := fun f => if x1 < (s.1 52 9) then evT f 205 10 [oR 52 0, oI x1, nn] [] s else evT f 205 65 [oR 52 0, oI x1, nn] [] s) (fun _ => rfl) (rg_if h (fun h => ?_) fun h => ?_)
    · exact rg_step 2 (G' := fun f => evT f 205 12 [oR 52 0, oI x1, oI x1] [] s) (fun _ => rfl) ((t_fSheet_orderParts_h12 hk2) h)
    · exact rg_end 1 (fun _ => rfl) (by cases h; rfl)
theorem t_fSheet_orderParts_h2 {n : Nat} {s : ev_M} {x1 : Int32} {j2 : Option ev_V} {q : ev_M} (h : fSheet_orderParts_h2 n s x1 = some q) : RR 205 2 [oR 52 0, oI x1, j2] [] s (cvV q) := ti_fSheet_orderParts_h2 n s x1 j2 q h
theorem T_fSheet_orderParts {s : ev_M} {q : ev_M} (h : fSheet_orderParts s = some q) : RR 205 0 [oR 52 0, nn, nn] [] s (cvV q) := by
  exact rg_step 2 (G' := fun f => evT f 205 2 [oR 52 0, oI (cI 0), nn] [] s) (fun _ => rfl) ((t_fSheet_orderParts_h2) h)
theorem t_fSheet_isInk_b43 {s : ev_M} {k6 : Int32 → Int32 → Int32 → Int32 → Int32 → Int32 → Option Int32} {k16 : Int32 → Int32 → Int32 → Int32 → Int32 → Int32 → Int32 → Option Int32} (hk6 : ∀ {x1 : Int32} {x2 : Int32} {x3 : Int32} {x4 : Int32} {x5 : Int32} {x6 : Int32} {j7 : Option ev_V} {q : Int32}, k6 x1 x2 x3 x4 x5 x6 = some q → RR 211 6 [oR 52 0, oI x1, oI x2, oI x3, oI x4, oI x5, oI x6, j7] [] s (cvP s q)) (hk16 : ∀ {x1 : Int32} {x2 : Int32} {x3 : Int32} {x4 : Int32} {x5 : Int32} {x6 : Int32} {x7 : Int32} {q : Int32}, k16 x1 x2 x3 x4 x5 x6 x7 = some q → RR 211 16 [oR 52 0, oI x1, oI x2, oI x3, oI x4, oI x5, oI x6, oI x7] [] s (cvP s q)) {x1 : Int32} {x2 : Int32} {x3 : Int32} {x4 : Int32} {x5 : Int32} {x6 : Int32} {x7 : Int32} {q : Int32} (h : fSheet_isInk_b43 s k6 k16 x1 x2 x3 x4 x5 x6 x7 = some q) : RR 211 43 [oR 52 0, oI x1, oI x2, oI x3, oI x4, oI x5, oI x6, oI x7] [] s (cvP s q) := by
  exact rg_step 2 (G' := fun f => evT f 211 16 [oR 52 0, oI x1, oI x2, oI x3, oI x4, oI x5, oI x6, oI (x7 + cI 1)] [] s) (fun _ => rfl) (hk16 h)
theorem ti_fSheet_isInk_h16 {s : ev_M} {k6 : Int32 → Int32 → Int32 → Int32 → Int32 → Int32 → Option Int32} (hk6 : ∀ {x1 : Int32} {x2 : Int32} {x3 : Int32} {x4 : Int32} {x5 : Int32} {x6 : Int32} {j7 : Option ev_V} {q : Int32}, k6 x1 x2 x3 x4 x5 x6 = some q → RR 211 6 [oR 52 0, oI x1, oI x2, oI x3, oI x4, oI x5, oI x6, j7] [] s (cvP s q)) : ∀ (n : Nat) (x1 : Int32) (x2 : Int32) (x3 : Int32) (x4 : Int32) (x5 : Int32) (x6 : Int32) (x7 : Int32) (q : Int32), fSheet_isInk_h16 s k6 n x1 x2 x3 x4 x5 x6 x7 = some q → RR 211 16 [oR 52 0, oI x1, oI x2, oI x3, oI x4, oI x5, oI x6, oI x7] [] s (cvP s q) := by
  intro n
  induction n with
  | zero => intro x1 x2 x3 x4 x5 x6 x7 q h; cases h
  | succ n ih =>
    have hk16 : ∀ {x1 : Int32} {x2 : Int32} {x3 : Int32} {x4 : Int32} {x5 : Int32} {x6 : Int32} {x7 : Int32} {q : Int32}, fSheet_isInk_h16 s k6 n x1 x2 x3 x4 x5 x6 x7 = some q → RR 211 16 [oR 52 0, oI x1, oI x2, oI x3, oI x4, oI x5, oI x6, oI x7] [] s (cvP s q) := fun h => ih _ _ _ _ _ _ _ _ h
    intro x1 x2 x3 x4 x5 x6 x7 q h
    refine rg_step 3 (G' := fun f => if x7 < x2 then evT f 211 22 [oR 52 0, oI x1, oI x2, oI x3, oI x4, oI x5, oI x6, oI x7] [] s else evT f 211 49 [oR 52 0, oI x1, oI x2, oI x3, oI x4, oI x5, oI x6, oI x7] [] s) (fun _ => rfl) (rg_if h (fun h => ?_) fun h => ?_)
    · refine rg_step 9 (G' := fun f => if inb ((x6 * (s.1 52 4)) + x7) 4096 = true then evT f 211 37 [oR 52 0, oI x1, oI x2, oI x3, oI x4, oI x5, oI x6, oI x7] [vI (s.1 53 (ix ((x6 * (s.1 52 4)) + x7)))] s else none) (fun _ => rfl) (rg_gd h fun h => ?_)
      refine rg_step 1 (G' := fun f => if (s.1 53 (ix ((x6 * (s.1 52 4)) + x7))) = 0 then evT f 211 43 [oR 52 0, oI x1, oI x2, oI x3, oI x4, oI x5, oI x6, oI x7] [] s else evT f 211 40 [oR 52 0, oI x1, oI x2, oI x3, oI x4, oI x5, oI x6, oI x7] [] s) (fun _ => rfl) (rg_if h (fun h => ?_) fun h => ?_)
      · exact (t_fSheet_isInk_b43 hk6 hk16) h
      · exact rg_step 1 (G' := fun f => evT f 211 43 [oR 52 0, oI x1, oI x2, oI x3, oI x4, oI (x5 + cI 1), oI x6, oI x7] [] s) (fun _ => rfl) ((t_fSheet_isInk_b43 hk6 hk16) h)
    · exact rg_step 2 (G' := fun f => evT f 211 6 [oR 52 0, oI x1, oI x2, oI x3, oI x4, oI x5, oI (x6 + cI 1), oI x7] [] s) (fun _ => rfl) (hk6 h)
theorem t_fSheet_isInk_h16 {s : ev_M} {k6 : Int32 → Int32 → Int32 → Int32 → Int32 → Int32 → Option Int32} (hk6 : ∀ {x1 : Int32} {x2 : Int32} {x3 : Int32} {x4 : Int32} {x5 : Int32} {x6 : Int32} {j7 : Option ev_V} {q : Int32}, k6 x1 x2 x3 x4 x5 x6 = some q → RR 211 6 [oR 52 0, oI x1, oI x2, oI x3, oI x4, oI x5, oI x6, j7] [] s (cvP s q)) {n : Nat} {x1 : Int32} {x2 : Int32} {x3 : Int32} {x4 : Int32} {x5 : Int32} {x6 : Int32} {x7 : Int32} {q : Int32} (h : fSheet_isInk_h16 s k6 n x1 x2 x3 x4 x5 x6 x7 = some q) : RR 211 16 [oR 52 0, oI x1, oI x2, oI x3, oI x4, oI x5, oI x6, oI x7] [] s (cvP s q) := ti_fSheet_isInk_h16 hk6 n x1 x2 x3 x4 x5 x6 x7 q h
theorem ti_fSheet_isInk_h6 {s : ev_M} : ∀ (n : Nat) (x1 : Int32) (x2 : Int32) (x3 : Int32) (x4 : Int32) (x5 : Int32) (x6 : Int32) (j7 : Option ev_V) (q : Int32), fSheet_isInk_h6 s n x1 x2 x3 x4 x5 x6 = some q → RR 211 6 [oR 52 0, oI x1, oI x2, oI x3, oI x4, oI x5, oI x6, j7] [] s (cvP s q) := by
  intro n
  induction n with
  | zero => intro x1 x2 x3 x4 x5 x6 j7 q h; cases h
  | succ n ih =>
    have hk6 : ∀ {x1 : Int32} {x2 : Int32} {x3 : Int32} {x4 : Int32} {x5 : Int32} {x6 : Int32} {j7 : Option ev_V} {q : Int32}, fSheet_isInk_h6 s n x1 x2 x3 x4 x5 x6 = some q → RR 211 6 [oR 52 0, oI x1, oI x2, oI x3, oI x4, oI x5, oI x6, j7] [] s (cvP s q) := fun h => ih _ _ _ _ _ _ _ _ h
    intro x1 x2 x3 x4 x5 x6 j7 q h
    refine rg_step 3 (G' := fun f => if x6 < x4 then evT f 211 13 [oR 52 0, oI x1, oI x2, oI x3, oI x4, oI x5, oI x6, nn] [] s else evT f 211 55 [oR 52 0, oI x1, oI x2, oI x3, oI x4, oI x5, oI x6, nn] [] s) (fun _ => rfl) (rg_if h (fun h => ?_) fun h => ?_)
    · exact rg_step 2 (G' := fun f => evT f 211 16 [oR 52 0, oI x1, oI x2, oI x3, oI x4, oI x5, oI x6, oI x1] [] s) (fun _ => rfl) ((t_fSheet_isInk_h16 hk6) h)
    · refine rg_step 8 (G' := fun f => evT f 211 65 [oR 52 0, oI x1, oI x2, oI x3, oI x4, oI x5, oI ((x2 - x1) * (x4 - x3)), nn] [] s) (fun _ => rfl) (rg_ltI (P := fun v1 => RG (fun f => evT f 211 65 [oR 52 0, oI x1, oI x2, oI x3, oI x4, oI x5, oI v1, nn] [] s) (cvP s q)) h fun v1 h => ?_)
      refine rg_step 2 (G' := fun f => if v1 ≤ 0 then evT f 211 83 [oR 52 0, oI x1, oI x2, oI x3, oI x4, oI x5, oI v1, nn] [] s else evT f 211 70 [oR 52 0, oI x1, oI x2, oI x3, oI x4, oI x5, oI v1, nn] [] s) (fun _ => rfl) (rg_if h (fun h => ?_) fun h => ?_)
      · exact rg_end 2 (fun _ => rfl) (by cases h; rfl)
      · refine rg_step 5 (G' := fun f => if ((cI 2) * x5) < v1 then evT f 211 83 [oR 52 0, oI x1, oI x2, oI x3, oI x4, oI x5, oI v1, nn] [] s else evT f 211 79 [oR 52 0, oI x1, oI x2, oI x3, oI x4, oI x5, oI v1, nn] [] s) (fun _ => rfl) (rg_if h (fun h => ?_) fun h => ?_)
        · exact rg_end 2 (fun _ => rfl) (by cases h; rfl)
        · exact rg_end 3 (fun _ => rfl) (by cases h; rfl)
theorem t_fSheet_isInk_h6 {s : ev_M} {n : Nat} {x1 : Int32} {x2 : Int32} {x3 : Int32} {x4 : Int32} {x5 : Int32} {x6 : Int32} {j7 : Option ev_V} {q : Int32} (h : fSheet_isInk_h6 s n x1 x2 x3 x4 x5 x6 = some q) : RR 211 6 [oR 52 0, oI x1, oI x2, oI x3, oI x4, oI x5, oI x6, j7] [] s (cvP s q) := ti_fSheet_isInk_h6 n x1 x2 x3 x4 x5 x6 j7 q h
theorem T_fSheet_isInk {s : ev_M} {a1 : Int32} {a2 : Int32} {a3 : Int32} {a4 : Int32} {q : Int32} (h : fSheet_isInk s a1 a2 a3 a4 = some q) : RR 211 0 [oR 52 0, oI a1, oI a2, oI a3, oI a4, nn, nn, nn] [] s (cvP s q) := by
  exact rg_step 4 (G' := fun f => evT f 211 6 [oR 52 0, oI a1, oI a2, oI a3, oI a4, oI (cI 0), oI a3, nn] [] s) (fun _ => rfl) ((t_fSheet_isInk_h6) h)
theorem t_fSheet_cellsOf_b139 {s : ev_M} {k4 : Int32 → Int32 → Int32 → Option Int32} {k60 : Int32 → Int32 → Int32 → Int32 → Int32 → Int32 → Option Int32} (hk4 : ∀ {x1 : Int32} {x2 : Int32} {x3 : Int32} {j4 : Option ev_V} {j5 : Option ev_V} {j6 : Option ev_V} {j7 : Option ev_V} {j8 : Option ev_V} {q : Int32}, k4 x1 x2 x3 = some q → RR 210 4 [oR 52 0, oI x1, oI x2, oI x3, j4, j5, j6, j7, j8] [] s (cvP s q)) (hk60 : ∀ {x1 : Int32} {x2 : Int32} {x3 : Int32} {x4 : Int32} {x5 : Int32} {x6 : Int32} {j7 : Option ev_V} {j8 : Option ev_V} {q : Int32}, k60 x1 x2 x3 x4 x5 x6 = some q → RR 210 60 [oR 52 0, oI x1, oI x2, oI x3, oI x4, oI x5, oI x6, j7, j8] [] s (cvP s q)) {x1 : Int32} {x3 : Int32} {x4 : Int32} {x5 : Int32} {x6 : Int32} {y0 : Int32} {y1 : Int32} {j2 : Option ev_V} {j7 : Option ev_V} {j8 : Option ev_V} {q : Int32} (h : fSheet_cellsOf_b139 s k4 k60 x1 x3 x4 x5 x6 y0 y1 = some q) : RR 210 139 [oR 52 0, oI x1, j2, oI x3, oI x4, oI x5, oI x6, j7, j8] [vI y1, vI y0] s (cvP s q) := by
  refine rg_step 2 (G' := fun f => evT f 210 141 [oR 52 0, oI x1, oI (y0 ||| y1), oI x3, oI x4, oI x5, oI x6, nn, nn] [] s) (fun _ => rfl) (rg_ltI (P := fun v1 => RG (fun f => evT f 210 141 [oR 52 0, oI x1, oI v1, oI x3, oI x4, oI x5, oI x6, nn, nn] [] s) (cvP s q)) h fun v1 h => ?_)
  exact rg_step 2 (G' := fun f => evT f 210 60 [oR 52 0, oI x1, oI v1, oI x3, oI x4, oI x5, oI (x6 + cI 1), nn, nn] [] s) (fun _ => rfl) (hk60 h)
theorem ti_fSheet_cellsOf_h60 {s : ev_M} {k4 : Int32 → Int32 → Int32 → Option Int32} (hk4 : ∀ {x1 : Int32} {x2 : Int32} {x3 : Int32} {j4 : Option ev_V} {j5 : Option ev_V} {j6 : Option ev_V} {j7 : Option ev_V} {j8 : Option ev_V} {q : Int32}, k4 x1 x2 x3 = some q → RR 210 4 [oR 52 0, oI x1, oI x2, oI x3, j4, j5, j6, j7, j8] [] s (cvP s q)) : ∀ (n : Nat) (x1 : Int32) (x2 : Int32) (x3 : Int32) (x4 : Int32) (x5 : Int32) (x6 : Int32) (j7 : Option ev_V) (j8 : Option ev_V) (q : Int32), fSheet_cellsOf_h60 s k4 n x1 x2 x3 x4 x5 x6 = some q → RR 210 60 [oR 52 0, oI x1, oI x2, oI x3, oI x4, oI x5, oI x6, j7, j8] [] s (cvP s q) := by
  intro n
  induction n with
  | zero => intro x1 x2 x3 x4 x5 x6 j7 j8 q h; cases h
  | succ n ih =>
    have hk60 : ∀ {x1 : Int32} {x2 : Int32} {x3 : Int32} {x4 : Int32} {x5 : Int32} {x6 : Int32} {j7 : Option ev_V} {j8 : Option ev_V} {q : Int32}, fSheet_cellsOf_h60 s k4 n x1 x2 x3 x4 x5 x6 = some q → RR 210 60 [oR 52 0, oI x1, oI x2, oI x3, oI x4, oI x5, oI x6, j7, j8] [] s (cvP s q) := fun h => ih _ _ _ _ _ _ _ _ _ h
    intro x1 x2 x3 x4 x5 x6 j7 j8 q h
    refine rg_step 3 (G' := fun f => if x6 < (cI 3) then evT f 210 66 [oR 52 0, oI x1, oI x2, oI x3, oI x4, oI x5, oI x6, nn, nn] [] s else evT f 210 147 [oR 52 0, oI x1, oI x2, oI x3, oI x4, oI x5, oI x6, nn, nn] [] s) (fun _ => rfl) (rg_if h (fun h => ?_) fun h => ?_)
    · refine rg_step 6 (G' := fun f => if inb x1 200 = true then evT f 210 74 [oR 52 0, oI x1, oI x2, oI x3, oI x4, oI x5, oI x6, nn, nn] [vI (s.1 (56 + (ix (cI 0))) (ix x1))] s else none) (fun _ => rfl) (rg_gd h fun h => ?_)
      refine rg_step 7 (G' := fun f => if inb x1 200 = true then evT f 210 84 [oR 52 0, oI x1, oI x2, oI x3, oI x4, oI x5, oI x6, nn, nn] [vI (s.1 (56 + (ix (cI 2))) (ix x1)), vI x6, vI (s.1 (56 + (ix (cI 0))) (ix x1))] s else none) (fun _ => rfl) (rg_gd h fun h => ?_)
      refine rg_step 3 (G' := fun f => if (cI 3) = 0 then none else evT f 210 87 [oR 52 0, oI x1, oI x2, oI x3, oI x4, oI x5, oI x6, nn, nn] [vI ((x6 * (s.1 (56 + (ix (cI 2))) (ix x1))) / (cI 3)), vI (s.1 (56 + (ix (cI 0))) (ix x1))] s) (fun _ => rfl) (rg_dv h fun h => ?_)
      refine rg_step 2 (G' := fun f => evT f 210 90 [oR 52 0, oI x1, oI x2, oI x3, oI x4, oI x5, oI x6, oI ((s.1 (56 + (ix (cI 0))) (ix x1)) + ((x6 * (s.1 (56 + (ix (cI 2))) (ix x1))) / (cI 3))), nn] [] s) (fun _ => rfl) (rg_ltI (P := fun v2 => RG (fun f => evT f 210 90 [oR 52 0, oI x1, oI x2, oI x3, oI x4, oI x5, oI x6, oI v2, nn] [] s) (cvP s q)) h fun v2 h => ?_)
      refine rg_step 6 (G' := fun f => if inb x1 200 = true then evT f 210 98 [oR 52 0, oI x1, oI x2, oI x3, oI x4, oI x5, oI x6, oI v2, nn] [vI (s.1 (56 + (ix (cI 0))) (ix x1))] s else none) (fun _ => rfl) (rg_gd h fun h => ?_)
      refine rg_step 9 (G' := fun f => if inb x1 200 = true then evT f 210 110 [oR 52 0, oI x1, oI x2, oI x3, oI x4, oI x5, oI x6, oI v2, nn] [vI (s.1 (56 + (ix (cI 2))) (ix x1)), vI (x6 + (cI 1)), vI (s.1 (56 + (ix (cI 0))) (ix x1))] s else none) (fun _ => rfl) (rg_gd h fun h => ?_)
      refine rg_step 3 (G' := fun f => if (cI 3) = 0 then none else evT f 210 113 [oR 52 0, oI x1, oI x2, oI x3, oI x4, oI x5, oI x6, oI v2, nn] [vI (((x6 + (cI 1)) * (s.1 (56 + (ix (cI 2))) (ix x1))) / (cI 3)), vI (s.1 (56 + (ix (cI 0))) (ix x1))] s) (fun _ => rfl) (rg_dv h fun h => ?_)
      refine rg_step 2 (G' := fun f => evT f 210 116 [oR 52 0, oI x1, oI x2, oI x3, oI x4, oI x5, oI x6, oI v2, oI ((s.1 (56 + (ix (cI 0))) (ix x1)) + (((x6 + (cI 1)) * (s.1 (56 + (ix (cI 2))) (ix x1))) / (cI 3)))] [] s) (fun _ => rfl) (rg_ltI (P := fun v3 => RG (fun f => evT f 210 116 [oR 52 0, oI x1, oI x2, oI x3, oI x4, oI x5, oI x6, oI v2, oI v3] [] s) (cvP s q)) h fun v3 h => ?_)
      refine rg_step 9 (G' := fun f => ev_after (evT f 211 0 [oR 52 0, oI v2, oI v3, oI x4, oI x5, nn, nn, nn] [] s) (fun q => evT f 210 131 [oR 52 0, oI x1, oI x2, oI x3, oI x4, oI x5, oI x6, oI v2, oI v3] (q.2 ++ [vI (x2 <<< ((cI 1) &&& 31))]) q.1)) (fun _ => rfl) (rg_bd1 h fun v4 hc h => rg_call (q := cvP s v4) (T_fSheet_isInk hc) ?_)
      refine rg_step 1 (G' := fun f => if v4 = 0 then evT f 210 138 [oR 52 0, oI x1, oI x2, oI x3, oI x4, oI x5, oI x6, oI v2, oI v3] [vI (x2 <<< ((cI 1) &&& 31))] s else evT f 210 134 [oR 52 0, oI x1, oI x2, oI x3, oI x4, oI x5, oI x6, oI v2, oI v3] [vI (x2 <<< ((cI 1) &&& 31))] s) (fun _ => rfl) (rg_if h (fun h => ?_) fun h => ?_)
      · exact rg_step 1 (G' := fun f => evT f 210 139 [oR 52 0, oI x1, oI x2, oI x3, oI x4, oI x5, oI x6, oI v2, oI v3] [vI (cI 0), vI (x2 <<< ((cI 1) &&& 31))] s) (fun _ => rfl) ((t_fSheet_cellsOf_b139 hk4 hk60) h)
      · exact rg_step 2 (G' := fun f => evT f 210 139 [oR 52 0, oI x1, oI x2, oI x3, oI x4, oI x5, oI x6, oI v2, oI v3] [vI (cI 1), vI (x2 <<< ((cI 1) &&& 31))] s) (fun _ => rfl) ((t_fSheet_cellsOf_b139 hk4 hk60) h)
    · exact rg_step 2 (G' := fun f => evT f 210 4 [oR 52 0, oI x1, oI x2, oI (x3 + cI 1), oI x4, oI x5, oI x6, nn, nn] [] s) (fun _ => rfl) (hk4 h)
theorem t_fSheet_cellsOf_h60 {s : ev_M} {k4 : Int32 → Int32 → Int32 → Option Int32} (hk4 : ∀ {x1 : Int32} {x2 : Int32} {x3 : Int32} {j4 : Option ev_V} {j5 : Option ev_V} {j6 : Option ev_V} {j7 : Option ev_V} {j8 : Option ev_V} {q : Int32}, k4 x1 x2 x3 = some q → RR 210 4 [oR 52 0, oI x1, oI x2, oI x3, j4, j5, j6, j7, j8] [] s (cvP s q)) {n : Nat} {x1 : Int32} {x2 : Int32} {x3 : Int32} {x4 : Int32} {x5 : Int32} {x6 : Int32} {j7 : Option ev_V} {j8 : Option ev_V} {q : Int32} (h : fSheet_cellsOf_h60 s k4 n x1 x2 x3 x4 x5 x6 = some q) : RR 210 60 [oR 52 0, oI x1, oI x2, oI x3, oI x4, oI x5, oI x6, j7, j8] [] s (cvP s q) := ti_fSheet_cellsOf_h60 hk4 n x1 x2 x3 x4 x5 x6 j7 j8 q h
theorem ti_fSheet_cellsOf_h4 {s : ev_M} : ∀ (n : Nat) (x1 : Int32) (x2 : Int32) (x3 : Int32) (j4 : Option ev_V) (j5 : Option ev_V) (j6 : Option ev_V) (j7 : Option ev_V) (j8 : Option ev_V) (q : Int32), fSheet_cellsOf_h4 s n x1 x2 x3 = some q → RR 210 4 [oR 52 0, oI x1, oI x2, oI x3, j4, j5, j6, j7, j8] [] s (cvP s q) := by
  intro n
  induction n with
  | zero => intro x1 x2 x3 j4 j5 j6 j7 j8 q h; cases h
  | succ n ih =>
    have hk4 : ∀ {x1 : Int32} {x2 : Int32} {x3 : Int32} {j4 : Option ev_V} {j5 : Option ev_V} {j6 : Option ev_V} {j7 : Option ev_V} {j8 : Option ev_V} {q : Int32}, fSheet_cellsOf_h4 s n x1 x2 x3 = some q → RR 210 4 [oR 52 0, oI x1, oI x2, oI x3, j4, j5, j6, j7, j8] [] s (cvP s q) := fun h => ih _ _ _ _ _ _ _ _ _ h
    intro x1 x2 x3 j4 j5 j6 j7 j8 q h
    refine rg_step 3 (G' := fun f => if x3 < (cI 5) then evT f 210 9 [oR 52 0, oI x1, oI x2, oI x3, nn, nn, nn, nn, nn] [] s else evT f 210 153 [oR 52 0, oI x1, oI x2, oI x3, nn, nn, nn, nn, nn] [] s) (fun _ => rfl) (rg_if h (fun h => ?_) fun h => ?_)
    · refine rg_step 6 (G' := fun f => if inb x1 200 = true then evT f 210 17 [oR 52 0, oI x1, oI x2, oI x3, nn, nn, nn, nn, nn] [vI (s.1 (56 + (ix (cI 1))) (ix x1))] s else none) (fun _ => rfl) (rg_gd h fun h => ?_)
      refine rg_step 7 (G' := fun f => if inb x1 200 = true then evT f 210 26 [oR 52 0, oI x1, oI x2, oI x3, nn, nn, nn, nn, nn] [vI (s.1 (56 + (ix (cI 3))) (ix x1)), vI x3, vI (s.1 (56 + (ix (cI 1))) (ix x1))] s else none) (fun _ => rfl) (rg_gd h fun h => ?_)
      refine rg_step 3 (G' := fun f => if (cI 5) = 0 then none else evT f 210 29 [oR 52 0, oI x1, oI x2, oI x3, nn, nn, nn, nn, nn] [vI ((x3 * (s.1 (56 + (ix (cI 3))) (ix x1))) / (cI 5)), vI (s.1 (56 + (ix (cI 1))) (ix x1))] s) (fun _ => rfl) (rg_dv h fun h => ?_)
      refine rg_step 2 (G' := fun f => evT f 210 32 [oR 52 0, oI x1, oI x2, oI x3, oI ((s.1 (56 + (ix (cI 1))) (ix x1)) + ((x3 * (s.1 (56 + (ix (cI 3))) (ix x1))) / (cI 5))), nn, nn, nn, nn] [] s) (fun _ => rfl) (rg_ltI (P := fun v5 => RG (fun f => evT f 210 32 [oR 52 0, oI x1, oI x2, oI x3, oI v5, nn, nn, nn, nn] [] s) (cvP s q)) h fun v5 h => ?_)
      refine rg_step 6 (G' := fun f => if inb x1 200 = true then evT f 210 40 [oR 52 0, oI x1, oI x2, oI x3, oI v5, nn, nn, nn, nn] [vI (s.1 (56 + (ix (cI 1))) (ix x1))] s else none) (fun _ => rfl) (rg_gd h fun h => ?_)
      refine rg_step 9 (G' := fun f => if inb x1 200 = true then evT f 210 51 [oR 52 0, oI x1, oI x2, oI x3, oI v5, nn, nn, nn, nn] [vI (s.1 (56 + (ix (cI 3))) (ix x1)), vI (x3 + (cI 1)), vI (s.1 (56 + (ix (cI 1))) (ix x1))] s else none) (fun _ => rfl) (rg_gd h fun h => ?_)
      refine rg_step 3 (G' := fun f => if (cI 5) = 0 then none else evT f 210 54 [oR 52 0, oI x1, oI x2, oI x3, oI v5, nn, nn, nn, nn] [vI (((x3 + (cI 1)) * (s.1 (56 + (ix (cI 3))) (ix x1))) / (cI 5)), vI (s.1 (56 + (ix (cI 1))) (ix x1))] s) (fun _ => rfl) (rg_dv h fun h => ?_)
      refine rg_step 2 (G' := fun f => evT f 210 57 [oR 52 0, oI x1, oI x2, oI x3, oI v5, oI ((s.1 (56 + (ix (cI 1))) (ix x1)) + (((x3 + (cI 1)) * (s.1 (56 + (ix (cI 3))) (ix x1))) / (cI 5))), nn, nn, nn] [] s) (fun _ => rfl) (rg_ltI (P := fun v6 => RG (fun f => evT f 210 57 [oR 52 0, oI x1, oI x2, oI x3, oI v5, oI v6, nn, nn, nn] [] s) (cvP s q)) h fun v6 h => ?_)
      exact rg_step 2 (G' := fun f => evT f 210 60 [oR 52 0, oI x1, oI x2, oI x3, oI v5, oI v6, oI (cI 0), nn, nn] [] s) (fun _ => rfl) ((t_fSheet_cellsOf_h60 hk4) h)
    · exact rg_end 2 (fun _ => rfl) (by cases h; rfl)
theorem t_fSheet_cellsOf_h4 {s : ev_M} {n : Nat} {x1 : Int32} {x2 : Int32} {x3 : Int32} {j4 : Option ev_V} {j5 : Option ev_V} {j6 : Option ev_V} {j7 : Option ev_V} {j8 : Option ev_V} {q : Int32} (h : fSheet_cellsOf_h4 s n x1 x2 x3 = some q) : RR 210 4 [oR 52 0, oI x1, oI x2, oI x3, j4, j5, j6, j7, j8] [] s (cvP s q) := ti_fSheet_cellsOf_h4 n x1 x2 x3 j4 j5 j6 j7 j8 q h
theorem T_fSheet_cellsOf {s : ev_M} {a1 : Int32} {q : Int32} (h : fSheet_cellsOf s a1 = some q) : RR 210 0 [oR 52 0, oI a1, nn, nn, nn, nn, nn, nn, nn] [] s (cvP s q) := by
  exact rg_step 4 (G' := fun f => evT f 210 4 [oR 52 0, oI a1, oI (cI 0), oI (cI 0), nn, nn, nn, nn, nn] [] s) (fun _ => rfl) ((t_fSheet_cellsOf_h4) h)
theorem T_fInt_bitCount {s : ev_M} {a0 : Int32} {q : Int32} (h : fInt_bitCount s a0 = some q) : RR 531 0 [oI a0] [] s (cvP s q) := by
  refine rg_step 8 (G' := fun f => evT f 531 10 [oI (a0 - ((iushr a0 (cI 1)) &&& (cI 1431655765)))] [] s) (fun _ => rfl) (rg_ltI (P := fun v1 => RG (fun f => evT f 531 10 [oI v1] [] s) (cvP s q)) h fun v1 h => ?_)
  refine rg_step 10 (G' := fun f => evT f 531 24 [oI ((v1 &&& (cI 858993459)) + ((iushr v1 (cI 2)) &&& (cI 858993459)))] [] s) (fun _ => rfl) (rg_ltI (P := fun v2 => RG (fun f => evT f 531 24 [oI v2] [] s) (cvP s q)) h fun v2 h => ?_)
  refine rg_step 8 (G' := fun f => evT f 531 34 [oI ((v2 + (iushr v2 (cI 4))) &&& (cI 252645135))] [] s) (fun _ => rfl) (rg_ltI (P := fun v3 => RG (fun f => evT f 531 34 [oI v3] [] s) (cvP s q)) h fun v3 h => ?_)
  refine rg_step 6 (G' := fun f => evT f 531 41 [oI (v3 + (iushr v3 (cI 8)))] [] s) (fun _ => rfl) (rg_ltI (P := fun v4 => RG (fun f => evT f 531 41 [oI v4] [] s) (cvP s q)) h fun v4 h => ?_)
  refine rg_step 6 (G' := fun f => evT f 531 48 [oI (v4 + (iushr v4 (cI 16)))] [] s) (fun _ => rfl) (rg_ltI (P := fun v5 => RG (fun f => evT f 531 48 [oI v5] [] s) (cvP s q)) h fun v5 h => ?_)
  exact rg_end 4 (fun _ => rfl) (by cases h; rfl)
theorem t_fSheet_nearest_b63 {s : ev_M} {k8 : Int32 → Int32 → Int32 → Int32 → Int32 → Int32 → Option Int32} (hk8 : ∀ {x0 : Int32} {x1 : Int32} {x2 : Int32} {x3 : Int32} {x4 : Int32} {x5 : Int32} {j6 : Option ev_V} {q : Int32}, k8 x0 x1 x2 x3 x4 x5 = some q → RR 212 8 [oI x0, oI x1, oI x2, oI x3, oI x4, oI x5, j6] [] s (cvP s q)) {x0 : Int32} {x1 : Int32} {x2 : Int32} {x3 : Int32} {x4 : Int32} {x5 : Int32} {j6 : Option ev_V} {q : Int32} (h : fSheet_nearest_b63 s k8 x0 x1 x2 x3 x4 x5 = some q) : RR 212 63 [oI x0, oI x1, oI x2, oI x3, oI x4, oI x5, j6] [] s (cvP s q) := by
  exact rg_step 2 (G' := fun f => evT f 212 8 [oI x0, oI x1, oI x2, oI x3, oI x4, oI (x5 + cI 1), nn] [] s) (fun _ => rfl) (hk8 h)
theorem ti_fSheet_nearest_h8 {s : ev_M} : ∀ (n : Nat) (x0 : Int32) (x1 : Int32) (x2 : Int32) (x3 : Int32) (x4 : Int32) (x5 : Int32) (j6 : Option ev_V) (q : Int32), fSheet_nearest_h8 s n x0 x1 x2 x3 x4 x5 = some q → RR 212 8 [oI x0, oI x1, oI x2, oI x3, oI x4, oI x5, j6] [] s (cvP s q) := by
  intro n
  induction n with
  | zero => intro x0 x1 x2 x3 x4 x5 j6 q h; cases h
  | succ n ih =>
    have hk8 : ∀ {x0 : Int32} {x1 : Int32} {x2 : Int32} {x3 : Int32} {x4 : Int32} {x5 : Int32} {j6 : Option ev_V} {q : Int32}, fSheet_nearest_h8 s n x0 x1 x2 x3 x4 x5 = some q → RR 212 8 [oI x0, oI x1, oI x2, oI x3, oI x4, oI x5, j6] [] s (cvP s q) := fun h => ih _ _ _ _ _ _ _ _ h
    intro x0 x1 x2 x3 x4 x5 j6 q h
    refine rg_step 3 (G' := fun f => if x5 < x2 then evT f 212 14 [oI x0, oI x1, oI x2, oI x3, oI x4, oI x5, nn] [] s else evT f 212 69 [oI x0, oI x1, oI x2, oI x3, oI x4, oI x5, nn] [] s) (fun _ => rfl) (rg_if h (fun h => ?_) fun h => ?_)
    · refine rg_step 4 (G' := fun f => if x5 < (cI 36) then evT f 212 23 [oI x0, oI x1, oI x2, oI x3, oI x4, oI x5, nn] [] s else evT f 212 69 [oI x0, oI x1, oI x2, oI x3, oI x4, oI x5, nn] [] s) (fun _ => rfl) (rg_if h (fun h => ?_) fun h => ?_)
      · refine rg_step 4 (G' := fun f => if inb x5 36 = true then evT f 212 30 [oI x0, oI x1, oI x2, oI x3, oI x4, oI x5, nn] [vI (s.1 1004 (ix x5)), vI x0] s else none) (fun _ => rfl) (rg_gd h fun h => ?_)
        refine rg_step 2 (G' := fun f => ev_after (evT f 531 0 [oI (x0 ^^^ (s.1 1004 (ix x5)))] [] s) (fun q => evT f 212 34 [oI x0, oI x1, oI x2, oI x3, oI x4, oI x5, nn] (q.2 ++ []) q.1)) (fun _ => rfl) (rg_bd1 h fun v1 hc h => rg_call (q := cvP s v1) (T_fInt_bitCount hc) ?_)
        refine rg_step 4 (G' := fun f => if v1 < x3 then evT f 212 42 [oI x0, oI x1, oI x2, oI x3, oI x4, oI x5, oI v1] [] s else evT f 212 54 [oI x0, oI x1, oI x2, oI x3, oI x4, oI x5, oI v1] [] s) (fun _ => rfl) (rg_if h (fun h => ?_) fun h => ?_)
        · refine rg_step 6 (G' := fun f => evT f 212 51 [oI x0, oI x1, oI x2, oI v1, oI (x5 - x1), oI x5, oI v1] [] s) (fun _ => rfl) (rg_ltI (P := fun v2 => RG (fun f => evT f 212 51 [oI x0, oI x1, oI x2, oI v1, oI v2, oI x5, oI v1] [] s) (cvP s q)) h fun v2 h => ?_)
          exact rg_step 1 (G' := fun f => evT f 212 63 [oI x0, oI x1, oI x2, oI v1, oI v2, oI x5, oI v1] [] s) (fun _ => rfl) ((t_fSheet_nearest_b63 hk8) h)
        · refine rg_step 3 (G' := fun f => if v1 = x3 then evT f 212 60 [oI x0, oI x1, oI x2, oI x3, oI x4, oI x5, oI v1] [] s else evT f 212 63 [oI x0, oI x1, oI x2, oI x3, oI x4, oI x5, oI v1] [] s) (fun _ => rfl) (rg_if h (fun h => ?_) fun h => ?_)
          · exact rg_step 2 (G' := fun f => evT f 212 63 [oI x0, oI x1, oI x2, oI x3, oI (cI (-1)), oI x5, oI v1] [] s) (fun _ => rfl) ((t_fSheet_nearest_b63 hk8) h)
          · exact (t_fSheet_nearest_b63 hk8) h
      · exact rg_end 2 (fun _ => rfl) (by cases h; rfl)
    · exact rg_end 2 (fun _ => rfl) (by cases h; rfl)
theorem t_fSheet_nearest_h8 {s : ev_M} {n : Nat} {x0 : Int32} {x1 : Int32} {x2 : Int32} {x3 : Int32} {x4 : Int32} {x5 : Int32} {j6 : Option ev_V} {q : Int32} (h : fSheet_nearest_h8 s n x0 x1 x2 x3 x4 x5 = some q) : RR 212 8 [oI x0, oI x1, oI x2, oI x3, oI x4, oI x5, j6] [] s (cvP s q) := ti_fSheet_nearest_h8 n x0 x1 x2 x3 x4 x5 j6 q h
theorem T_fSheet_nearest {s : ev_M} {a0 : Int32} {a1 : Int32} {a2 : Int32} {q : Int32} (h : fSheet_nearest s a0 a1 a2 = some q) : RR 212 0 [oI a0, oI a1, oI a2, nn, nn, nn, nn] [] s (cvP s q) := by
  exact rg_step 6 (G' := fun f => evT f 212 8 [oI a0, oI a1, oI a2, oI (cI 4), oI (cI (-1)), oI a1, nn] [] s) (fun _ => rfl) ((t_fSheet_nearest_h8) h)
theorem t_fSheet_keepBox_b182 {s : ev_M} {m0 : Nat} {y1 : Int32} {y2 : Int32} {j0 : Option ev_V} {j1 : Option ev_V} {j2 : Option ev_V} {j3 : Option ev_V} {j4 : Option ev_V} {j5 : Option ev_V} {q : ev_M} (h : fSheet_keepBox_b182 s m0 y1 y2 = some q) : RR 209 182 [j0, j1, j2, j3, j4, j5] [vI y2, vI y1, vR 68 m0] s (cvV q) := by
  refine rg_step 1 (G' := fun f => if inb y1 200 = true then evT f 209 183 [nn, nn, nn, nn, nn, nn] [] (wI s (68 + m0) (ix y1) y2) else none) (fun _ => rfl) (rg_gd h fun h => rg_ltM h fun s1 h => ?_)
  exact rg_end 1 (fun _ => rfl) (by cases h; rfl)
theorem t_fSheet_keepBox_b164 {s : ev_M} {x1 : Int32} {x4 : Int32} {j2 : Option ev_V} {j3 : Option ev_V} {j5 : Option ev_V} {q : ev_M} (h : fSheet_keepBox_b164 s x1 x4 = some q) : RR 209 164 [oR 52 0, oI x1, j2, j3, oI x4, j5] [] s (cvV q) := by
  refine rg_step 7 (G' := fun f => if x4 = 0 then evT f 209 181 [oR 52 0, oI x1, nn, nn, oI x4, nn] [vI x1, vR 68 (ix (cI 7))] s else evT f 209 177 [oR 52 0, oI x1, nn, nn, oI x4, nn] [vI x1, vR 68 (ix (cI 7))] s) (fun _ => rfl) (rg_if h (fun h => ?_) fun h => ?_)
  · exact rg_step 1 (G' := fun f => evT f 209 182 [oR 52 0, oI x1, nn, nn, oI x4, nn] [vI (cI 0), vI x1, vR 68 (ix (cI 7))] s) (fun _ => rfl) ((t_fSheet_keepBox_b182) h)
  · exact rg_step 2 (G' := fun f => evT f 209 182 [oR 52 0, oI x1, nn, nn, oI x4, nn] [vI (cI 1), vI x1, vR 68 (ix (cI 7))] s) (fun _ => rfl) ((t_fSheet_keepBox_b182) h)
theorem t_fSheet_keepBox_b162 {s : ev_M} {x1 : Int32} {y0 : Int32} {j2 : Option ev_V} {j3 : Option ev_V} {j4 : Option ev_V} {j5 : Option ev_V} {q : ev_M} (h : fSheet_keepBox_b162 s x1 y0 = some q) : RR 209 162 [oR 52 0, oI x1, j2, j3, j4, j5] [vI y0] s (cvV q) := by
  exact rg_step 1 (G' := fun f => evT f 209 164 [oR 52 0, oI x1, nn, nn, oI y0, nn] [] s) (fun _ => rfl) ((t_fSheet_keepBox_b164) h)
theorem ti_fSheet_keepBox_h3 : ∀ (n : Nat) (s : ev_M) (x1 : Int32) (x2 : Int32) (x3 : Int32) (x4 : Int32) (j5 : Option ev_V) (q : ev_M), fSheet_keepBox_h3 n s x1 x2 x3 x4 = some q → RR 209 3 [oR 52 0, oI x1, oI x2, oI x3, oI x4, j5] [] s (cvV q) := by
  intro n
  induction n with
  | zero => intro s x1 x2 x3 x4 j5 q h; cases h
  | succ n ih =>
    have hk3 : ∀ {s : ev_M} {x1 : Int32} {x2 : Int32} {x3 : Int32} {x4 : Int32} {j5 : Option ev_V} {q : ev_M}, fSheet_keepBox_h3 n s x1 x2 x3 x4 = some q → RR 209 3 [oR 52 0, oI x1, oI x2, oI x3, oI x4, j5] [] s (cvV q) := fun h => ih _ _ _ _ _ _ _ h
    intro s x1 x2 x3 x4 j5 q h
    refine rg_step 3 (G' := fun f => if x4 ≤ (cI 3) then evT f 209 9 [oR 52 0, oI x1, oI x2, oI x3, oI x4, nn] [] s else evT f 209 33 [oR 52 0, oI x1, oI x2, oI x3, oI x4, nn] [] s) (fun _ => rfl) (rg_if h (fun h => ?_) fun h => ?_)
    · refine rg_step 4 (G' := fun f => if inb x4 8 = true then evT f 209 16 [oR 52 0, oI x1, oI x2, oI x3, oI x4, nn] [vR 68 (ix x4)] s else none) (fun _ => rfl) (rg_gd h fun h => ?_)
      refine rg_step 5 (G' := fun f => if inb x4 4 = true then evT f 209 24 [oR 52 0, oI x1, oI x2, oI x3, oI x4, nn] [vR 56 (ix x4), vI x1, vR 68 (ix x4)] s else none) (fun _ => rfl) (rg_gd h fun h => ?_)
      refine rg_step 2 (G' := fun f => if inb x2 200 = true then evT f 209 26 [oR 52 0, oI x1, oI x2, oI x3, oI x4, nn] [vI (s.1 (56 + (ix x4)) (ix x2)), vI x1, vR 68 (ix x4)] s else none) (fun _ => rfl) (rg_gd h fun h => ?_)
      refine rg_step 1 (G' := fun f => if inb x1 200 = true then evT f 209 27 [oR 52 0, oI x1, oI x2, oI x3, oI x4, nn] [] (wI s (68 + (ix x4)) (ix x1) (s.1 (56 + (ix x4)) (ix x2))) else none) (fun _ => rfl) (rg_gd h fun h => rg_ltM h fun s2 h => ?_)
      exact rg_step 2 (G' := fun f => evT f 209 3 [oR 52 0, oI x1, oI x2, oI x3, oI (x4 + cI 1), nn] [] s2) (fun _ => rfl) (hk3 h)
    · refine rg_step 8 (G' := fun f => ev_after (evT f 210 0 [oR 52 0, oI x2, nn, nn, nn, nn, nn, nn, nn] [] s) (fun q => evT f 209 45 [oR 52 0, oI x1, oI x2, oI x3, oI x4, nn] (q.2 ++ [vI x1, vR 68 (ix (cI 4))]) q.1)) (fun _ => rfl) (rg_bd1 h fun v3 hc h => rg_call (q := cvP s v3) (T_fSheet_cellsOf hc) ?_)
      refine rg_step 1 (G' := fun f => if inb x1 200 = true then evT f 209 46 [oR 52 0, oI x1, oI x2, oI x3, oI x4, nn] [] (wI s (68 + (ix (cI 4))) (ix x1) v3) else none) (fun _ => rfl) (rg_gd h fun h => rg_ltM h fun s4 h => ?_)
      refine rg_step 11 (G' := fun f => if inb x1 200 = true then evT f 209 61 [oR 52 0, oI x1, oI x2, oI x3, oI x4, nn] [vI (s4.1 (68 + (ix (cI 4))) (ix x1)), vI x1, vR 68 (ix (cI 5))] s4 else none) (fun _ => rfl) (rg_gd h fun h => ?_)
      refine rg_step 3 (G' := fun f => ev_after (evT f 212 0 [oI (s4.1 (68 + (ix (cI 4))) (ix x1)), oI (cI 0), oI (cI 10), nn, nn, nn, nn] [] s4) (fun q => evT f 209 67 [oR 52 0, oI x1, oI x2, oI x3, oI x4, nn] (q.2 ++ [vI x1, vR 68 (ix (cI 5))]) q.1)) (fun _ => rfl) (rg_bd1 h fun v5 hc h => rg_call (q := cvP s4 v5) (T_fSheet_nearest hc) ?_)
      refine rg_step 1 (G' := fun f => if inb x1 200 = true then evT f 209 68 [oR 52 0, oI x1, oI x2, oI x3, oI x4, nn] [] (wI s4 (68 + (ix (cI 5))) (ix x1) v5) else none) (fun _ => rfl) (rg_gd h fun h => rg_ltM h fun s6 h => ?_)
      refine rg_step 11 (G' := fun f => if inb x1 200 = true then evT f 209 84 [oR 52 0, oI x1, oI x2, oI x3, oI x4, nn] [vI (s6.1 (68 + (ix (cI 4))) (ix x1)), vI x1, vR 68 (ix (cI 6))] s6 else none) (fun _ => rfl) (rg_gd h fun h => ?_)
      refine rg_step 4 (G' := fun f => ev_after (evT f 212 0 [oI (s6.1 (68 + (ix (cI 4))) (ix x1)), oI (cI 10), oI (cI 36), nn, nn, nn, nn] [] s6) (fun q => evT f 209 93 [oR 52 0, oI x1, oI x2, oI x3, oI x4, nn] (q.2 ++ [vI x1, vR 68 (ix (cI 6))]) q.1)) (fun _ => rfl) (rg_bd1 h fun v7 hc h => rg_call (q := cvP s6 v7) (T_fSheet_nearest hc) ?_)
      refine rg_step 1 (G' := fun f => if inb x1 200 = true then evT f 209 94 [oR 52 0, oI x1, oI x2, oI x3, oI x4, nn] [] (wI s6 (68 + (ix (cI 6))) (ix x1) v7) else none) (fun _ => rfl) (rg_gd h fun h => rg_ltM h fun s8 h => ?_)
      refine rg_step 4 (G' := fun f => if x3 = 0 then evT f 209 102 [oR 52 0, oI x1, oI x2, oI x3, oI x3, nn] [] s8 else evT f 209 164 [oR 52 0, oI x1, oI x2, oI x3, oI x3, nn] [] s8) (fun _ => rfl) (rg_if h (fun h => ?_) fun h => ?_)
      · refine rg_step 2 (G' := fun f => if x1 ≤ 0 then evT f 209 164 [oR 52 0, oI x1, oI x2, oI x3, oI x3, nn] [] s8 else evT f 209 106 [oR 52 0, oI x1, oI x2, oI x3, oI x3, nn] [] s8) (fun _ => rfl) (rg_if h (fun h => ?_) fun h => ?_)
        · exact (t_fSheet_keepBox_b164) h
        · refine rg_step 6 (G' := fun f => if inb x1 200 = true then evT f 209 114 [oR 52 0, oI x1, oI x2, oI x3, oI x3, nn] [vI (s8.1 (68 + (ix (cI 0))) (ix x1))] s8 else none) (fun _ => rfl) (rg_gd h fun h => ?_)
          refine rg_step 8 (G' := fun f => if inb (x1 - (cI 1)) 200 = true then evT f 209 124 [oR 52 0, oI x1, oI x2, oI x3, oI x3, nn] [vI (s8.1 (68 + (ix (cI 0))) (ix (x1 - (cI 1)))), vI (s8.1 (68 + (ix (cI 0))) (ix x1))] s8 else none) (fun _ => rfl) (rg_gd h fun h => ?_)
          refine rg_step 9 (G' := fun f => if inb (x1 - (cI 1)) 200 = true then evT f 209 135 [oR 52 0, oI x1, oI x2, oI x3, oI x3, nn] [vI (s8.1 (68 + (ix (cI 2))) (ix (x1 - (cI 1)))), vI ((s8.1 (68 + (ix (cI 0))) (ix x1)) - (s8.1 (68 + (ix (cI 0))) (ix (x1 - (cI 1)))))] s8 else none) (fun _ => rfl) (rg_gd h fun h => ?_)
          refine rg_step 2 (G' := fun f => evT f 209 138 [oR 52 0, oI x1, oI x2, oI x3, oI x3, oI (((s8.1 (68 + (ix (cI 0))) (ix x1)) - (s8.1 (68 + (ix (cI 0))) (ix (x1 - (cI 1))))) - (s8.1 (68 + (ix (cI 2))) (ix (x1 - (cI 1)))))] [] s8) (fun _ => rfl) (rg_ltI (P := fun v9 => RG (fun f => evT f 209 138 [oR 52 0, oI x1, oI x2, oI x3, oI x3, oI v9] [] s8) (cvV q)) h fun v9 h => ?_)
          refine rg_step 12 (G' := fun f => if inb (x1 - (cI 1)) 200 = true then evT f 209 153 [oR 52 0, oI x1, oI x2, oI x3, oI x3, oI v9] [vI (s8.1 (68 + (ix (cI 3))) (ix (x1 - (cI 1)))), vI (cI 2), vI ((cI 5) * v9)] s8 else none) (fun _ => rfl) (rg_gd h fun h => ?_)
          refine rg_step 2 (G' := fun f => if ((cI 5) * v9) < ((cI 2) * (s8.1 (68 + (ix (cI 3))) (ix (x1 - (cI 1))))) then evT f 209 161 [oR 52 0, oI x1, oI x2, oI x3, oI x3, oI v9] [] s8 else evT f 209 157 [oR 52 0, oI x1, oI x2, oI x3, oI x3, oI v9] [] s8) (fun _ => rfl) (rg_if h (fun h => ?_) fun h => ?_)
          · exact rg_step 1 (G' := fun f => evT f 209 162 [oR 52 0, oI x1, oI x2, oI x3, oI x3, oI v9] [vI (cI 0)] s8) (fun _ => rfl) ((t_fSheet_keepBox_b162) h)
          · exact rg_step 2 (G' := fun f => evT f 209 162 [oR 52 0, oI x1, oI x2, oI x3, oI x3, oI v9] [vI (cI 1)] s8) (fun _ => rfl) ((t_fSheet_keepBox_b162) h)
      · exact (t_fSheet_keepBox_b164) h
theorem t_fSheet_keepBox_h3 {n : Nat} {s : ev_M} {x1 : Int32} {x2 : Int32} {x3 : Int32} {x4 : Int32} {j5 : Option ev_V} {q : ev_M} (h : fSheet_keepBox_h3 n s x1 x2 x3 x4 = some q) : RR 209 3 [oR 52 0, oI x1, oI x2, oI x3, oI x4, j5] [] s (cvV q) := ti_fSheet_keepBox_h3 n s x1 x2 x3 x4 j5 q h
theorem T_fSheet_keepBox {s : ev_M} {a1 : Int32} {a2 : Int32} {a3 : Int32} {q : ev_M} (h : fSheet_keepBox s a1 a2 a3 = some q) : RR 209 0 [oR 52 0, oI a1, oI a2, oI a3, nn, nn] [] s (cvV q) := by
  exact rg_step 2 (G' := fun f => evT f 209 3 [oR 52 0, oI a1, oI a2, oI a3, oI (cI 0), nn] [] s) (fun _ => rfl) ((t_fSheet_keepBox_h3) h)
theorem T_fSheet_beginLine {s : ev_M} {a1 : Int32} {a2 : Int32} {q : ev_M} (h : fSheet_beginLine s a1 a2 = some q) : RR 208 0 [oR 52 0, oI a1, oI a2] [] s (cvV q) := by
  refine rg_step 8 (G' := fun f => if inb (s.1 52 13) 10 = true then evT f 208 12 [oR 52 0, oI a1, oI a2] [] (wI s (63 + (ix (cI 3))) (ix (s.1 52 13)) a1) else none) (fun _ => rfl) (rg_gd h fun h => rg_ltM h fun s1 h => ?_)
  refine rg_step 8 (G' := fun f => if inb (s1.1 52 13) 10 = true then evT f 208 24 [oR 52 0, oI a1, oI a2] [] (wI s1 (63 + (ix (cI 0))) (ix (s1.1 52 13)) (cI 0)) else none) (fun _ => rfl) (rg_gd h fun h => rg_ltM h fun s2 h => ?_)
  refine rg_step 12 (G' := fun f => if inb a2 200 = true then evT f 208 42 [oR 52 0, oI a1, oI a2] [vI (s2.1 (56 + (ix (cI 1))) (ix a2)), vI (s2.1 52 13), vR 63 (ix (cI 1))] s2 else none) (fun _ => rfl) (rg_gd h fun h => ?_)
  refine rg_step 1 (G' := fun f => if inb (s2.1 52 13) 10 = true then evT f 208 43 [oR 52 0, oI a1, oI a2] [] (wI s2 (63 + (ix (cI 1))) (ix (s2.1 52 13)) (s2.1 (56 + (ix (cI 1))) (ix a2))) else none) (fun _ => rfl) (rg_gd h fun h => rg_ltM h fun s3 h => ?_)
  refine rg_step 12 (G' := fun f => if inb a2 200 = true then evT f 208 61 [oR 52 0, oI a1, oI a2] [vI (s3.1 (56 + (ix (cI 0))) (ix a2)), vI (s3.1 52 13), vR 63 (ix (cI 2))] s3 else none) (fun _ => rfl) (rg_gd h fun h => ?_)
  refine rg_step 1 (G' := fun f => if inb (s3.1 52 13) 10 = true then evT f 208 62 [oR 52 0, oI a1, oI a2] [] (wI s3 (63 + (ix (cI 2))) (ix (s3.1 52 13)) (s3.1 (56 + (ix (cI 0))) (ix a2))) else none) (fun _ => rfl) (rg_gd h fun h => rg_ltM h fun s4 h => ?_)
  refine rg_step 6 (G' := fun f => evT f 208 72 [oR 52 0, oI a1, oI a2] [] (wI s4 52 13 ((s4.1 52 13) + (cI 1)))) (fun _ => rfl) (rg_ltM h fun s5 h => ?_)
  exact rg_end 1 (fun _ => rfl) (by cases h; rfl)
theorem t_fSheet_keepLines_b78 {k7 : ev_M → Int32 → Option ev_M} (hk7 : ∀ {s : ev_M} {x1 : Int32} {j2 : Option ev_V} {j3 : Option ev_V} {j4 : Option ev_V} {q : ev_M}, k7 s x1 = some q → RR 207 7 [oR 52 0, oI x1, j2, j3, j4] [] s (cvV q)) {s : ev_M} {x1 : Int32} {x2 : Int32} {x3 : Int32} {j4 : Option ev_V} {q : ev_M} (h : fSheet_keepLines_b78 k7 s x1 x2 x3 = some q) : RR 207 78 [oR 52 0, oI x1, oI x2, oI x3, j4] [] s (cvV q) := by
  refine rg_step 5 (G' := fun f => evT f 207 86 [oR 52 0, oI x1, oI x2, oI x3, oI ((s.1 52 13) - (cI 1))] [] s) (fun _ => rfl) (rg_ltI (P := fun v1 => RG (fun f => evT f 207 86 [oR 52 0, oI x1, oI x2, oI x3, oI v1] [] s) (cvV q)) h fun v1 h => ?_)
  refine rg_step 7 (G' := fun f => if inb v1 10 = true then evT f 207 96 [oR 52 0, oI x1, oI x2, oI x3, oI v1] [vI (s.1 (63 + (ix (cI 0))) (ix v1)), vI v1, vR 63 (ix (cI 0))] s else none) (fun _ => rfl) (rg_gd h fun h => ?_)
  refine rg_step 3 (G' := fun f => if inb v1 10 = true then evT f 207 99 [oR 52 0, oI x1, oI x2, oI x3, oI v1] [] (wI s (63 + (ix (cI 0))) (ix v1) ((s.1 (63 + (ix (cI 0))) (ix v1)) + (cI 1))) else none) (fun _ => rfl) (rg_gd h fun h => rg_ltM h fun s2 h => ?_)
  refine rg_step 11 (G' := fun f => if inb v1 10 = true then evT f 207 116 [oR 52 0, oI x1, oI x2, oI x3, oI v1] [vI (s2.1 (63 + (ix (cI 1))) (ix v1)), vI v1, vR 63 (ix (cI 1))] s2 else none) (fun _ => rfl) (rg_gd h fun h => ?_)
  refine rg_step 6 (G' := fun f => if inb x2 200 = true then evT f 207 124 [oR 52 0, oI x1, oI x2, oI x3, oI v1] [vI (s2.1 (56 + (ix (cI 1))) (ix x2)), vI (s2.1 (63 + (ix (cI 1))) (ix v1)), vI v1, vR 63 (ix (cI 1))] s2 else none) (fun _ => rfl) (rg_gd h fun h => ?_)
  refine rg_step 1 (G' := fun f => ev_after (evT f 535 0 [oI (s2.1 (63 + (ix (cI 1))) (ix v1)), oI (s2.1 (56 + (ix (cI 1))) (ix x2))] [] s2) (fun q => evT f 207 127 [oR 52 0, oI x1, oI x2, oI x3, oI v1] (q.2 ++ [vI v1, vR 63 (ix (cI 1))]) q.1)) (fun _ => rfl) (rg_bd1 h fun v3 hc h => rg_call (q := cvP s2 v3) (T_fMath_min hc) ?_)
  refine rg_step 1 (G' := fun f => if inb v1 10 = true then evT f 207 128 [oR 52 0, oI x1, oI x2, oI x3, oI v1] [] (wI s2 (63 + (ix (cI 1))) (ix v1) v3) else none) (fun _ => rfl) (rg_gd h fun h => rg_ltM h fun s4 h => ?_)
  refine rg_step 11 (G' := fun f => if inb v1 10 = true then evT f 207 145 [oR 52 0, oI x1, oI x2, oI x3, oI v1] [vI (s4.1 (63 + (ix (cI 2))) (ix v1)), vI v1, vR 63 (ix (cI 2))] s4 else none) (fun _ => rfl) (rg_gd h fun h => ?_)
  refine rg_step 6 (G' := fun f => if inb x2 200 = true then evT f 207 153 [oR 52 0, oI x1, oI x2, oI x3, oI v1] [vI (s4.1 (56 + (ix (cI 0))) (ix x2)), vI (s4.1 (63 + (ix (cI 2))) (ix v1)), vI v1, vR 63 (ix (cI 2))] s4 else none) (fun _ => rfl) (rg_gd h fun h => ?_)
  refine rg_step 1 (G' := fun f => ev_after (evT f 535 0 [oI (s4.1 (63 + (ix (cI 2))) (ix v1)), oI (s4.1 (56 + (ix (cI 0))) (ix x2))] [] s4) (fun q => evT f 207 156 [oR 52 0, oI x1, oI x2, oI x3, oI v1] (q.2 ++ [vI v1, vR 63 (ix (cI 2))]) q.1)) (fun _ => rfl) (rg_bd1 h fun v5 hc h => rg_call (q := cvP s4 v5) (T_fMath_min hc) ?_)
  refine rg_step 1 (G' := fun f => if inb v1 10 = true then evT f 207 157 [oR 52 0, oI x1, oI x2, oI x3, oI v1] [] (wI s4 (63 + (ix (cI 2))) (ix v1) v5) else none) (fun _ => rfl) (rg_gd h fun h => rg_ltM h fun s6 h => ?_)
  refine rg_step 5 (G' := fun f => ev_after (evT f 209 0 [oR 52 0, oI x1, oI x2, oI x3, nn, nn] [] s6) (fun q => evT f 207 164 [oR 52 0, oI x1, oI x2, oI x3, oI v1] (q.2 ++ []) q.1)) (fun _ => rfl) (rg_bd1 h fun s7 hc h => rg_call (q := cvV s7) (T_fSheet_keepBox hc) ?_)
  exact rg_step 2 (G' := fun f => evT f 207 7 [oR 52 0, oI (x1 + cI 1), oI x2, oI x3, oI v1] [] s7) (fun _ => rfl) (hk7 h)
theorem t_fSheet_keepLines_b68 {k7 : ev_M → Int32 → Option ev_M} (hk7 : ∀ {s : ev_M} {x1 : Int32} {j2 : Option ev_V} {j3 : Option ev_V} {j4 : Option ev_V} {q : ev_M}, k7 s x1 = some q → RR 207 7 [oR 52 0, oI x1, j2, j3, j4] [] s (cvV q)) {s : ev_M} {x1 : Int32} {x2 : Int32} {x3 : Int32} {j4 : Option ev_V} {q : ev_M} (h : fSheet_keepLines_b68 k7 s x1 x2 x3 = some q) : RR 207 68 [oR 52 0, oI x1, oI x2, oI x3, j4] [] s (cvV q) := by
  refine rg_step 2 (G' := fun f => if x3 = 0 then evT f 207 78 [oR 52 0, oI x1, oI x2, oI x3, nn] [] s else evT f 207 72 [oR 52 0, oI x1, oI x2, oI x3, nn] [] s) (fun _ => rfl) (rg_if h (fun h => ?_) fun h => ?_)
  · exact (t_fSheet_keepLines_b78 hk7) h
  · refine rg_step 4 (G' := fun f => ev_after (evT f 208 0 [oR 52 0, oI x1, oI x2] [] s) (fun q => evT f 207 78 [oR 52 0, oI x1, oI x2, oI x3, nn] (q.2 ++ []) q.1)) (fun _ => rfl) (rg_bd1 h fun s8 hc h => rg_call (q := cvV s8) (T_fSheet_beginLine hc) ?_)
    exact (t_fSheet_keepLines_b78 hk7) h
theorem t_fSheet_keepLines_b53 {k7 : ev_M → Int32 → Option ev_M} (hk7 : ∀ {s : ev_M} {x1 : Int32} {j2 : Option ev_V} {j3 : Option ev_V} {j4 : Option ev_V} {q : ev_M}, k7 s x1 = some q → RR 207 7 [oR 52 0, oI x1, j2, j3, j4] [] s (cvV q)) {s : ev_M} {x1 : Int32} {x2 : Int32} {y0 : Int32} {j3 : Option ev_V} {j4 : Option ev_V} {q : ev_M} (h : fSheet_keepLines_b53 k7 s x1 x2 y0 = some q) : RR 207 53 [oR 52 0, oI x1, oI x2, j3, j4] [vI y0] s (cvV q) := by
  refine rg_step 3 (G' := fun f => if y0 = 0 then evT f 207 68 [oR 52 0, oI x1, oI x2, oI y0, nn] [] s else evT f 207 58 [oR 52 0, oI x1, oI x2, oI y0, nn] [] s) (fun _ => rfl) (rg_if h (fun h => ?_) fun h => ?_)
  · exact (t_fSheet_keepLines_b68 hk7) h
  · refine rg_step 4 (G' := fun f => if (s.1 52 13) = (cI 10) then evT f 207 67 [oR 52 0, oI x1, oI x2, oI y0, nn] [] s else evT f 207 68 [oR 52 0, oI x1, oI x2, oI y0, nn] [] s) (fun _ => rfl) (rg_if h (fun h => ?_) fun h => ?_)
    · exact rg_end 1 (fun _ => rfl) (by cases h; rfl)
    · exact (t_fSheet_keepLines_b68 hk7) h
theorem t_fSheet_keepLines_b48 {k7 : ev_M → Int32 → Option ev_M} (hk7 : ∀ {s : ev_M} {x1 : Int32} {j2 : Option ev_V} {j3 : Option ev_V} {j4 : Option ev_V} {q : ev_M}, k7 s x1 = some q → RR 207 7 [oR 52 0, oI x1, j2, j3, j4] [] s (cvV q)) {s : ev_M} {x1 : Int32} {x2 : Int32} {j3 : Option ev_V} {j4 : Option ev_V} {q : ev_M} (h : fSheet_keepLines_b48 k7 s x1 x2 = some q) : RR 207 48 [oR 52 0, oI x1, oI x2, j3, j4] [] s (cvV q) := by
  exact rg_step 2 (G' := fun f => evT f 207 53 [oR 52 0, oI x1, oI x2, nn, nn] [vI (cI 1)] s) (fun _ => rfl) ((t_fSheet_keepLines_b53 hk7) h)
theorem ti_fSheet_keepLines_h7 : ∀ (n : Nat) (s : ev_M) (x1 : Int32) (j2 : Option ev_V) (j3 : Option ev_V) (j4 : Option ev_V) (q : ev_M), fSheet_keepLines_h7 n s x1 = some q → RR 207 7 [oR 52 0, oI x1, j2, j3, j4] [] s (cvV q) := by
  intro n
  induction n with
  | zero => intro s x1 j2 j3 j4 q h; cases h
  | succ n ih =>
    have hk7 : ∀ {s : ev_M} {x1 : Int32} {j2 : Option ev_V} {j3 : Option ev_V} {j4 : Option ev_V} {q : ev_M}, fSheet_keepLines_h7 n s x1 = some q → RR 207 7 [oR 52 0, oI x1, j2, j3, j4] [] s (cvV q) := fun h => ih _ _ _ _ _ _ h
    intro s x1 j2 j3 j4 q h
    refine rg_step 4 (G' := fun f => if x1 < (s.1 52 9) then evT f 207 15 [oR 52 0, oI x1, nn, nn, nn] [] s else evT f 207 170 [oR 52 0, oI x1, nn, nn, nn] [] s) (fun _ => rfl) (rg_if h (fun h => ?_) fun h => ?_)
    · refine rg_step 4 (G' := fun f => if inb x1 200 = true then evT f 207 21 [oR 52 0, oI x1, nn, nn, nn] [vI (s.1 61 (ix x1))] s else none) (fun _ => rfl) (rg_gd h fun h => ?_)
      refine rg_step 1 (G' := fun f => evT f 207 22 [oR 52 0, oI x1, oI (s.1 61 (ix x1)), nn, nn] [] s) (fun _ => rfl) (rg_ltI (P := fun v9 => RG (fun f => evT f 207 22 [oR 52 0, oI x1, oI v9, nn, nn] [] s) (cvV q)) h fun v9 h => ?_)
      refine rg_step 2 (G' := fun f => if x1 = 0 then evT f 207 48 [oR 52 0, oI x1, oI v9, nn, nn] [] s else evT f 207 26 [oR 52 0, oI x1, oI v9, nn, nn] [] s) (fun _ => rfl) (rg_if h (fun h => ?_) fun h => ?_)
      · exact (t_fSheet_keepLines_b48 hk7) h
      · refine rg_step 4 (G' := fun f => if inb v9 200 = true then evT f 207 32 [oR 52 0, oI x1, oI v9, nn, nn] [vI (s.1 60 (ix v9))] s else none) (fun _ => rfl) (rg_gd h fun h => ?_)
        refine rg_step 8 (G' := fun f => if inb (x1 - (cI 1)) 200 = true then evT f 207 44 [oR 52 0, oI x1, oI v9, nn, nn] [vI (s.1 61 (ix (x1 - (cI 1)))), vR 60 0, vI (s.1 60 (ix v9))] s else none) (fun _ => rfl) (rg_gd h fun h => ?_)
        refine rg_step 1 (G' := fun f => if inb (s.1 61 (ix (x1 - (cI 1)))) 200 = true then evT f 207 45 [oR 52 0, oI x1, oI v9, nn, nn] [vI (s.1 60 (ix (s.1 61 (ix (x1 - (cI 1)))))), vI (s.1 60 (ix v9))] s else none) (fun _ => rfl) (rg_gd h fun h => ?_)
        refine rg_step 1 (G' := fun f => if (s.1 60 (ix v9)) = (s.1 60 (ix (s.1 61 (ix (x1 - (cI 1)))))) then evT f 207 52 [oR 52 0, oI x1, oI v9, nn, nn] [] s else evT f 207 48 [oR 52 0, oI x1, oI v9, nn, nn] [] s) (fun _ => rfl) (rg_if h (fun h => ?_) fun h => ?_)
        · exact rg_step 1 (G' := fun f => evT f 207 53 [oR 52 0, oI x1, oI v9, nn, nn] [vI (cI 0)] s) (fun _ => rfl) ((t_fSheet_keepLines_b53 hk7) h)
        · exact (t_fSheet_keepLines_b48 hk7) h
    · exact rg_end 1 (fun _ => rfl) (by cases h; rfl)
theorem t_fSheet_keepLines_h7 {n : Nat} {s : ev_M} {x1 : Int32} {j2 : Option ev_V} {j3 : Option ev_V} {j4 : Option ev_V} {q : ev_M} (h : fSheet_keepLines_h7 n s x1 = some q) : RR 207 7 [oR 52 0, oI x1, j2, j3, j4] [] s (cvV q) := ti_fSheet_keepLines_h7 n s x1 j2 j3 j4 q h
theorem T_fSheet_keepLines {s : ev_M} {q : ev_M} (h : fSheet_keepLines s = some q) : RR 207 0 [oR 52 0, nn, nn, nn, nn] [] s (cvV q) := by
  refine rg_step 3 (G' := fun f => evT f 207 5 [oR 52 0, nn, nn, nn, nn] [] (wI s 52 13 (cI 0))) (fun _ => rfl) (rg_ltM h fun s10 h => ?_)
  exact rg_step 2 (G' := fun f => evT f 207 7 [oR 52 0, oI (cI 0), nn, nn, nn] [] s10) (fun _ => rfl) ((t_fSheet_keepLines_h7) h)
theorem T_fBook_isStreetOf {s : ev_M} {a1 : Int32} {a2 : Int32} {q : Int32} (h : fBook_isStreetOf s a1 a2 = some q) : RR 25 0 [oR 30 0, oI a1, oI a2] [] s (cvP s q) := by
  refine rg_step 6 (G' := fun f => if inb a1 30 = true then evT f 25 8 [oR 30 0, oI a1, oI a2] [vI (s.1 (33 + (ix (cI 3))) (ix a1))] s else none) (fun _ => rfl) (rg_gd h fun h => ?_)
  refine rg_step 2 (G' := fun f => if (s.1 (33 + (ix (cI 3))) (ix a1)) = a2 then evT f 25 12 [oR 30 0, oI a1, oI a2] [] s else evT f 25 16 [oR 30 0, oI a1, oI a2] [] s) (fun _ => rfl) (rg_if h (fun h => ?_) fun h => ?_)
  · exact rg_end 3 (fun _ => rfl) (by cases h; rfl)
  · exact rg_end 2 (fun _ => rfl) (by cases h; rfl)
theorem ti_fBook_spell_76_h50 : ∀ (n : Nat) (s : ev_M) (x3 : Int32) (x4 : Int64) (x6 : Int32) (j0 : Option ev_V) (j1 : Option ev_V) (j5 : Option ev_V) (q : ev_M × Int32), fBook_spell_76_h50 n s x3 x4 x6 = some q → RR 26 50 [j0, j1, oR 76 0, oI x3, oL x4, j5, oI x6] [] s (cvI q) := by
  intro n
  induction n with
  | zero => intro s x3 x4 x6 j0 j1 j5 q h; cases h
  | succ n ih =>
    have hk50 : ∀ {s : ev_M} {x3 : Int32} {x4 : Int64} {x6 : Int32} {j0 : Option ev_V} {j1 : Option ev_V} {j5 : Option ev_V} {q : ev_M × Int32}, fBook_spell_76_h50 n s x3 x4 x6 = some q → RR 26 50 [j0, j1, oR 76 0, oI x3, oL x4, j5, oI x6] [] s (cvI q) := fun h => ih _ _ _ _ _ _ _ _ h
    intro s x3 x4 x6 j0 j1 j5 q h
    refine rg_step 2 (G' := fun f => if x6 < 0 then evT f 26 82 [nn, nn, oR 76 0, oI x3, oL x4, nn, oI x6] [] s else evT f 26 55 [nn, nn, oR 76 0, oI x3, oL x4, nn, oI x6] [] s) (fun _ => rfl) (rg_if h (fun h => ?_) fun h => ?_)
    · exact rg_end 2 (fun _ => rfl) (by cases h; rfl)
    · refine rg_step 5 (G' := fun f => if (cL 27) = 0 then none else evT f 26 64 [nn, nn, oR 76 0, oI x3, oL x4, nn, oI x6] [vL (lrem x4 (cL 27)), vI x6, vR 76 0] s) (fun _ => rfl) (rg_dv h fun h => ?_)
      refine rg_step 4 (G' := fun f => if inb x6 10 = true then evT f 26 68 [nn, nn, oR 76 0, oI x3, oL x4, nn, oI x6] [] (wI s 76 (ix x6) ((Int64.toInt32 (lrem x4 (cL 27))) - (cI 1))) else none) (fun _ => rfl) (rg_gd h fun h => rg_ltM h fun s1 h => ?_)
      refine rg_step 3 (G' := fun f => if (cL 27) = 0 then none else evT f 26 74 [nn, nn, oR 76 0, oI x3, oL x4, nn, oI x6] [vL (x4 / (cL 27))] s1) (fun _ => rfl) (rg_dv h fun h => ?_)
      refine rg_step 1 (G' := fun f => evT f 26 76 [nn, nn, oR 76 0, oI x3, oL (x4 / (cL 27)), nn, oI x6] [] s1) (fun _ => rfl) (rg_ltL (P := fun v2 => RG (fun f => evT f 26 76 [nn, nn, oR 76 0, oI x3, oL v2, nn, oI x6] [] s1) (cvI q)) h fun v2 h => ?_)
      exact rg_step 2 (G' := fun f => evT f 26 50 [nn, nn, oR 76 0, oI x3, oL v2, nn, oI (x6 + cI (-1))] [] s1) (fun f => Eq.trans (b := evT (f + 1 + 1) 26 76 [nn, nn, oR 76 0, oI x3, oL v2, nn, oI x6] [] s1) rfl ((ev_inc (f := f + 1) (M := 26) (pc := 76) (i := 6) (n := 3) (c := (-1)) (r := 0) (dl := []) (L := [nn, nn, oR 76 0, oI x3, oL v2, nn, oI x6]) (L' := [nn, nn, oR 76 0, oI x3, oL v2, nn, oI (x6 + cI (-1))]) (s := s1) (y := x6) rfl rfl rfl).trans rfl)) (hk50 h)
theorem t_fBook_spell_76_h50 {n : Nat} {s : ev_M} {x3 : Int32} {x4 : Int64} {x6 : Int32} {j0 : Option ev_V} {j1 : Option ev_V} {j5 : Option ev_V} {q : ev_M × Int32} (h : fBook_spell_76_h50 n s x3 x4 x6 = some q) : RR 26 50 [j0, j1, oR 76 0, oI x3, oL x4, j5, oI x6] [] s (cvI q) := ti_fBook_spell_76_h50 n s x3 x4 x6 j0 j1 j5 q h
theorem t_fBook_spell_76_b37 {s : ev_M} {x1 : Int32} {x3 : Int32} {j4 : Option ev_V} {j5 : Option ev_V} {j6 : Option ev_V} {q : ev_M × Int32} (h : fBook_spell_76_b37 s x1 x3 = some q) : RR 26 37 [oR 30 0, oI x1, oR 76 0, oI x3, j4, j5, j6] [] s (cvI q) := by
  refine rg_step 4 (G' := fun f => if inb x1 30 = true then evT f 26 43 [oR 30 0, oI x1, oR 76 0, oI x3, nn, nn, nn] [vL (s.2.1 37 (ix x1))] s else none) (fun _ => rfl) (rg_gd h fun h => ?_)
  refine rg_step 1 (G' := fun f => evT f 26 45 [oR 30 0, oI x1, oR 76 0, oI x3, oL (s.2.1 37 (ix x1)), nn, nn] [] s) (fun _ => rfl) (rg_ltL (P := fun v3 => RG (fun f => evT f 26 45 [oR 30 0, oI x1, oR 76 0, oI x3, oL v3, nn, nn] [] s) (cvI q)) h fun v3 h => ?_)
  refine rg_step 4 (G' := fun f => evT f 26 50 [oR 30 0, oI x1, oR 76 0, oI x3, oL v3, nn, oI (x3 - (cI 1))] [] s) (fun _ => rfl) (rg_ltI (P := fun v4 => RG (fun f => evT f 26 50 [oR 30 0, oI x1, oR 76 0, oI x3, oL v3, nn, oI v4] [] s) (cvI q)) h fun v4 h => ?_)
  exact (t_fBook_spell_76_h50) h
theorem ti_fBook_spell_76_h10 : ∀ (n : Nat) (s : ev_M) (x1 : Int32) (x3 : Int32) (x4 : Int64) (j5 : Option ev_V) (j6 : Option ev_V) (q : ev_M × Int32), fBook_spell_76_h10 n s x1 x3 x4 = some q → RR 26 10 [oR 30 0, oI x1, oR 76 0, oI x3, oL x4, j5, j6] [] s (cvI q) := by
  intro n
  induction n with
  | zero => intro s x1 x3 x4 j5 j6 q h; cases h
  | succ n ih =>
    have hk10 : ∀ {s : ev_M} {x1 : Int32} {x3 : Int32} {x4 : Int64} {j5 : Option ev_V} {j6 : Option ev_V} {q : ev_M × Int32}, fBook_spell_76_h10 n s x1 x3 x4 = some q → RR 26 10 [oR 30 0, oI x1, oR 76 0, oI x3, oL x4, j5, j6] [] s (cvI q) := fun h => ih _ _ _ _ _ _ _ h
    intro s x1 x3 x4 j5 j6 q h
    refine rg_step 4 (G' := fun f => if (lg_cmp x4 (cL 0)) ≤ 0 then evT f 26 37 [oR 30 0, oI x1, oR 76 0, oI x3, oL x4, nn, nn] [] s else evT f 26 17 [oR 30 0, oI x1, oR 76 0, oI x3, oL x4, nn, nn] [] s) (fun _ => rfl) (rg_if h (fun h => ?_) fun h => ?_)
    · exact (t_fBook_spell_76_b37) h
    · refine rg_step 4 (G' := fun f => if x3 < (cI 10) then evT f 26 23 [oR 30 0, oI x1, oR 76 0, oI x3, oL x4, nn, nn] [] s else evT f 26 37 [oR 30 0, oI x1, oR 76 0, oI x3, oL x4, nn, nn] [] s) (fun _ => rfl) (rg_if h (fun h => ?_) fun h => ?_)
      · refine rg_step 4 (G' := fun f => if (cL 27) = 0 then none else evT f 26 32 [oR 30 0, oI x1, oR 76 0, oI (x3 + cI 1), oL x4, nn, nn] [vL (x4 / (cL 27))] s) (fun _ => rfl) (rg_dv h fun h => ?_)
        refine rg_step 1 (G' := fun f => evT f 26 34 [oR 30 0, oI x1, oR 76 0, oI (x3 + cI 1), oL (x4 / (cL 27)), nn, nn] [] s) (fun _ => rfl) (rg_ltL (P := fun v5 => RG (fun f => evT f 26 34 [oR 30 0, oI x1, oR 76 0, oI (x3 + cI 1), oL v5, nn, nn] [] s) (cvI q)) h fun v5 h => ?_)
        exact rg_step 1 (G' := fun f => evT f 26 10 [oR 30 0, oI x1, oR 76 0, oI (x3 + cI 1), oL v5, nn, nn] [] s) (fun _ => rfl) (hk10 h)
      · exact (t_fBook_spell_76_b37) h
theorem t_fBook_spell_76_h10 {n : Nat} {s : ev_M} {x1 : Int32} {x3 : Int32} {x4 : Int64} {j5 : Option ev_V} {j6 : Option ev_V} {q : ev_M × Int32} (h : fBook_spell_76_h10 n s x1 x3 x4 = some q) : RR 26 10 [oR 30 0, oI x1, oR 76 0, oI x3, oL x4, j5, j6] [] s (cvI q) := ti_fBook_spell_76_h10 n s x1 x3 x4 j5 j6 q h
theorem T_fBook_spell_76 {s : ev_M} {a1 : Int32} {q : ev_M × Int32} (h : fBook_spell_76 s a1 = some q) : RR 26 0 [oR 30 0, oI a1, oR 76 0, nn, nn, nn, nn] [] s (cvI q) := by
  refine rg_step 6 (G' := fun f => if inb a1 30 = true then evT f 26 8 [oR 30 0, oI a1, oR 76 0, oI (cI 0), nn, nn, nn] [vL (s.2.1 37 (ix a1))] s else none) (fun _ => rfl) (rg_gd h fun h => ?_)
  refine rg_step 1 (G' := fun f => evT f 26 10 [oR 30 0, oI a1, oR 76 0, oI (cI 0), oL (s.2.1 37 (ix a1)), nn, nn] [] s) (fun _ => rfl) (rg_ltL (P := fun v6 => RG (fun f => evT f 26 10 [oR 30 0, oI a1, oR 76 0, oI (cI 0), oL v6, nn, nn] [] s) (cvI q)) h fun v6 h => ?_)
  exact (t_fBook_spell_76_h10) h
theorem t_fSheet_changesTo_b105 {k42 : ev_M → Int32 → Int32 → Int32 → Option (ev_M × Int32)} {k69 : ev_M → Int32 → Int32 → Int32 → Int32 → Int32 → Option (ev_M × Int32)} (hk42 : ∀ {s : ev_M} {x3 : Int32} {x4 : Int32} {x5 : Int32} {j1 : Option ev_V} {j2 : Option ev_V} {j6 : Option ev_V} {j7 : Option ev_V} {j8 : Option ev_V} {q : ev_M × Int32}, k42 s x3 x4 x5 = some q → RR 218 42 [oR 52 0, j1, j2, oI x3, oI x4, oI x5, j6, j7, j8] [] s (cvI q)) (hk69 : ∀ {s : ev_M} {x3 : Int32} {x4 : Int32} {x5 : Int32} {x6 : Int32} {x7 : Int32} {j1 : Option ev_V} {j2 : Option ev_V} {j8 : Option ev_V} {q : ev_M × Int32}, k69 s x3 x4 x5 x6 x7 = some q → RR 218 69 [oR 52 0, j1, j2, oI x3, oI x4, oI x5, oI x6, oI x7, j8] [] s (cvI q)) {s : ev_M} {x3 : Int32} {x4 : Int32} {x5 : Int32} {x7 : Int32} {y0 : Int32} {y1 : Int32} {j1 : Option ev_V} {j2 : Option ev_V} {j6 : Option ev_V} {j8 : Option ev_V} {q : ev_M × Int32} (h : fSheet_changesTo_b105 k42 k69 s x3 x4 x5 x7 y0 y1 = some q) : RR 218 105 [oR 52 0, j1, j2, oI x3, oI x4, oI x5, j6, oI x7, j8] [vI y1, vI y0] s (cvI q) := by
  refine rg_step 2 (G' := fun f => evT f 218 108 [oR 52 0, nn, nn, oI x3, oI x4, oI x5, nn, oI x7, oI (y0 + y1)] [] s) (fun _ => rfl) (rg_ltI (P := fun v1 => RG (fun f => evT f 218 108 [oR 52 0, nn, nn, oI x3, oI x4, oI x5, nn, oI x7, oI v1] [] s) (cvI q)) h fun v1 h => ?_)
  refine rg_step 4 (G' := fun f => if inb x7 11 = true then evT f 218 115 [oR 52 0, nn, nn, oI x3, oI x4, oI x5, nn, oI x7, oI v1] [vI (s.1 77 (ix x7))] s else none) (fun _ => rfl) (rg_gd h fun h => ?_)
  refine rg_step 1 (G' := fun f => evT f 218 117 [oR 52 0, nn, nn, oI x3, oI x4, oI x5, oI (s.1 77 (ix x7)), oI x7, oI v1] [] s) (fun _ => rfl) (rg_ltI (P := fun v2 => RG (fun f => evT f 218 117 [oR 52 0, nn, nn, oI x3, oI x4, oI x5, oI v2, oI x7, oI v1] [] s) (cvI q)) h fun v2 h => ?_)
  refine rg_step 9 (G' := fun f => if inb x7 11 = true then evT f 218 133 [oR 52 0, nn, nn, oI x3, oI x4, oI x5, oI v2, oI x7, oI v1] [vI (s.1 77 (ix x7)), vI (cI 1), vI v1, vI x7, vR 77 0] s else none) (fun _ => rfl) (rg_gd h fun h => ?_)
  refine rg_step 6 (G' := fun f => if inb (x7 - (cI 1)) 11 = true then evT f 218 142 [oR 52 0, nn, nn, oI x3, oI x4, oI x5, oI v2, oI x7, oI v1] [vI (s.1 77 (ix (x7 - (cI 1)))), vI (s.1 77 (ix x7)), vI (cI 1), vI v1, vI x7, vR 77 0] s else none) (fun _ => rfl) (rg_gd h fun h => ?_)
  refine rg_step 1 (G' := fun f => ev_after (evT f 535 0 [oI (s.1 77 (ix x7)), oI (s.1 77 (ix (x7 - (cI 1))))] [] s) (fun q => evT f 218 145 [oR 52 0, nn, nn, oI x3, oI x4, oI x5, oI v2, oI x7, oI v1] (q.2 ++ [vI (cI 1), vI v1, vI x7, vR 77 0]) q.1)) (fun _ => rfl) (rg_bd1 h fun v3 hc h => rg_call (q := cvP s v3) (T_fMath_min hc) ?_)
  refine rg_step 2 (G' := fun f => ev_after (evT f 535 0 [oI v1, oI ((cI 1) + v3)] [] s) (fun q => evT f 218 149 [oR 52 0, nn, nn, oI x3, oI x4, oI x5, oI v2, oI x7, oI v1] (q.2 ++ [vI x7, vR 77 0]) q.1)) (fun _ => rfl) (rg_bd1 h fun v4 hc h => rg_call (q := cvP s v4) (T_fMath_min hc) ?_)
  refine rg_step 1 (G' := fun f => if inb x7 11 = true then evT f 218 150 [oR 52 0, nn, nn, oI x3, oI x4, oI x5, oI v2, oI x7, oI v1] [] (wI s 77 (ix x7) v4) else none) (fun _ => rfl) (rg_gd h fun h => rg_ltM h fun s5 h => ?_)
  exact rg_step 2 (G' := fun f => evT f 218 69 [oR 52 0, nn, nn, oI x3, oI x4, oI x5, oI v2, oI (x7 + cI 1), oI v1] [] s5) (fun _ => rfl) (hk69 h)
theorem ti_fSheet_changesTo_h69 {k42 : ev_M → Int32 → Int32 → Int32 → Option (ev_M × Int32)} (hk42 : ∀ {s : ev_M} {x3 : Int32} {x4 : Int32} {x5 : Int32} {j1 : Option ev_V} {j2 : Option ev_V} {j6 : Option ev_V} {j7 : Option ev_V} {j8 : Option ev_V} {q : ev_M × Int32}, k42 s x3 x4 x5 = some q → RR 218 42 [oR 52 0, j1, j2, oI x3, oI x4, oI x5, j6, j7, j8] [] s (cvI q)) : ∀ (n : Nat) (s : ev_M) (x3 : Int32) (x4 : Int32) (x5 : Int32) (x6 : Int32) (x7 : Int32) (j1 : Option ev_V) (j2 : Option ev_V) (j8 : Option ev_V) (q : ev_M × Int32), fSheet_changesTo_h69 k42 n s x3 x4 x5 x6 x7 = some q → RR 218 69 [oR 52 0, j1, j2, oI x3, oI x4, oI x5, oI x6, oI x7, j8] [] s (cvI q) := by
  intro n
  induction n with
  | zero => intro s x3 x4 x5 x6 x7 j1 j2 j8 q h; cases h
  | succ n ih =>
    have hk69 : ∀ {s : ev_M} {x3 : Int32} {x4 : Int32} {x5 : Int32} {x6 : Int32} {x7 : Int32} {j1 : Option ev_V} {j2 : Option ev_V} {j8 : Option ev_V} {q : ev_M × Int32}, fSheet_changesTo_h69 k42 n s x3 x4 x5 x6 x7 = some q → RR 218 69 [oR 52 0, j1, j2, oI x3, oI x4, oI x5, oI x6, oI x7, j8] [] s (cvI q) := fun h => ih _ _ _ _ _ _ _ _ _ _ h
    intro s x3 x4 x5 x6 x7 j1 j2 j8 q h
    refine rg_step 3 (G' := fun f => if x7 ≤ x4 then evT f 218 76 [oR 52 0, nn, nn, oI x3, oI x4, oI x5, oI x6, oI x7, nn] [] s else evT f 218 156 [oR 52 0, nn, nn, oI x3, oI x4, oI x5, oI x6, oI x7, nn] [] s) (fun _ => rfl) (rg_if h (fun h => ?_) fun h => ?_)
    · refine rg_step 7 (G' := fun f => if inb x5 200 = true then evT f 218 88 [oR 52 0, nn, nn, oI x3, oI x4, oI x5, oI x6, oI x7, nn] [vI (s.1 (68 + (ix (cI 6))) (ix x5)), vI x6] s else none) (fun _ => rfl) (rg_gd h fun h => ?_)
      refine rg_step 6 (G' := fun f => if inb (x7 - (cI 1)) 10 = true then evT f 218 97 [oR 52 0, nn, nn, oI x3, oI x4, oI x5, oI x6, oI x7, nn] [vI (s.1 76 (ix (x7 - (cI 1)))), vI (s.1 (68 + (ix (cI 6))) (ix x5)), vI x6] s else none) (fun _ => rfl) (rg_gd h fun h => ?_)
      refine rg_step 1 (G' := fun f => if (s.1 (68 + (ix (cI 6))) (ix x5)) = (s.1 76 (ix (x7 - (cI 1)))) then evT f 218 100 [oR 52 0, nn, nn, oI x3, oI x4, oI x5, oI x6, oI x7, nn] [vI x6] s else evT f 218 104 [oR 52 0, nn, nn, oI x3, oI x4, oI x5, oI x6, oI x7, nn] [vI x6] s) (fun _ => rfl) (rg_if h (fun h => ?_) fun h => ?_)
      · exact rg_step 2 (G' := fun f => evT f 218 105 [oR 52 0, nn, nn, oI x3, oI x4, oI x5, oI x6, oI x7, nn] [vI (cI 0), vI x6] s) (fun _ => rfl) ((t_fSheet_changesTo_b105 hk42 hk69) h)
      · exact rg_step 1 (G' := fun f => evT f 218 105 [oR 52 0, nn, nn, oI x3, oI x4, oI x5, oI x6, oI x7, nn] [vI (cI 1), vI x6] s) (fun _ => rfl) ((t_fSheet_changesTo_b105 hk42 hk69) h)
    · exact rg_step 2 (G' := fun f => evT f 218 42 [oR 52 0, nn, nn, oI x3, oI x4, oI (x5 + cI 1), oI x6, oI x7, nn] [] s) (fun _ => rfl) (hk42 h)
theorem t_fSheet_changesTo_h69 {k42 : ev_M → Int32 → Int32 → Int32 → Option (ev_M × Int32)} (hk42 : ∀ {s : ev_M} {x3 : Int32} {x4 : Int32} {x5 : Int32} {j1 : Option ev_V} {j2 : Option ev_V} {j6 : Option ev_V} {j7 : Option ev_V} {j8 : Option ev_V} {q : ev_M × Int32}, k42 s x3 x4 x5 = some q → RR 218 42 [oR 52 0, j1, j2, oI x3, oI x4, oI x5, j6, j7, j8] [] s (cvI q)) {n : Nat} {s : ev_M} {x3 : Int32} {x4 : Int32} {x5 : Int32} {x6 : Int32} {x7 : Int32} {j1 : Option ev_V} {j2 : Option ev_V} {j8 : Option ev_V} {q : ev_M × Int32} (h : fSheet_changesTo_h69 k42 n s x3 x4 x5 x6 x7 = some q) : RR 218 69 [oR 52 0, j1, j2, oI x3, oI x4, oI x5, oI x6, oI x7, j8] [] s (cvI q) := ti_fSheet_changesTo_h69 hk42 n s x3 x4 x5 x6 x7 j1 j2 j8 q h
theorem ti_fSheet_changesTo_h42 : ∀ (n : Nat) (s : ev_M) (x3 : Int32) (x4 : Int32) (x5 : Int32) (j1 : Option ev_V) (j2 : Option ev_V) (j6 : Option ev_V) (j7 : Option ev_V) (j8 : Option ev_V) (q : ev_M × Int32), fSheet_changesTo_h42 n s x3 x4 x5 = some q → RR 218 42 [oR 52 0, j1, j2, oI x3, oI x4, oI x5, j6, j7, j8] [] s (cvI q) := by
  intro n
  induction n with
  | zero => intro s x3 x4 x5 j1 j2 j6 j7 j8 q h; cases h
  | succ n ih =>
    have hk42 : ∀ {s : ev_M} {x3 : Int32} {x4 : Int32} {x5 : Int32} {j1 : Option ev_V} {j2 : Option ev_V} {j6 : Option ev_V} {j7 : Option ev_V} {j8 : Option ev_V} {q : ev_M × Int32}, fSheet_changesTo_h42 n s x3 x4 x5 = some q → RR 218 42 [oR 52 0, j1, j2, oI x3, oI x4, oI x5, j6, j7, j8] [] s (cvI q) := fun h => ih _ _ _ _ _ _ _ _ _ _ h
    intro s x3 x4 x5 j1 j2 j6 j7 j8 q h
    refine rg_step 3 (G' := fun f => if x5 < x3 then evT f 218 48 [oR 52 0, nn, nn, oI x3, oI x4, oI x5, nn, nn, nn] [] s else evT f 218 162 [oR 52 0, nn, nn, oI x3, oI x4, oI x5, nn, nn, nn] [] s) (fun _ => rfl) (rg_if h (fun h => ?_) fun h => ?_)
    · refine rg_step 5 (G' := fun f => evT f 218 56 [oR 52 0, nn, nn, oI x3, oI x4, oI x5, oI (s.1 77 (ix (cI 0))), nn, nn] [] s) (fun _ => rfl) (rg_ltI (P := fun v6 => RG (fun f => evT f 218 56 [oR 52 0, nn, nn, oI x3, oI x4, oI x5, oI v6, nn, nn] [] s) (cvI q)) h fun v6 h => ?_)
      refine rg_step 8 (G' := fun f => evT f 218 66 [oR 52 0, nn, nn, oI x3, oI x4, oI x5, oI v6, nn, nn] [] (wI s 77 (ix (cI 0)) ((s.1 77 (ix (cI 0))) + (cI 1)))) (fun _ => rfl) (rg_ltM h fun s7 h => ?_)
      exact rg_step 2 (G' := fun f => evT f 218 69 [oR 52 0, nn, nn, oI x3, oI x4, oI x5, oI v6, oI (cI 1), nn] [] s7) (fun _ => rfl) ((t_fSheet_changesTo_h69 hk42) h)
    · refine rg_step 4 (G' := fun f => if inb x4 11 = true then evT f 218 169 [oR 52 0, nn, nn, oI x3, oI x4, oI x5, nn, nn, nn] [vI (s.1 77 (ix x4))] s else none) (fun _ => rfl) (rg_gd h fun h => ?_)
      exact rg_end 1 (fun _ => rfl) (by cases h; rfl)
theorem t_fSheet_changesTo_h42 {n : Nat} {s : ev_M} {x3 : Int32} {x4 : Int32} {x5 : Int32} {j1 : Option ev_V} {j2 : Option ev_V} {j6 : Option ev_V} {j7 : Option ev_V} {j8 : Option ev_V} {q : ev_M × Int32} (h : fSheet_changesTo_h42 n s x3 x4 x5 = some q) : RR 218 42 [oR 52 0, j1, j2, oI x3, oI x4, oI x5, j6, j7, j8] [] s (cvI q) := ti_fSheet_changesTo_h42 n s x3 x4 x5 j1 j2 j6 j7 j8 q h
theorem ti_fSheet_changesTo_h17 : ∀ (n : Nat) (s : ev_M) (x2 : Int32) (x3 : Int32) (x4 : Int32) (x5 : Int32) (j1 : Option ev_V) (j6 : Option ev_V) (j7 : Option ev_V) (j8 : Option ev_V) (q : ev_M × Int32), fSheet_changesTo_h17 n s x2 x3 x4 x5 = some q → RR 218 17 [oR 52 0, j1, oI x2, oI x3, oI x4, oI x5, j6, j7, j8] [] s (cvI q) := by
  intro n
  induction n with
  | zero => intro s x2 x3 x4 x5 j1 j6 j7 j8 q h; cases h
  | succ n ih =>
    have hk17 : ∀ {s : ev_M} {x2 : Int32} {x3 : Int32} {x4 : Int32} {x5 : Int32} {j1 : Option ev_V} {j6 : Option ev_V} {j7 : Option ev_V} {j8 : Option ev_V} {q : ev_M × Int32}, fSheet_changesTo_h17 n s x2 x3 x4 x5 = some q → RR 218 17 [oR 52 0, j1, oI x2, oI x3, oI x4, oI x5, j6, j7, j8] [] s (cvI q) := fun h => ih _ _ _ _ _ _ _ _ _ _ h
    intro s x2 x3 x4 x5 j1 j6 j7 j8 q h
    refine rg_step 3 (G' := fun f => if x5 ≤ x4 then evT f 218 24 [oR 52 0, nn, oI x2, oI x3, oI x4, oI x5, nn, nn, nn] [] s else evT f 218 39 [oR 52 0, nn, oI x2, oI x3, oI x4, oI x5, nn, nn, nn] [] s) (fun _ => rfl) (rg_if h (fun h => ?_) fun h => ?_)
    · refine rg_step 5 (G' := fun f => if inb x5 11 = true then evT f 218 33 [oR 52 0, nn, oI x2, oI x3, oI x4, oI x5, nn, nn, nn] [] (wI s 77 (ix x5) x5) else none) (fun _ => rfl) (rg_gd h fun h => rg_ltM h fun s8 h => ?_)
      exact rg_step 2 (G' := fun f => evT f 218 17 [oR 52 0, nn, oI x2, oI x3, oI x4, oI (x5 + cI 1), nn, nn, nn] [] s8) (fun _ => rfl) (hk17 h)
    · exact rg_step 2 (G' := fun f => evT f 218 42 [oR 52 0, nn, oI x2, oI x3, oI x4, oI x2, nn, nn, nn] [] s) (fun _ => rfl) ((t_fSheet_changesTo_h42) h)
theorem t_fSheet_changesTo_h17 {n : Nat} {s : ev_M} {x2 : Int32} {x3 : Int32} {x4 : Int32} {x5 : Int32} {j1 : Option ev_V} {j6 : Option ev_V} {j7 : Option ev_V} {j8 : Option ev_V} {q : ev_M × Int32} (h : fSheet_changesTo_h17 n s x2 x3 x4 x5 = some q) : RR 218 17 [oR 52 0, j1, oI x2, oI x3, oI x4, oI x5, j6, j7, j8] [] s (cvI q) := ti_fSheet_changesTo_h17 n s x2 x3 x4 x5 j1 j6 j7 j8 q h
theorem T_fSheet_changesTo {s : ev_M} {a1 : Int32} {a2 : Int32} {a3 : Int32} {q : ev_M × Int32} (h : fSheet_changesTo s a1 a2 a3 = some q) : RR 218 0 [oR 52 0, oI a1, oI a2, oI a3, nn, nn, nn, nn, nn] [] s (cvI q) := by
  refine rg_step 6 (G' := fun f => ev_after (evT f 26 0 [oR 30 0, oI a1, oR 76 0, nn, nn, nn, nn] [] s) (fun q => evT f 218 12 [oR 52 0, oI a1, oI a2, oI a3, nn, nn, nn, nn, nn] (q.2 ++ []) q.1)) (fun _ => rfl) (rg_bd2 h fun s9 v10 hc h => rg_call (q := cvI (s9, v10)) (T_fBook_spell_76 hc) ?_)
  exact rg_step 3 (G' := fun f => evT f 218 17 [oR 52 0, oI a1, oI a2, oI a3, oI v10, oI (cI 0), nn, nn, nn] [] s9) (fun _ => rfl) ((t_fSheet_changesTo_h17) h)
theorem t_fSheet_streetLike_b75 {k9 : ev_M → Int32 → Int32 → Int32 → Int32 → Int32 → Int32 → Option (ev_M × Int32)} (hk9 : ∀ {s : ev_M} {x1 : Int32} {x2 : Int32} {x3 : Int32} {x4 : Int32} {x5 : Int32} {x6 : Int32} {j7 : Option ev_V} {q : ev_M × Int32}, k9 s x1 x2 x3 x4 x5 x6 = some q → RR 217 9 [oR 52 0, oI x1, oI x2, oI x3, oI x4, oI x5, oI x6, j7] [] s (cvI q)) {s : ev_M} {x1 : Int32} {x2 : Int32} {x3 : Int32} {x4 : Int32} {x5 : Int32} {x6 : Int32} {j7 : Option ev_V} {q : ev_M × Int32} (h : fSheet_streetLike_b75 k9 s x1 x2 x3 x4 x5 x6 = some q) : RR 217 75 [oR 52 0, oI x1, oI x2, oI x3, oI x4, oI x5, oI x6, j7] [] s (cvI q) := by
  exact rg_step 2 (G' := fun f => evT f 217 9 [oR 52 0, oI x1, oI x2, oI x3, oI x4, oI x5, oI (x6 + cI 1), nn] [] s) (fun _ => rfl) (hk9 h)
theorem ti_fSheet_streetLike_h9 : ∀ (n : Nat) (s : ev_M) (x1 : Int32) (x2 : Int32) (x3 : Int32) (x4 : Int32) (x5 : Int32) (x6 : Int32) (j7 : Option ev_V) (q : ev_M × Int32), fSheet_streetLike_h9 n s x1 x2 x3 x4 x5 x6 = some q → RR 217 9 [oR 52 0, oI x1, oI x2, oI x3, oI x4, oI x5, oI x6, j7] [] s (cvI q) := by
  intro n
  induction n with
  | zero => intro s x1 x2 x3 x4 x5 x6 j7 q h; cases h
  | succ n ih =>
    have hk9 : ∀ {s : ev_M} {x1 : Int32} {x2 : Int32} {x3 : Int32} {x4 : Int32} {x5 : Int32} {x6 : Int32} {j7 : Option ev_V} {q : ev_M × Int32}, fSheet_streetLike_h9 n s x1 x2 x3 x4 x5 x6 = some q → RR 217 9 [oR 52 0, oI x1, oI x2, oI x3, oI x4, oI x5, oI x6, j7] [] s (cvI q) := fun h => ih _ _ _ _ _ _ _ _ _ h
    intro s x1 x2 x3 x4 x5 x6 j7 q h
    refine rg_step 5 (G' := fun f => if x6 < (s.1 30 4) then evT f 217 21 [oR 52 0, oI x1, oI x2, oI x3, oI x4, oI x5, oI x6, nn] [] s else evT f 217 81 [oR 52 0, oI x1, oI x2, oI x3, oI x4, oI x5, oI x6, nn] [] s) (fun _ => rfl) (rg_if h (fun h => ?_) fun h => ?_)
    · refine rg_step 5 (G' := fun f => ev_after (evT f 25 0 [oR 30 0, oI x6, oI x1] [] s) (fun q => evT f 217 31 [oR 52 0, oI x1, oI x2, oI x3, oI x4, oI x5, oI x6, nn] (q.2 ++ []) q.1)) (fun _ => rfl) (rg_bd1 h fun v1 hc h => rg_call (q := cvP s v1) (T_fBook_isStreetOf hc) ?_)
      refine rg_step 1 (G' := fun f => if v1 = 0 then evT f 217 34 [oR 52 0, oI x1, oI x2, oI x3, oI x4, oI x5, oI x6, nn] [] s else evT f 217 37 [oR 52 0, oI x1, oI x2, oI x3, oI x4, oI x5, oI x6, nn] [] s) (fun _ => rfl) (rg_if h (fun h => ?_) fun h => ?_)
      · exact rg_step 1 (G' := fun f => evT f 217 75 [oR 52 0, oI x1, oI x2, oI x3, oI x4, oI x5, oI x6, nn] [] s) (fun _ => rfl) ((t_fSheet_streetLike_b75 hk9) h)
      · refine rg_step 5 (G' := fun f => ev_after (evT f 218 0 [oR 52 0, oI x6, oI x2, oI x3, nn, nn, nn, nn, nn] [] s) (fun q => evT f 217 45 [oR 52 0, oI x1, oI x2, oI x3, oI x4, oI x5, oI x6, nn] (q.2 ++ []) q.1)) (fun _ => rfl) (rg_bd2 h fun s2 v3 hc h => rg_call (q := cvI (s2, v3)) (T_fSheet_changesTo hc) ?_)
        refine rg_step 4 (G' := fun f => if v3 < x4 then evT f 217 54 [oR 52 0, oI x1, oI x2, oI x3, oI x4, oI x5, oI x6, oI v3] [] s2 else evT f 217 65 [oR 52 0, oI x1, oI x2, oI x3, oI x4, oI x5, oI x6, oI v3] [] s2) (fun _ => rfl) (rg_if h (fun h => ?_) fun h => ?_)
        · exact rg_step 5 (G' := fun f => evT f 217 75 [oR 52 0, oI x1, oI x2, oI x3, oI v3, oI x6, oI x6, oI v3] [] s2) (fun _ => rfl) ((t_fSheet_streetLike_b75 hk9) h)
        · refine rg_step 3 (G' := fun f => if v3 = x4 then evT f 217 72 [oR 52 0, oI x1, oI x2, oI x3, oI x4, oI x5, oI x6, oI v3] [] s2 else evT f 217 75 [oR 52 0, oI x1, oI x2, oI x3, oI x4, oI x5, oI x6, oI v3] [] s2) (fun _ => rfl) (rg_if h (fun h => ?_) fun h => ?_)
          · exact rg_step 2 (G' := fun f => evT f 217 75 [oR 52 0, oI x1, oI x2, oI x3, oI x4, oI (cI (-1)), oI x6, oI v3] [] s2) (fun _ => rfl) ((t_fSheet_streetLike_b75 hk9) h)
          · exact (t_fSheet_streetLike_b75 hk9) h
    · exact rg_end 2 (fun _ => rfl) (by cases h; rfl)
theorem t_fSheet_streetLike_h9 {n : Nat} {s : ev_M} {x1 : Int32} {x2 : Int32} {x3 : Int32} {x4 : Int32} {x5 : Int32} {x6 : Int32} {j7 : Option ev_V} {q : ev_M × Int32} (h : fSheet_streetLike_h9 n s x1 x2 x3 x4 x5 x6 = some q) : RR 217 9 [oR 52 0, oI x1, oI x2, oI x3, oI x4, oI x5, oI x6, j7] [] s (cvI q) := ti_fSheet_streetLike_h9 n s x1 x2 x3 x4 x5 x6 j7 q h
theorem T_fSheet_streetLike {s : ev_M} {a1 : Int32} {a2 : Int32} {a3 : Int32} {q : ev_M × Int32} (h : fSheet_streetLike s a1 a2 a3 = some q) : RR 217 0 [oR 52 0, oI a1, oI a2, oI a3, nn, nn, nn, nn] [] s (cvI q) := by
  exact rg_step 6 (G' := fun f => evT f 217 9 [oR 52 0, oI a1, oI a2, oI a3, oI (cI 3), oI (cI (-1)), oI (cI 0), nn] [] s) (fun _ => rfl) ((t_fSheet_streetLike_h9) h)
theorem ti_fSheet_wordEnd_h4 {s : ev_M} : ∀ (n : Nat) (x2 : Int32) (x3 : Int32) (j1 : Option ev_V) (q : Int32), fSheet_wordEnd_h4 s n x2 x3 = some q → RR 214 4 [oR 52 0, j1, oI x2, oI x3] [] s (cvP s q) := by
  intro n
  induction n with
  | zero => intro x2 x3 j1 q h; cases h
  | succ n ih =>
    have hk4 : ∀ {x2 : Int32} {x3 : Int32} {j1 : Option ev_V} {q : Int32}, fSheet_wordEnd_h4 s n x2 x3 = some q → RR 214 4 [oR 52 0, j1, oI x2, oI x3] [] s (cvP s q) := fun h => ih _ _ _ _ h
    intro x2 x3 j1 q h
    refine rg_step 3 (G' := fun f => if x3 < x2 then evT f 214 9 [oR 52 0, nn, oI x2, oI x3] [] s else evT f 214 27 [oR 52 0, nn, oI x2, oI x3] [] s) (fun _ => rfl) (rg_if h (fun h => ?_) fun h => ?_)
    · refine rg_step 6 (G' := fun f => if inb x3 200 = true then evT f 214 18 [oR 52 0, nn, oI x2, oI x3] [vI (s.1 (68 + (ix (cI 7))) (ix x3))] s else none) (fun _ => rfl) (rg_gd h fun h => ?_)
      refine rg_step 1 (G' := fun f => if (s.1 (68 + (ix (cI 7))) (ix x3)) = 0 then evT f 214 21 [oR 52 0, nn, oI x2, oI x3] [] s else evT f 214 27 [oR 52 0, nn, oI x2, oI x3] [] s) (fun _ => rfl) (rg_if h (fun h => ?_) fun h => ?_)
      · exact rg_step 2 (G' := fun f => evT f 214 4 [oR 52 0, nn, oI x2, oI (x3 + cI 1)] [] s) (fun _ => rfl) (hk4 h)
      · exact rg_end 2 (fun _ => rfl) (by cases h; rfl)
    · exact rg_end 2 (fun _ => rfl) (by cases h; rfl)
theorem t_fSheet_wordEnd_h4 {s : ev_M} {n : Nat} {x2 : Int32} {x3 : Int32} {j1 : Option ev_V} {q : Int32} (h : fSheet_wordEnd_h4 s n x2 x3 = some q) : RR 214 4 [oR 52 0, j1, oI x2, oI x3] [] s (cvP s q) := ti_fSheet_wordEnd_h4 n x2 x3 j1 q h
theorem T_fSheet_wordEnd {s : ev_M} {a1 : Int32} {a2 : Int32} {q : Int32} (h : fSheet_wordEnd s a1 a2 = some q) : RR 214 0 [oR 52 0, oI a1, oI a2, nn] [] s (cvP s q) := by
  refine rg_step 4 (G' := fun f => evT f 214 4 [oR 52 0, oI a1, oI a2, oI (a1 + (cI 1))] [] s) (fun _ => rfl) (rg_ltI (P := fun v1 => RG (fun f => evT f 214 4 [oR 52 0, oI a1, oI a2, oI v1] [] s) (cvP s q)) h fun v1 h => ?_)
  exact (t_fSheet_wordEnd_h4) h
theorem ti_fSheet_numberOf_h19 {s : ev_M} : ∀ (n : Nat) (x2 : Int32) (x4 : Int32) (x5 : Int32) (j1 : Option ev_V) (j3 : Option ev_V) (q : Int32), fSheet_numberOf_h19 s n x2 x4 x5 = some q → RR 216 19 [oR 52 0, j1, oI x2, j3, oI x4, oI x5] [] s (cvP s q) := by
  intro n
  induction n with
  | zero => intro x2 x4 x5 j1 j3 q h; cases h
  | succ n ih =>
    have hk19 : ∀ {x2 : Int32} {x4 : Int32} {x5 : Int32} {j1 : Option ev_V} {j3 : Option ev_V} {q : Int32}, fSheet_numberOf_h19 s n x2 x4 x5 = some q → RR 216 19 [oR 52 0, j1, oI x2, j3, oI x4, oI x5] [] s (cvP s q) := fun h => ih _ _ _ _ _ _ h
    intro x2 x4 x5 j1 j3 q h
    refine rg_step 3 (G' := fun f => if x5 < x2 then evT f 216 25 [oR 52 0, nn, oI x2, nn, oI x4, oI x5] [] s else evT f 216 63 [oR 52 0, nn, oI x2, nn, oI x4, oI x5] [] s) (fun _ => rfl) (rg_if h (fun h => ?_) fun h => ?_)
    · refine rg_step 6 (G' := fun f => if inb x5 200 = true then evT f 216 34 [oR 52 0, nn, oI x2, nn, oI x4, oI x5] [vI (s.1 (68 + (ix (cI 5))) (ix x5))] s else none) (fun _ => rfl) (rg_gd h fun h => ?_)
      refine rg_step 2 (G' := fun f => if (s.1 (68 + (ix (cI 5))) (ix x5)) = (cI (-1)) then evT f 216 38 [oR 52 0, nn, oI x2, nn, oI x4, oI x5] [] s else evT f 216 40 [oR 52 0, nn, oI x2, nn, oI x4, oI x5] [] s) (fun _ => rfl) (rg_if h (fun h => ?_) fun h => ?_)
      · exact rg_end 2 (fun _ => rfl) (by cases h; rfl)
      · refine rg_step 9 (G' := fun f => if inb x5 200 = true then evT f 216 54 [oR 52 0, nn, oI x2, nn, oI x4, oI x5] [vI (s.1 (68 + (ix (cI 5))) (ix x5)), vI (x4 * (cI 10))] s else none) (fun _ => rfl) (rg_gd h fun h => ?_)
        refine rg_step 2 (G' := fun f => evT f 216 57 [oR 52 0, nn, oI x2, nn, oI ((x4 * (cI 10)) + (s.1 (68 + (ix (cI 5))) (ix x5))), oI x5] [] s) (fun _ => rfl) (rg_ltI (P := fun v1 => RG (fun f => evT f 216 57 [oR 52 0, nn, oI x2, nn, oI v1, oI x5] [] s) (cvP s q)) h fun v1 h => ?_)
        exact rg_step 2 (G' := fun f => evT f 216 19 [oR 52 0, nn, oI x2, nn, oI v1, oI (x5 + cI 1)] [] s) (fun _ => rfl) (hk19 h)
    · exact rg_end 2 (fun _ => rfl) (by cases h; rfl)
theorem t_fSheet_numberOf_h19 {s : ev_M} {n : Nat} {x2 : Int32} {x4 : Int32} {x5 : Int32} {j1 : Option ev_V} {j3 : Option ev_V} {q : Int32} (h : fSheet_numberOf_h19 s n x2 x4 x5 = some q) : RR 216 19 [oR 52 0, j1, oI x2, j3, oI x4, oI x5] [] s (cvP s q) := ti_fSheet_numberOf_h19 n x2 x4 x5 j1 j3 q h
theorem T_fSheet_numberOf {s : ev_M} {a1 : Int32} {a2 : Int32} {a3 : Int32} {q : Int32} (h : fSheet_numberOf s a1 a2 a3 = some q) : RR 216 0 [oR 52 0, oI a1, oI a2, oI a3, nn, nn] [] s (cvP s q) := by
  refine rg_step 6 (G' := fun f => ev_after (evT f 308 0 [oI (a2 - a1), oI (cI 1), oI a3] [] s) (fun q => evT f 216 8 [oR 52 0, oI a1, oI a2, oI a3, nn, nn] (q.2 ++ []) q.1)) (fun _ => rfl) (rg_bd1 h fun v2 hc h => rg_call (q := cvP s v2) (T_fPH_outside hc) ?_)
  refine rg_step 1 (G' := fun f => if v2 = 0 then evT f 216 13 [oR 52 0, oI a1, oI a2, oI a3, nn, nn] [] s else evT f 216 11 [oR 52 0, oI a1, oI a2, oI a3, nn, nn] [] s) (fun _ => rfl) (rg_if h (fun h => ?_) fun h => ?_)
  · exact rg_step 4 (G' := fun f => evT f 216 19 [oR 52 0, oI a1, oI a2, oI a3, oI (cI 0), oI a1] [] s) (fun _ => rfl) ((t_fSheet_numberOf_h19) h)
  · exact rg_end 2 (fun _ => rfl) (by cases h; rfl)
theorem ti_fSheet_lastWordOf_h4 {s : ev_M} : ∀ (n : Nat) (x1 : Int32) (x3 : Int32) (j2 : Option ev_V) (q : Int32), fSheet_lastWordOf_h4 s n x1 x3 = some q → RR 215 4 [oR 52 0, oI x1, j2, oI x3] [] s (cvP s q) := by
  intro n
  induction n with
  | zero => intro x1 x3 j2 q h; cases h
  | succ n ih =>
    have hk4 : ∀ {x1 : Int32} {x3 : Int32} {j2 : Option ev_V} {q : Int32}, fSheet_lastWordOf_h4 s n x1 x3 = some q → RR 215 4 [oR 52 0, oI x1, j2, oI x3] [] s (cvP s q) := fun h => ih _ _ _ _ h
    intro x1 x3 j2 q h
    refine rg_step 3 (G' := fun f => if x3 ≤ x1 then evT f 215 27 [oR 52 0, oI x1, nn, oI x3] [] s else evT f 215 9 [oR 52 0, oI x1, nn, oI x3] [] s) (fun _ => rfl) (rg_if h (fun h => ?_) fun h => ?_)
    · exact rg_end 2 (fun _ => rfl) (by cases h; rfl)
    · refine rg_step 6 (G' := fun f => if inb x3 200 = true then evT f 215 18 [oR 52 0, oI x1, nn, oI x3] [vI (s.1 (68 + (ix (cI 7))) (ix x3))] s else none) (fun _ => rfl) (rg_gd h fun h => ?_)
      refine rg_step 1 (G' := fun f => if (s.1 (68 + (ix (cI 7))) (ix x3)) = 0 then evT f 215 21 [oR 52 0, oI x1, nn, oI x3] [] s else evT f 215 27 [oR 52 0, oI x1, nn, oI x3] [] s) (fun _ => rfl) (rg_if h (fun h => ?_) fun h => ?_)
      · exact rg_step 2 (G' := fun f => evT f 215 4 [oR 52 0, oI x1, nn, oI (x3 + cI (-1))] [] s) (fun f => Eq.trans (b := evT (f + 1 + 1) 215 21 [oR 52 0, oI x1, nn, oI x3] [] s) rfl ((ev_inc (f := f + 1) (M := 215) (pc := 21) (i := 3) (n := 3) (c := (-1)) (r := 0) (dl := []) (L := [oR 52 0, oI x1, nn, oI x3]) (L' := [oR 52 0, oI x1, nn, oI (x3 + cI (-1))]) (s := s) (y := x3) rfl rfl rfl).trans rfl)) (hk4 h)
      · exact rg_end 2 (fun _ => rfl) (by cases h; rfl)
theorem t_fSheet_lastWordOf_h4 {s : ev_M} {n : Nat} {x1 : Int32} {x3 : Int32} {j2 : Option ev_V} {q : Int32} (h : fSheet_lastWordOf_h4 s n x1 x3 = some q) : RR 215 4 [oR 52 0, oI x1, j2, oI x3] [] s (cvP s q) := ti_fSheet_lastWordOf_h4 n x1 x3 j2 q h
theorem T_fSheet_lastWordOf {s : ev_M} {a1 : Int32} {a2 : Int32} {q : Int32} (h : fSheet_lastWordOf s a1 a2 = some q) : RR 215 0 [oR 52 0, oI a1, oI a2, nn] [] s (cvP s q) := by
  refine rg_step 4 (G' := fun f => evT f 215 4 [oR 52 0, oI a1, oI a2, oI (a2 - (cI 1))] [] s) (fun _ => rfl) (rg_ltI (P := fun v1 => RG (fun f => evT f 215 4 [oR 52 0, oI a1, oI a2, oI v1] [] s) (cvP s q)) h fun v1 h => ?_)
  exact (t_fSheet_lastWordOf_h4) h
theorem t_fSheet_reading_b139 {s : ev_M} {x1 : Int32} {x4 : Int32} {x5 : Int32} {y0 : Int32} {j2 : Option ev_V} {j3 : Option ev_V} {j6 : Option ev_V} {j7 : Option ev_V} {q : ev_M × Int32} (h : fSheet_reading_b139 s x1 x4 x5 y0 = some q) : RR 213 139 [oR 52 0, oI x1, j2, j3, oI x4, oI x5, j6, j7] [vI y0] s (cvI q) := by
  refine rg_step 4 (G' := fun f => if y0 = (cI (-1)) then evT f 213 147 [oR 52 0, oI x1, nn, nn, oI x4, oI x5, oI y0, nn] [] s else evT f 213 149 [oR 52 0, oI x1, nn, nn, oI x4, oI x5, oI y0, nn] [] s) (fun _ => rfl) (rg_if h (fun h => ?_) fun h => ?_)
  · exact rg_end 2 (fun _ => rfl) (by cases h; rfl)
  · refine rg_step 5 (G' := fun f => ev_after (evT f 217 0 [oR 52 0, oI x4, oI x1, oI x5, nn, nn, nn, nn] [] s) (fun q => evT f 213 158 [oR 52 0, oI x1, nn, nn, oI x4, oI x5, oI y0, nn] (q.2 ++ []) q.1)) (fun _ => rfl) (rg_bd2 h fun s1 v2 hc h => rg_call (q := cvI (s1, v2)) (T_fSheet_streetLike hc) ?_)
    refine rg_step 4 (G' := fun f => if v2 = (cI (-1)) then evT f 213 166 [oR 52 0, oI x1, nn, nn, oI x4, oI x5, oI y0, oI v2] [] s1 else evT f 213 168 [oR 52 0, oI x1, nn, nn, oI x4, oI x5, oI y0, oI v2] [] s1) (fun _ => rfl) (rg_if h (fun h => ?_) fun h => ?_)
    · exact rg_end 2 (fun _ => rfl) (by cases h; rfl)
    · refine rg_step 6 (G' := fun f => ev_after (evT f 24 0 [oR 30 0, oI v2, oI y0, nn] [] s1) (fun q => evT f 213 180 [oR 52 0, oI x1, nn, nn, oI x4, oI x5, oI y0, oI v2] (q.2 ++ [vR 52 0]) q.1)) (fun _ => rfl) (rg_bd1 h fun v3 hc h => rg_call (q := cvP s1 v3) (T_fBook_pointOf hc) ?_)
      refine rg_step 1 (G' := fun f => evT f 213 183 [oR 52 0, oI x1, nn, nn, oI x4, oI x5, oI y0, oI v2] [] (wI s1 52 3 v3)) (fun _ => rfl) (rg_ltM h fun s4 h => ?_)
      refine rg_step 4 (G' := fun f => if (s4.1 52 3) = (cI (-1)) then evT f 213 191 [oR 52 0, oI x1, nn, nn, oI x4, oI x5, oI y0, oI v2] [] s4 else evT f 213 196 [oR 52 0, oI x1, nn, nn, oI x4, oI x5, oI y0, oI v2] [] s4) (fun _ => rfl) (rg_if h (fun h => ?_) fun h => ?_)
      · exact rg_end 3 (fun _ => rfl) (by cases h; rfl)
      · exact rg_end 2 (fun _ => rfl) (by cases h; rfl)
theorem T_fSheet_reading {s : ev_M} {q : ev_M × Int32} (h : fSheet_reading s = some q) : RR 213 0 [oR 52 0, nn, nn, nn, nn, nn, nn, nn] [] s (cvI q) := by
  refine rg_step 3 (G' := fun f => evT f 213 5 [oR 52 0, nn, nn, nn, nn, nn, nn, nn] [] (wI s 52 3 (cI (-1)))) (fun _ => rfl) (rg_ltM h fun s5 h => ?_)
  refine rg_step 4 (G' := fun f => if (s5.1 52 13) < (cI 2) then evT f 213 13 [oR 52 0, nn, nn, nn, nn, nn, nn, nn] [] s5 else evT f 213 15 [oR 52 0, nn, nn, nn, nn, nn, nn, nn] [] s5) (fun _ => rfl) (rg_if h (fun h => ?_) fun h => ?_)
  · exact rg_end 2 (fun _ => rfl) (by cases h; rfl)
  · refine rg_step 9 (G' := fun f => if inb ((s5.1 52 13) - (cI 1)) 10 = true then evT f 213 28 [oR 52 0, nn, nn, nn, nn, nn, nn, nn] [vI (s5.1 (63 + (ix (cI 3))) (ix ((s5.1 52 13) - (cI 1))))] s5 else none) (fun _ => rfl) (rg_gd h fun h => ?_)
    refine rg_step 1 (G' := fun f => evT f 213 29 [oR 52 0, oI (s5.1 (63 + (ix (cI 3))) (ix ((s5.1 52 13) - (cI 1)))), nn, nn, nn, nn, nn, nn] [] s5) (fun _ => rfl) (rg_ltI (P := fun v6 => RG (fun f => evT f 213 29 [oR 52 0, oI v6, nn, nn, nn, nn, nn, nn] [] s5) (cvI q)) h fun v6 h => ?_)
    refine rg_step 10 (G' := fun f => if inb ((s5.1 52 13) - (cI 1)) 10 = true then evT f 213 43 [oR 52 0, oI v6, nn, nn, nn, nn, nn, nn] [vI (s5.1 (63 + (ix (cI 0))) (ix ((s5.1 52 13) - (cI 1)))), vI v6] s5 else none) (fun _ => rfl) (rg_gd h fun h => ?_)
    refine rg_step 2 (G' := fun f => evT f 213 45 [oR 52 0, oI v6, oI (v6 + (s5.1 (63 + (ix (cI 0))) (ix ((s5.1 52 13) - (cI 1))))), nn, nn, nn, nn, nn] [] s5) (fun _ => rfl) (rg_ltI (P := fun v7 => RG (fun f => evT f 213 45 [oR 52 0, oI v6, oI v7, nn, nn, nn, nn, nn] [] s5) (cvI q)) h fun v7 h => ?_)
    refine rg_step 6 (G' := fun f => ev_after (evT f 214 0 [oR 52 0, oI v6, oI v7, nn] [] s5) (fun q => evT f 213 53 [oR 52 0, oI v6, oI v7, nn, nn, nn, nn, nn] (q.2 ++ [vI v6, vR 52 0]) q.1)) (fun _ => rfl) (rg_bd1 h fun v8 hc h => rg_call (q := cvP s5 v8) (T_fSheet_wordEnd hc) ?_)
    refine rg_step 2 (G' := fun f => ev_after (evT f 216 0 [oR 52 0, oI v6, oI v8, oI (cI 5), nn, nn] [] s5) (fun q => evT f 213 57 [oR 52 0, oI v6, oI v7, nn, nn, nn, nn, nn] (q.2 ++ []) q.1)) (fun _ => rfl) (rg_bd1 h fun v9 hc h => rg_call (q := cvP s5 v9) (T_fSheet_numberOf hc) ?_)
    refine rg_step 4 (G' := fun f => if v9 = (cI (-1)) then evT f 213 63 [oR 52 0, oI v6, oI v7, oI v9, nn, nn, nn, nn] [] s5 else evT f 213 65 [oR 52 0, oI v6, oI v7, oI v9, nn, nn, nn, nn] [] s5) (fun _ => rfl) (rg_if h (fun h => ?_) fun h => ?_)
    · exact rg_end 2 (fun _ => rfl) (by cases h; rfl)
    · refine rg_step 4 (G' := fun f => ev_after (evT f 22 0 [oR 30 0, oI v9, nn] [] s5) (fun q => evT f 213 73 [oR 52 0, oI v6, oI v7, oI v9, nn, nn, nn, nn] (q.2 ++ []) q.1)) (fun _ => rfl) (rg_bd1 h fun v10 hc h => rg_call (q := cvP s5 v10) (T_fBook_placeOf hc) ?_)
      refine rg_step 4 (G' := fun f => if v10 = (cI (-1)) then evT f 213 81 [oR 52 0, oI v6, oI v7, oI v9, oI v10, nn, nn, nn] [] s5 else evT f 213 83 [oR 52 0, oI v6, oI v7, oI v9, oI v10, nn, nn, nn] [] s5) (fun _ => rfl) (rg_if h (fun h => ?_) fun h => ?_)
      · exact rg_end 2 (fun _ => rfl) (by cases h; rfl)
      · refine rg_step 9 (G' := fun f => if inb ((s5.1 52 13) - (cI 2)) 10 = true then evT f 213 96 [oR 52 0, oI v6, oI v7, oI v9, oI v10, nn, nn, nn] [vI (s5.1 (63 + (ix (cI 3))) (ix ((s5.1 52 13) - (cI 2))))] s5 else none) (fun _ => rfl) (rg_gd h fun h => ?_)
        refine rg_step 1 (G' := fun f => evT f 213 97 [oR 52 0, oI (s5.1 (63 + (ix (cI 3))) (ix ((s5.1 52 13) - (cI 2)))), oI v7, oI v9, oI v10, nn, nn, nn] [] s5) (fun _ => rfl) (rg_ltI (P := fun v11 => RG (fun f => evT f 213 97 [oR 52 0, oI v11, oI v7, oI v9, oI v10, nn, nn, nn] [] s5) (cvI q)) h fun v11 h => ?_)
        refine rg_step 10 (G' := fun f => if inb ((s5.1 52 13) - (cI 2)) 10 = true then evT f 213 111 [oR 52 0, oI v11, oI v7, oI v9, oI v10, nn, nn, nn] [vI (s5.1 (63 + (ix (cI 0))) (ix ((s5.1 52 13) - (cI 2)))), vI v11] s5 else none) (fun _ => rfl) (rg_gd h fun h => ?_)
        refine rg_step 2 (G' := fun f => evT f 213 113 [oR 52 0, oI v11, oI (v11 + (s5.1 (63 + (ix (cI 0))) (ix ((s5.1 52 13) - (cI 2))))), oI v9, oI v10, nn, nn, nn] [] s5) (fun _ => rfl) (rg_ltI (P := fun v12 => RG (fun f => evT f 213 113 [oR 52 0, oI v11, oI v12, oI v9, oI v10, nn, nn, nn] [] s5) (cvI q)) h fun v12 h => ?_)
        refine rg_step 4 (G' := fun f => ev_after (evT f 215 0 [oR 52 0, oI v11, oI v12, nn] [] s5) (fun q => evT f 213 119 [oR 52 0, oI v11, oI v12, oI v9, oI v10, nn, nn, nn] (q.2 ++ []) q.1)) (fun _ => rfl) (rg_bd1 h fun v13 hc h => rg_call (q := cvP s5 v13) (T_fSheet_lastWordOf hc) ?_)
        refine rg_step 4 (G' := fun f => if v13 ≤ v11 then evT f 213 138 [oR 52 0, oI v11, oI v12, oI v9, oI v10, oI v13, nn, nn] [] s5 else evT f 213 127 [oR 52 0, oI v11, oI v12, oI v9, oI v10, oI v13, nn, nn] [] s5) (fun _ => rfl) (rg_if h (fun h => ?_) fun h => ?_)
        · exact rg_step 1 (G' := fun f => evT f 213 139 [oR 52 0, oI v11, oI v12, oI v9, oI v10, oI v13, nn, nn] [vI (cI (-1))] s5) (fun _ => rfl) ((t_fSheet_reading_b139) h)
        · refine rg_step 5 (G' := fun f => ev_after (evT f 216 0 [oR 52 0, oI v13, oI v12, oI (cI 3), nn, nn] [] s5) (fun q => evT f 213 135 [oR 52 0, oI v11, oI v12, oI v9, oI v10, oI v13, nn, nn] (q.2 ++ []) q.1)) (fun _ => rfl) (rg_bd1 h fun v14 hc h => rg_call (q := cvP s5 v14) (T_fSheet_numberOf hc) ?_)
          exact rg_step 1 (G' := fun f => evT f 213 139 [oR 52 0, oI v11, oI v12, oI v9, oI v10, oI v13, nn, nn] [vI v14] s5) (fun _ => rfl) ((t_fSheet_reading_b139) h)
theorem T_fSheet_show_1 {s : ev_M} {a2 : Int32} {q : ev_M × Int32} (h : fSheet_show_1 s a2 = some q) : RR 197 0 [oR 52 0, oR 1 0, oI a2] [] s (cvI q) := by
  refine rg_step 4 (G' := fun f => ev_after (evT f 308 0 [oI a2, oI (cI 8), oI (cI 128)] [] s) (fun q => evT f 197 9 [oR 52 0, oR 1 0, oI a2] (q.2 ++ []) q.1)) (fun _ => rfl) (rg_bd1 h fun v1 hc h => rg_call (q := cvP s v1) (T_fPH_outside hc) ?_)
  refine rg_step 1 (G' := fun f => if v1 = 0 then evT f 197 12 [oR 52 0, oR 1 0, oI a2] [] s else evT f 197 28 [oR 52 0, oR 1 0, oI a2] [] s) (fun _ => rfl) (rg_if h (fun h => ?_) fun h => ?_)
  · refine rg_step 3 (G' := fun f => if (s.1 1 1) = 0 then evT f 197 28 [oR 52 0, oR 1 0, oI a2] [] s else evT f 197 19 [oR 52 0, oR 1 0, oI a2] [] s) (fun _ => rfl) (rg_if h (fun h => ?_) fun h => ?_)
    · exact rg_end 2 (fun _ => rfl) (by cases h; rfl)
    · refine rg_step 4 (G' := fun f => if a2 = 0 then none else evT f 197 25 [oR 52 0, oR 1 0, oI a2] [vI (irem (s.1 1 1) a2)] s) (fun _ => rfl) (rg_dv h fun h => ?_)
      refine rg_step 1 (G' := fun f => if (irem (s.1 1 1) a2) = 0 then evT f 197 31 [oR 52 0, oR 1 0, oI a2] [] s else evT f 197 28 [oR 52 0, oR 1 0, oI a2] [] s) (fun _ => rfl) (rg_if h (fun h => ?_) fun h => ?_)
      · refine rg_step 3 (G' := fun f => ev_after (evT f 123 0 [oR 9 0, nn] [] s) (fun q => evT f 197 38 [oR 52 0, oR 1 0, oI a2] (q.2 ++ []) q.1)) (fun _ => rfl) (rg_bd2 h fun s2 v3 hc h => rg_call (q := cvI (s2, v3)) (T_fLog_admits hc) ?_)
        refine rg_step 1 (G' := fun f => if v3 = 0 then evT f 197 41 [oR 52 0, oR 1 0, oI a2] [] s2 else evT f 197 44 [oR 52 0, oR 1 0, oI a2] [] s2) (fun _ => rfl) (rg_if h (fun h => ?_) fun h => ?_)
        · exact rg_end 2 (fun _ => rfl) (by cases h; rfl)
        · refine rg_step 3 (G' := fun f => evT f 197 49 [oR 52 0, oR 1 0, oI a2] [] (wI s2 52 2 (cI 1))) (fun _ => rfl) (rg_ltM h fun s4 h => ?_)
          refine rg_step 3 (G' := fun f => evT f 197 54 [oR 52 0, oR 1 0, oI a2] [] (wI s4 52 4 a2)) (fun _ => rfl) (rg_ltM h fun s5 h => ?_)
          refine rg_step 5 (G' := fun f => if a2 = 0 then none else evT f 197 61 [oR 52 0, oR 1 0, oI a2] [vI ((s5.1 1 1) / a2), vR 52 0] s5) (fun _ => rfl) (rg_dv h fun h => ?_)
          refine rg_step 1 (G' := fun f => evT f 197 64 [oR 52 0, oR 1 0, oI a2] [] (wI s5 52 5 ((s5.1 1 1) / a2))) (fun _ => rfl) (rg_ltM h fun s6 h => ?_)
          refine rg_step 3 (G' := fun f => ev_after (evT f 198 0 [oR 52 0, oR 1 0, nn, nn, nn, nn] [] s6) (fun q => evT f 197 69 [oR 52 0, oR 1 0, oI a2] (q.2 ++ []) q.1)) (fun _ => rfl) (rg_bd1 h fun s7 hc h => rg_call (q := cvV s7) (T_fSheet_darken_1 hc) ?_)
          refine rg_step 2 (G' := fun f => ev_after (evT f 199 0 [oR 52 0, nn] [] s7) (fun q => evT f 197 73 [oR 52 0, oR 1 0, oI a2] (q.2 ++ []) q.1)) (fun _ => rfl) (rg_bd1 h fun s8 hc h => rg_call (q := cvV s8) (T_fSheet_findParts hc) ?_)
          refine rg_step 2 (G' := fun f => ev_after (evT f 202 0 [oR 52 0, nn, nn] [] s8) (fun q => evT f 197 77 [oR 52 0, oR 1 0, oI a2] (q.2 ++ []) q.1)) (fun _ => rfl) (rg_bd1 h fun s9 hc h => rg_call (q := cvV s9) (T_fSheet_joinLines hc) ?_)
          refine rg_step 2 (G' := fun f => ev_after (evT f 205 0 [oR 52 0, nn, nn] [] s9) (fun q => evT f 197 81 [oR 52 0, oR 1 0, oI a2] (q.2 ++ []) q.1)) (fun _ => rfl) (rg_bd1 h fun s10 hc h => rg_call (q := cvV s10) (T_fSheet_orderParts hc) ?_)
          refine rg_step 2 (G' := fun f => ev_after (evT f 207 0 [oR 52 0, nn, nn, nn, nn] [] s10) (fun q => evT f 197 85 [oR 52 0, oR 1 0, oI a2] (q.2 ++ []) q.1)) (fun _ => rfl) (rg_bd1 h fun s11 hc h => rg_call (q := cvV s11) (T_fSheet_keepLines hc) ?_)
          refine rg_step 2 (G' := fun f => ev_after (evT f 213 0 [oR 52 0, nn, nn, nn, nn, nn, nn, nn] [] s11) (fun q => evT f 197 89 [oR 52 0, oR 1 0, oI a2] (q.2 ++ []) q.1)) (fun _ => rfl) (rg_bd2 h fun s12 v13 hc h => rg_call (q := cvI (s12, v13)) (T_fSheet_reading hc) ?_)
          exact rg_end 1 (fun _ => rfl) (by cases h; rfl)
      · exact rg_end 2 (fun _ => rfl) (by cases h; rfl)
  · exact rg_end 2 (fun _ => rfl) (by cases h; rfl)
theorem t_fChron_keep_b184 {s : ev_M} {x1 : Int32} {x5 : Int32} {j2 : Option ev_V} {j3 : Option ev_V} {j4 : Option ev_V} {j6 : Option ev_V} {j7 : Option ev_V} {j8 : Option ev_V} {q : ev_M} (h : fChron_keep_b184 s x1 x5 = some q) : RR 43 184 [oR 15 0, oI x1, j2, j3, j4, oI x5, j6, j7, j8] [] s (cvV q) := by
  refine rg_step 4 (G' := fun f => if inb x5 5000 = true then evT f 43 191 [oR 15 0, oI x1, nn, nn, nn, oI x5, nn, nn, nn] [vI (s.1 22 (ix x5))] s else none) (fun _ => rfl) (rg_gd h fun h => ?_)
  refine rg_step 2 (G' := fun f => if (s.1 22 (ix x5)) = (cI (-1)) then evT f 43 195 [oR 15 0, oI x1, nn, nn, nn, oI x5, nn, nn, nn] [] s else evT f 43 203 [oR 15 0, oI x1, nn, nn, nn, oI x5, nn, nn, nn] [] s) (fun _ => rfl) (rg_if h (fun h => ?_) fun h => ?_)
  · refine rg_step 5 (G' := fun f => if inb x1 300 = true then evT f 43 203 [oR 15 0, oI x1, nn, nn, nn, oI x5, nn, nn, nn] [] (wI s 21 (ix x1) x5) else none) (fun _ => rfl) (rg_gd h fun h => rg_ltM h fun s1 h => ?_)
    exact rg_end 1 (fun _ => rfl) (by cases h; rfl)
  · exact rg_end 1 (fun _ => rfl) (by cases h; rfl)
theorem t_fChron_keep_b158 {s : ev_M} {x1 : Int32} {x5 : Int32} {x6 : Int32} {j2 : Option ev_V} {j3 : Option ev_V} {j4 : Option ev_V} {j7 : Option ev_V} {j8 : Option ev_V} {q : ev_M} (h : fChron_keep_b158 s x1 x5 x6 = some q) : RR 43 158 [oR 15 0, oI x1, j2, j3, j4, oI x5, oI x6, j7, j8] [] s (cvV q) := by
  refine rg_step 3 (G' := fun f => if x6 = (cI (-1)) then evT f 43 164 [oR 15 0, oI x1, nn, nn, nn, oI x5, oI x6, nn, nn] [] s else evT f 43 175 [oR 15 0, oI x1, nn, nn, nn, oI x5, oI x6, nn, nn] [] s) (fun _ => rfl) (rg_if h (fun h => ?_) fun h => ?_)
  · refine rg_step 5 (G' := fun f => if inb x1 300 = true then evT f 43 172 [oR 15 0, oI x1, nn, nn, nn, oI x5, oI x6, nn, nn] [] (wI s 20 (ix x1) x5) else none) (fun _ => rfl) (rg_gd h fun h => rg_ltM h fun s2 h => ?_)
    exact rg_step 1 (G' := fun f => evT f 43 184 [oR 15 0, oI x1, nn, nn, nn, oI x5, oI x6, nn, nn] [] s2) (fun _ => rfl) ((t_fChron_keep_b184) h)
  · refine rg_step 5 (G' := fun f => if inb x6 5000 = true then evT f 43 184 [oR 15 0, oI x1, nn, nn, nn, oI x5, oI x6, nn, nn] [] (wI s 22 (ix x6) x5) else none) (fun _ => rfl) (rg_gd h fun h => rg_ltM h fun s3 h => ?_)
    exact (t_fChron_keep_b184) h
theorem t_fChron_keep_b149 {s : ev_M} {x1 : Int32} {x5 : Int32} {x6 : Int32} {x7 : Int32} {j2 : Option ev_V} {j3 : Option ev_V} {j4 : Option ev_V} {j8 : Option ev_V} {q : ev_M} (h : fChron_keep_b149 s x1 x5 x6 x7 = some q) : RR 43 149 [oR 15 0, oI x1, j2, j3, j4, oI x5, oI x6, oI x7, j8] [] s (cvV q) := by
  refine rg_step 5 (G' := fun f => if inb x5 5000 = true then evT f 43 158 [oR 15 0, oI x1, nn, nn, nn, oI x5, oI x6, oI x7, nn] [] (wI s 22 (ix x5) x7) else none) (fun _ => rfl) (rg_gd h fun h => rg_ltM h fun s4 h => ?_)
  exact (t_fChron_keep_b158) h
theorem ti_fChron_keep_h103 : ∀ (n : Nat) (s : ev_M) (x1 : Int32) (x4 : Int32) (x5 : Int32) (x6 : Int32) (x7 : Int32) (x8 : Int32) (j2 : Option ev_V) (j3 : Option ev_V) (q : ev_M), fChron_keep_h103 n s x1 x4 x5 x6 x7 x8 = some q → RR 43 103 [oR 15 0, oI x1, j2, j3, oI x4, oI x5, oI x6, oI x7, oI x8] [] s (cvV q) := by
  intro n
  induction n with
  | zero => intro s x1 x4 x5 x6 x7 x8 j2 j3 q h; cases h
  | succ n ih =>
    have hk103 : ∀ {s : ev_M} {x1 : Int32} {x4 : Int32} {x5 : Int32} {x6 : Int32} {x7 : Int32} {x8 : Int32} {j2 : Option ev_V} {j3 : Option ev_V} {q : ev_M}, fChron_keep_h103 n s x1 x4 x5 x6 x7 x8 = some q → RR 43 103 [oR 15 0, oI x1, j2, j3, oI x4, oI x5, oI x6, oI x7, oI x8] [] s (cvV q) := fun h => ih _ _ _ _ _ _ _ _ _ _ h
    intro s x1 x4 x5 x6 x7 x8 j2 j3 q h
    refine rg_step 3 (G' := fun f => if x8 < x5 then evT f 43 110 [oR 15 0, oI x1, nn, nn, oI x4, oI x5, oI x6, oI x7, oI x8] [] s else evT f 43 149 [oR 15 0, oI x1, nn, nn, oI x4, oI x5, oI x6, oI x7, oI x8] [] s) (fun _ => rfl) (rg_if h (fun h => ?_) fun h => ?_)
    · refine rg_step 3 (G' := fun f => if x7 = (cI (-1)) then evT f 43 149 [oR 15 0, oI x1, nn, nn, oI x4, oI x5, oI x6, oI x7, oI x8] [] s else evT f 43 116 [oR 15 0, oI x1, nn, nn, oI x4, oI x5, oI x6, oI x7, oI x8] [] s) (fun _ => rfl) (rg_if h (fun h => ?_) fun h => ?_)
      · exact (t_fChron_keep_b149) h
      · refine rg_step 6 (G' := fun f => if inb x7 5000 = true then evT f 43 125 [oR 15 0, oI x1, nn, nn, oI x4, oI x5, oI x6, oI x7, oI x8] [vI (s.1 (17 + (ix (cI 2))) (ix x7))] s else none) (fun _ => rfl) (rg_gd h fun h => ?_)
        refine rg_step 2 (G' := fun f => if (s.1 (17 + (ix (cI 2))) (ix x7)) ≤ x4 then evT f 43 130 [oR 15 0, oI x1, nn, nn, oI x4, oI x5, oI x6, oI x7, oI x8] [] s else evT f 43 149 [oR 15 0, oI x1, nn, nn, oI x4, oI x5, oI x6, oI x7, oI x8] [] s) (fun _ => rfl) (rg_if h (fun h => ?_) fun h => ?_)
        · refine rg_step 6 (G' := fun f => if inb x7 5000 = true then evT f 43 141 [oR 15 0, oI x1, nn, nn, oI x4, oI x5, oI x7, oI x7, oI x8] [vI (s.1 22 (ix x7))] s else none) (fun _ => rfl) (rg_gd h fun h => ?_)
          refine rg_step 1 (G' := fun f => evT f 43 143 [oR 15 0, oI x1, nn, nn, oI x4, oI x5, oI x7, oI (s.1 22 (ix x7)), oI x8] [] s) (fun _ => rfl) (rg_ltI (P := fun v5 => RG (fun f => evT f 43 143 [oR 15 0, oI x1, nn, nn, oI x4, oI x5, oI x7, oI v5, oI x8] [] s) (cvV q)) h fun v5 h => ?_)
          exact rg_step 2 (G' := fun f => evT f 43 103 [oR 15 0, oI x1, nn, nn, oI x4, oI x5, oI x7, oI v5, oI (x8 + cI 1)] [] s) (fun _ => rfl) (hk103 h)
        · exact (t_fChron_keep_b149) h
    · exact (t_fChron_keep_b149) h
theorem t_fChron_keep_h103 {n : Nat} {s : ev_M} {x1 : Int32} {x4 : Int32} {x5 : Int32} {x6 : Int32} {x7 : Int32} {x8 : Int32} {j2 : Option ev_V} {j3 : Option ev_V} {q : ev_M} (h : fChron_keep_h103 n s x1 x4 x5 x6 x7 x8 = some q) : RR 43 103 [oR 15 0, oI x1, j2, j3, oI x4, oI x5, oI x6, oI x7, oI x8] [] s (cvV q) := ti_fChron_keep_h103 n s x1 x4 x5 x6 x7 x8 j2 j3 q h
theorem T_fChron_keep {s : ev_M} {a1 : Int32} {a2 : Int32} {a3 : Int32} {a4 : Int32} {q : ev_M} (h : fChron_keep s a1 a2 a3 a4 = some q) : RR 43 0 [oR 15 0, oI a1, oI a2, oI a3, oI a4, nn, nn, nn, nn] [] s (cvV q) := by
  refine rg_step 7 (G' := fun f => evT f 43 11 [oR 15 0, oI a1, oI a2, oI a3, oI a4, nn, nn, nn, nn] [vI (s.1 15 2)] (wI s 15 2 ((s.1 15 2) + (cI 1)))) (fun _ => rfl) (rg_ltM h fun s6 h => ?_)
  refine rg_step 1 (G' := fun f => evT f 43 13 [oR 15 0, oI a1, oI a2, oI a3, oI a4, oI (s.1 15 2), nn, nn, nn] [] s6) (fun _ => rfl) (rg_ltI (P := fun v7 => RG (fun f => evT f 43 13 [oR 15 0, oI a1, oI a2, oI a3, oI a4, oI v7, nn, nn, nn] [] s6) (cvV q)) h fun v7 h => ?_)
  refine rg_step 3 (G' := fun f => if v7 < (cI 5000) then evT f 43 22 [oR 15 0, oI a1, oI a2, oI a3, oI a4, oI v7, nn, nn, nn] [] s6 else evT f 43 21 [oR 15 0, oI a1, oI a2, oI a3, oI a4, oI v7, nn, nn, nn] [] s6) (fun _ => rfl) (rg_if h (fun h => ?_) fun h => ?_)
  · refine rg_step 7 (G' := fun f => if inb v7 5000 = true then evT f 43 32 [oR 15 0, oI a1, oI a2, oI a3, oI a4, oI v7, nn, nn, nn] [] (wI s6 (17 + (ix (cI 0))) (ix v7) a2) else none) (fun _ => rfl) (rg_gd h fun h => rg_ltM h fun s8 h => ?_)
    refine rg_step 7 (G' := fun f => if inb v7 5000 = true then evT f 43 42 [oR 15 0, oI a1, oI a2, oI a3, oI a4, oI v7, nn, nn, nn] [] (wI s8 (17 + (ix (cI 1))) (ix v7) a3) else none) (fun _ => rfl) (rg_gd h fun h => rg_ltM h fun s9 h => ?_)
    refine rg_step 7 (G' := fun f => if inb v7 5000 = true then evT f 43 53 [oR 15 0, oI a1, oI a2, oI a3, oI a4, oI v7, nn, nn, nn] [] (wI s9 (17 + (ix (cI 2))) (ix v7) a4) else none) (fun _ => rfl) (rg_gd h fun h => rg_ltM h fun s10 h => ?_)
    refine rg_step 5 (G' := fun f => if inb v7 5000 = true then evT f 43 61 [oR 15 0, oI a1, oI a2, oI a3, oI a4, oI v7, nn, nn, nn] [] (wI s10 22 (ix v7) (cI (-1))) else none) (fun _ => rfl) (rg_gd h fun h => rg_ltM h fun s11 h => ?_)
    refine rg_step 4 (G' := fun f => if inb a1 300 = true then evT f 43 67 [oR 15 0, oI a1, oI a2, oI a3, oI a4, oI v7, nn, nn, nn] [vI (s11.1 21 (ix a1))] s11 else none) (fun _ => rfl) (rg_gd h fun h => ?_)
    refine rg_step 1 (G' := fun f => evT f 43 69 [oR 15 0, oI a1, oI a2, oI a3, oI a4, oI v7, oI (s11.1 21 (ix a1)), nn, nn] [] s11) (fun _ => rfl) (rg_ltI (P := fun v12 => RG (fun f => evT f 43 69 [oR 15 0, oI a1, oI a2, oI a3, oI a4, oI v7, oI v12, nn, nn] [] s11) (cvV q)) h fun v12 h => ?_)
    refine rg_step 3 (G' := fun f => if v12 = (cI (-1)) then evT f 43 158 [oR 15 0, oI a1, oI a2, oI a3, oI a4, oI v7, oI v12, nn, nn] [] s11 else evT f 43 75 [oR 15 0, oI a1, oI a2, oI a3, oI a4, oI v7, oI v12, nn, nn] [] s11) (fun _ => rfl) (rg_if h (fun h => ?_) fun h => ?_)
    · exact (t_fChron_keep_b158) h
    · refine rg_step 6 (G' := fun f => if inb v12 5000 = true then evT f 43 84 [oR 15 0, oI a1, oI a2, oI a3, oI a4, oI v7, oI v12, nn, nn] [vI (s11.1 (17 + (ix (cI 2))) (ix v12))] s11 else none) (fun _ => rfl) (rg_gd h fun h => ?_)
      refine rg_step 2 (G' := fun f => if (s11.1 (17 + (ix (cI 2))) (ix v12)) ≤ a4 then evT f 43 158 [oR 15 0, oI a1, oI a2, oI a3, oI a4, oI v7, oI v12, nn, nn] [] s11 else evT f 43 89 [oR 15 0, oI a1, oI a2, oI a3, oI a4, oI v7, oI v12, nn, nn] [] s11) (fun _ => rfl) (rg_if h (fun h => ?_) fun h => ?_)
      · exact (t_fChron_keep_b158) h
      · refine rg_step 6 (G' := fun f => if inb a1 300 = true then evT f 43 98 [oR 15 0, oI a1, oI a2, oI a3, oI a4, oI v7, oI (cI (-1)), nn, nn] [vI (s11.1 20 (ix a1))] s11 else none) (fun _ => rfl) (rg_gd h fun h => ?_)
        refine rg_step 1 (G' := fun f => evT f 43 100 [oR 15 0, oI a1, oI a2, oI a3, oI a4, oI v7, oI (cI (-1)), oI (s11.1 20 (ix a1)), nn] [] s11) (fun _ => rfl) (rg_ltI (P := fun v13 => RG (fun f => evT f 43 100 [oR 15 0, oI a1, oI a2, oI a3, oI a4, oI v7, oI (cI (-1)), oI v13, nn] [] s11) (cvV q)) h fun v13 h => ?_)
        exact rg_step 2 (G' := fun f => evT f 43 103 [oR 15 0, oI a1, oI a2, oI a3, oI a4, oI v7, oI (cI (-1)), oI v13, oI (cI 0)] [] s11) (fun _ => rfl) ((t_fChron_keep_h103) h)
  · exact rg_end 1 (fun _ => rfl) (by cases h; rfl)
theorem t_fChron_happen_b87 {s : ev_M} {j1 : Option ev_V} {j2 : Option ev_V} {j3 : Option ev_V} {j4 : Option ev_V} {q : ev_M} (h : fChron_happen_b87 s = some q) : RR 42 87 [oR 15 0, j1, j2, j3, j4] [] s (cvV q) := by
  refine rg_step 6 (G' := fun f => evT f 42 97 [oR 15 0, nn, nn, nn, nn] [] (wI s 15 7 ((s.1 15 7) + (cI 1)))) (fun _ => rfl) (rg_ltM h fun s1 h => ?_)
  exact rg_end 1 (fun _ => rfl) (by cases h; rfl)
theorem T_fChron_happen {s : ev_M} {a1 : Int32} {a2 : Int32} {a3 : Int32} {a4 : Int32} {q : ev_M} (h : fChron_happen s a1 a2 a3 a4 = some q) : RR 42 0 [oR 15 0, oI a1, oI a2, oI a3, oI a4] [] s (cvV q) := by
  refine rg_step 7 (G' := fun f => ev_after (evT f 43 0 [oR 15 0, oI a1, oI a3, oI a4, oI (s.1 15 1), nn, nn, nn, nn] [] s) (fun q => evT f 42 12 [oR 15 0, oI a1, oI a2, oI a3, oI a4] (q.2 ++ []) q.1)) (fun _ => rfl) (rg_bd1 h fun s2 hc h => rg_call (q := cvV s2) (T_fChron_keep hc) ?_)
  refine rg_step 4 (G' := fun f => if inb a2 34 = true then evT f 42 18 [oR 15 0, oI a1, oI a2, oI a3, oI a4] [vI (s2.1 28 (ix a2))] s2 else none) (fun _ => rfl) (rg_gd h fun h => ?_)
  refine rg_step 5 (G' := fun f => if (((s2.1 28 (ix a2)) >>> (a3 &&& 31)) &&& (cI 1)) = 0 then evT f 42 25 [oR 15 0, oI a1, oI a2, oI a3, oI a4] [] s2 else evT f 42 26 [oR 15 0, oI a1, oI a2, oI a3, oI a4] [] s2) (fun _ => rfl) (rg_if h (fun h => ?_) fun h => ?_)
  · exact rg_end 1 (fun _ => rfl) (by cases h; rfl)
  · refine rg_step 4 (G' := fun f => if (s2.1 15 7) < (cI 3000) then evT f 42 36 [oR 15 0, oI a1, oI a2, oI a3, oI a4] [] s2 else evT f 42 87 [oR 15 0, oI a1, oI a2, oI a3, oI a4] [] s2) (fun _ => rfl) (rg_if h (fun h => ?_) fun h => ?_)
    · refine rg_step 8 (G' := fun f => if inb (s2.1 15 7) 3000 = true then evT f 42 48 [oR 15 0, oI a1, oI a2, oI a3, oI a4] [] (wI s2 (24 + (ix (cI 0))) (ix (s2.1 15 7)) a2) else none) (fun _ => rfl) (rg_gd h fun h => rg_ltM h fun s3 h => ?_)
      refine rg_step 8 (G' := fun f => if inb (s3.1 15 7) 3000 = true then evT f 42 60 [oR 15 0, oI a1, oI a2, oI a3, oI a4] [] (wI s3 (24 + (ix (cI 1))) (ix (s3.1 15 7)) a1) else none) (fun _ => rfl) (rg_gd h fun h => rg_ltM h fun s4 h => ?_)
      refine rg_step 8 (G' := fun f => if inb (s4.1 15 7) 3000 = true then evT f 42 72 [oR 15 0, oI a1, oI a2, oI a3, oI a4] [] (wI s4 (24 + (ix (cI 2))) (ix (s4.1 15 7)) a3) else none) (fun _ => rfl) (rg_gd h fun h => rg_ltM h fun s5 h => ?_)
      refine rg_step 9 (G' := fun f => if inb (s5.1 15 7) 3000 = true then evT f 42 87 [oR 15 0, oI a1, oI a2, oI a3, oI a4] [] (wI s5 (24 + (ix (cI 3))) (ix (s5.1 15 7)) (s5.1 15 1)) else none) (fun _ => rfl) (rg_gd h fun h => rg_ltM h fun s6 h => ?_)
      exact (t_fChron_happen_b87) h
    · exact (t_fChron_happen_b87) h
theorem t_fItems_come_b75 {s : ev_M} {x1 : Int32} {x2 : Int32} {q : ev_M} (h : fItems_come_b75 s x1 x2 = some q) : RR 55 75 [oR 100 0, oI x1, oI x2] [] s (cvV q) := by
  refine rg_step 9 (G' := fun f => if inb x1 300 = true then evT f 55 88 [oR 100 0, oI x1, oI x2] [vI (s.1 (102 + (ix (cI 4))) (ix x1)), vI x1, vR 15 0] s else none) (fun _ => rfl) (rg_gd h fun h => ?_)
  refine rg_step 7 (G' := fun f => if inb x1 300 = true then evT f 55 98 [oR 100 0, oI x1, oI x2] [vI (s.1 (102 + (ix (cI 8))) (ix x1)), vI x2, vI (s.1 (102 + (ix (cI 4))) (ix x1)), vI x1, vR 15 0] s else none) (fun _ => rfl) (rg_gd h fun h => ?_)
  refine rg_step 1 (G' := fun f => ev_after (evT f 42 0 [oR 15 0, oI x1, oI (s.1 (102 + (ix (cI 4))) (ix x1)), oI x2, oI (s.1 (102 + (ix (cI 8))) (ix x1))] [] s) (fun q => evT f 55 101 [oR 100 0, oI x1, oI x2] (q.2 ++ []) q.1)) (fun _ => rfl) (rg_bd1 h fun s1 hc h => rg_call (q := cvV s1) (T_fChron_happen hc) ?_)
  exact rg_end 1 (fun _ => rfl) (by cases h; rfl)
theorem t_fItems_come_b49 {s : ev_M} {x1 : Int32} {x2 : Int32} {q : ev_M} (h : fItems_come_b49 s x1 x2 = some q) : RR 55 49 [oR 100 0, oI x1, oI x2] [] s (cvV q) := by
  refine rg_step 3 (G' := fun f => if x2 = (cI 6) then evT f 55 75 [oR 100 0, oI x1, oI x2] [] s else evT f 55 55 [oR 100 0, oI x1, oI x2] [] s) (fun _ => rfl) (rg_if h (fun h => ?_) fun h => ?_)
  · exact (t_fItems_come_b75) h
  · refine rg_step 7 (G' := fun f => if inb x1 300 = true then evT f 55 65 [oR 100 0, oI x1, oI x2] [] (wI s (102 + (ix (cI 14))) (ix x1) (cI (-1))) else none) (fun _ => rfl) (rg_gd h fun h => rg_ltM h fun s2 h => ?_)
    refine rg_step 7 (G' := fun f => if inb x1 300 = true then evT f 55 75 [oR 100 0, oI x1, oI x2] [] (wI s2 (102 + (ix (cI 15))) (ix x1) (cI (-1))) else none) (fun _ => rfl) (rg_gd h fun h => rg_ltM h fun s3 h => ?_)
    exact (t_fItems_come_b75) h
theorem t_fItems_come_b34 {s : ev_M} {x1 : Int32} {x2 : Int32} {q : ev_M} (h : fItems_come_b34 s x1 x2 = some q) : RR 55 34 [oR 100 0, oI x1, oI x2] [] s (cvV q) := by
  refine rg_step 3 (G' := fun f => if x2 = (cI 2) then evT f 55 49 [oR 100 0, oI x1, oI x2] [] s else evT f 55 39 [oR 100 0, oI x1, oI x2] [] s) (fun _ => rfl) (rg_if h (fun h => ?_) fun h => ?_)
  · exact (t_fItems_come_b49) h
  · refine rg_step 7 (G' := fun f => if inb x1 300 = true then evT f 55 49 [oR 100 0, oI x1, oI x2] [] (wI s (102 + (ix (cI 9))) (ix x1) (cI (-1))) else none) (fun _ => rfl) (rg_gd h fun h => rg_ltM h fun s4 h => ?_)
    exact (t_fItems_come_b49) h
theorem T_fItems_come {s : ev_M} {a1 : Int32} {a2 : Int32} {q : ev_M} (h : fItems_come s a1 a2 = some q) : RR 55 0 [oR 100 0, oI a1, oI a2] [] s (cvV q) := by
  refine rg_step 7 (G' := fun f => if inb a1 300 = true then evT f 55 9 [oR 100 0, oI a1, oI a2] [] (wI s (102 + (ix (cI 0))) (ix a1) a2) else none) (fun _ => rfl) (rg_gd h fun h => rg_ltM h fun s5 h => ?_)
  refine rg_step 3 (G' := fun f => if a2 = (cI 1) then evT f 55 14 [oR 100 0, oI a1, oI a2] [] s5 else evT f 55 34 [oR 100 0, oI a1, oI a2] [] s5) (fun _ => rfl) (rg_if h (fun h => ?_) fun h => ?_)
  · refine rg_step 12 (G' := fun f => evT f 55 33 [oR 100 0, oI a1, oI a2] [vI (s5.1 100 6), vI a1, vR 102 (ix (cI 17))] (wI s5 100 6 ((s5.1 100 6) + (cI 1)))) (fun _ => rfl) (rg_ltM h fun s6 h => ?_)
    refine rg_step 1 (G' := fun f => if inb a1 300 = true then evT f 55 34 [oR 100 0, oI a1, oI a2] [] (wI s6 (102 + (ix (cI 17))) (ix a1) (s5.1 100 6)) else none) (fun _ => rfl) (rg_gd h fun h => rg_ltM h fun s7 h => ?_)
    exact (t_fItems_come_b34) h
  · exact (t_fItems_come_b34) h
theorem T_fMoney_has {s : ev_M} {a1 : Int32} {q : Int32} (h : fMoney_has s a1 = some q) : RR 147 0 [oR 78 0, oI a1] [] s (cvP s q) := by
  refine rg_step 9 (G' := fun f => ev_after (evT f 308 0 [oI a1, oI (cI 0), oI (((cI 4) + (s.1 78 3)) - (cI 1))] [] s) (fun q => evT f 147 13 [oR 78 0, oI a1] (q.2 ++ []) q.1)) (fun _ => rfl) (rg_bd1 h fun v1 hc h => rg_call (q := cvP s v1) (T_fPH_outside hc) ?_)
  refine rg_step 1 (G' := fun f => if v1 = 0 then evT f 147 16 [oR 78 0, oI a1] [] s else evT f 147 20 [oR 78 0, oI a1] [] s) (fun _ => rfl) (rg_if h (fun h => ?_) fun h => ?_)
  · exact rg_end 3 (fun _ => rfl) (by cases h; rfl)
  · exact rg_end 2 (fun _ => rfl) (by cases h; rfl)
theorem T_fMoney_isCustomer {s : ev_M} {a1 : Int32} {q : Int32} (h : fMoney_isCustomer s a1 = some q) : RR 148 0 [oR 78 0, oI a1] [] s (cvP s q) := by
  refine rg_step 3 (G' := fun f => if a1 < (cI 4) then evT f 148 17 [oR 78 0, oI a1] [] s else evT f 148 5 [oR 78 0, oI a1] [] s) (fun _ => rfl) (rg_if h (fun h => ?_) fun h => ?_)
  · exact rg_end 2 (fun _ => rfl) (by cases h; rfl)
  · refine rg_step 3 (G' := fun f => ev_after (evT f 147 0 [oR 78 0, oI a1] [] s) (fun q => evT f 148 10 [oR 78 0, oI a1] (q.2 ++ []) q.1)) (fun _ => rfl) (rg_bd1 h fun v1 hc h => rg_call (q := cvP s v1) (T_fMoney_has hc) ?_)
    refine rg_step 1 (G' := fun f => if v1 = 0 then evT f 148 17 [oR 78 0, oI a1] [] s else evT f 148 13 [oR 78 0, oI a1] [] s) (fun _ => rfl) (rg_if h (fun h => ?_) fun h => ?_)
    · exact rg_end 2 (fun _ => rfl) (by cases h; rfl)
    · exact rg_end 3 (fun _ => rfl) (by cases h; rfl)
theorem ti_fItems_tell_h138 : ∀ (n : Nat) (s : ev_M) (x1 : Int32) (x2 : Int32) (x3 : Int32) (x4 : Int32) (x5 : Int32) (x6 : Int32) (x8 : Int32) (x9 : Int32) (j7 : Option ev_V) (q : ev_M × Int32), fItems_tell_h138 n s x1 x2 x3 x4 x5 x6 x8 x9 = some q → RR 54 138 [oR 100 0, oI x1, oI x2, oI x3, oI x4, oI x5, oI x6, j7, oI x8, oI x9] [] s (cvI q) := by
  intro n
  induction n with
  | zero => intro s x1 x2 x3 x4 x5 x6 x8 x9 j7 q h; cases h
  | succ n ih =>
    have hk138 : ∀ {s : ev_M} {x1 : Int32} {x2 : Int32} {x3 : Int32} {x4 : Int32} {x5 : Int32} {x6 : Int32} {x8 : Int32} {x9 : Int32} {j7 : Option ev_V} {q : ev_M × Int32}, fItems_tell_h138 n s x1 x2 x3 x4 x5 x6 x8 x9 = some q → RR 54 138 [oR 100 0, oI x1, oI x2, oI x3, oI x4, oI x5, oI x6, j7, oI x8, oI x9] [] s (cvI q) := fun h => ih _ _ _ _ _ _ _ _ _ _ _ h
    intro s x1 x2 x3 x4 x5 x6 x8 x9 j7 q h
    refine rg_step 3 (G' := fun f => if x9 < (cI 22) then evT f 54 145 [oR 100 0, oI x1, oI x2, oI x3, oI x4, oI x5, oI x6, nn, oI x8, oI x9] [] s else evT f 54 162 [oR 100 0, oI x1, oI x2, oI x3, oI x4, oI x5, oI x6, nn, oI x8, oI x9] [] s) (fun _ => rfl) (rg_if h (fun h => ?_) fun h => ?_)
    · refine rg_step 4 (G' := fun f => if inb x9 22 = true then evT f 54 152 [oR 100 0, oI x1, oI x2, oI x3, oI x4, oI x5, oI x6, nn, oI x8, oI x9] [vR 102 (ix x9)] s else none) (fun _ => rfl) (rg_gd h fun h => ?_)
      refine rg_step 3 (G' := fun f => if inb x8 300 = true then evT f 54 156 [oR 100 0, oI x1, oI x2, oI x3, oI x4, oI x5, oI x6, nn, oI x8, oI x9] [] (wI s (102 + (ix x9)) (ix x8) (cI (-1))) else none) (fun _ => rfl) (rg_gd h fun h => rg_ltM h fun s1 h => ?_)
      exact rg_step 2 (G' := fun f => evT f 54 138 [oR 100 0, oI x1, oI x2, oI x3, oI x4, oI x5, oI x6, nn, oI x8, oI (x9 + cI 1)] [] s1) (fun _ => rfl) (hk138 h)
    · refine rg_step 7 (G' := fun f => if inb x8 300 = true then evT f 54 172 [oR 100 0, oI x1, oI x2, oI x3, oI x4, oI x5, oI x6, nn, oI x8, oI x9] [] (wI s (102 + (ix (cI 1))) (ix x8) x1) else none) (fun _ => rfl) (rg_gd h fun h => rg_ltM h fun s2 h => ?_)
      refine rg_step 7 (G' := fun f => if inb x8 300 = true then evT f 54 182 [oR 100 0, oI x1, oI x2, oI x3, oI x4, oI x5, oI x6, nn, oI x8, oI x9] [] (wI s2 (102 + (ix (cI 2))) (ix x8) x2) else none) (fun _ => rfl) (rg_gd h fun h => rg_ltM h fun s3 h => ?_)
      refine rg_step 7 (G' := fun f => if inb x8 300 = true then evT f 54 192 [oR 100 0, oI x1, oI x2, oI x3, oI x4, oI x5, oI x6, nn, oI x8, oI x9] [] (wI s3 (102 + (ix (cI 3))) (ix x8) x3) else none) (fun _ => rfl) (rg_gd h fun h => rg_ltM h fun s4 h => ?_)
      refine rg_step 7 (G' := fun f => if inb x8 300 = true then evT f 54 203 [oR 100 0, oI x1, oI x2, oI x3, oI x4, oI x5, oI x6, nn, oI x8, oI x9] [] (wI s4 (102 + (ix (cI 4))) (ix x8) x4) else none) (fun _ => rfl) (rg_gd h fun h => rg_ltM h fun s5 h => ?_)
      refine rg_step 7 (G' := fun f => if inb x8 300 = true then evT f 54 214 [oR 100 0, oI x1, oI x2, oI x3, oI x4, oI x5, oI x6, nn, oI x8, oI x9] [] (wI s5 (102 + (ix (cI 5))) (ix x8) x5) else none) (fun _ => rfl) (rg_gd h fun h => rg_ltM h fun s6 h => ?_)
      refine rg_step 7 (G' := fun f => if inb x8 300 = true then evT f 54 226 [oR 100 0, oI x1, oI x2, oI x3, oI x4, oI x5, oI x6, nn, oI x8, oI x9] [] (wI s6 (102 + (ix (cI 6))) (ix x8) x6) else none) (fun _ => rfl) (rg_gd h fun h => rg_ltM h fun s7 h => ?_)
      refine rg_step 7 (G' := fun f => if inb x8 300 = true then evT f 54 237 [oR 100 0, oI x1, oI x2, oI x3, oI x4, oI x5, oI x6, nn, oI x8, oI x9] [] (wI s7 (102 + (ix (cI 10))) (ix x8) (cI 0)) else none) (fun _ => rfl) (rg_gd h fun h => rg_ltM h fun s8 h => ?_)
      refine rg_step 7 (G' := fun f => if inb x8 300 = true then evT f 54 248 [oR 100 0, oI x1, oI x2, oI x3, oI x4, oI x5, oI x6, nn, oI x8, oI x9] [] (wI s8 (102 + (ix (cI 13))) (ix x8) (cI 0)) else none) (fun _ => rfl) (rg_gd h fun h => rg_ltM h fun s9 h => ?_)
      refine rg_step 7 (G' := fun f => if inb x8 300 = true then evT f 54 259 [oR 100 0, oI x1, oI x2, oI x3, oI x4, oI x5, oI x6, nn, oI x8, oI x9] [] (wI s9 (102 + (ix (cI 18))) (ix x8) (cI 0)) else none) (fun _ => rfl) (rg_gd h fun h => rg_ltM h fun s10 h => ?_)
      refine rg_step 7 (G' := fun f => if inb x8 300 = true then evT f 54 270 [oR 100 0, oI x1, oI x2, oI x3, oI x4, oI x5, oI x6, nn, oI x8, oI x9] [] (wI s10 (102 + (ix (cI 19))) (ix x8) (cI 0)) else none) (fun _ => rfl) (rg_gd h fun h => rg_ltM h fun s11 h => ?_)
      refine rg_step 4 (G' := fun f => ev_after (evT f 55 0 [oR 100 0, oI x8, oI (cI 0)] [] s11) (fun q => evT f 54 277 [oR 100 0, oI x1, oI x2, oI x3, oI x4, oI x5, oI x6, nn, oI x8, oI x9] (q.2 ++ []) q.1)) (fun _ => rfl) (rg_bd1 h fun s12 hc h => rg_call (q := cvV s12) (T_fItems_come hc) ?_)
      exact rg_end 2 (fun _ => rfl) (by cases h; rfl)
theorem t_fItems_tell_h138 {n : Nat} {s : ev_M} {x1 : Int32} {x2 : Int32} {x3 : Int32} {x4 : Int32} {x5 : Int32} {x6 : Int32} {x8 : Int32} {x9 : Int32} {j7 : Option ev_V} {q : ev_M × Int32} (h : fItems_tell_h138 n s x1 x2 x3 x4 x5 x6 x8 x9 = some q) : RR 54 138 [oR 100 0, oI x1, oI x2, oI x3, oI x4, oI x5, oI x6, j7, oI x8, oI x9] [] s (cvI q) := ti_fItems_tell_h138 n s x1 x2 x3 x4 x5 x6 x8 x9 j7 q h
theorem t_fItems_tell_b99 {s : ev_M} {x1 : Int32} {x2 : Int32} {x3 : Int32} {x4 : Int32} {x5 : Int32} {x6 : Int32} {j7 : Option ev_V} {j8 : Option ev_V} {j9 : Option ev_V} {q : ev_M × Int32} (h : fItems_tell_b99 s x1 x2 x3 x4 x5 x6 = some q) : RR 54 99 [oR 100 0, oI x1, oI x2, oI x3, oI x4, oI x5, oI x6, j7, j8, j9] [] s (cvI q) := by
  refine rg_step 4 (G' := fun f => if (s.1 100 5) < (cI 300) then evT f 54 109 [oR 100 0, oI x1, oI x2, oI x3, oI x4, oI x5, oI x6, nn, nn, nn] [] s else evT f 54 119 [oR 100 0, oI x1, oI x2, oI x3, oI x4, oI x5, oI x6, nn, nn, nn] [] s) (fun _ => rfl) (rg_if h (fun h => ?_) fun h => ?_)
  · refine rg_step 3 (G' := fun f => ev_after (evT f 123 0 [oR 9 0, nn] [] s) (fun q => evT f 54 116 [oR 100 0, oI x1, oI x2, oI x3, oI x4, oI x5, oI x6, nn, nn, nn] (q.2 ++ []) q.1)) (fun _ => rfl) (rg_bd2 h fun s13 v14 hc h => rg_call (q := cvI (s13, v14)) (T_fLog_admits hc) ?_)
    refine rg_step 1 (G' := fun f => if v14 = 0 then evT f 54 119 [oR 100 0, oI x1, oI x2, oI x3, oI x4, oI x5, oI x6, nn, nn, nn] [] s13 else evT f 54 122 [oR 100 0, oI x1, oI x2, oI x3, oI x4, oI x5, oI x6, nn, nn, nn] [] s13) (fun _ => rfl) (rg_if h (fun h => ?_) fun h => ?_)
    · exact rg_end 2 (fun _ => rfl) (by cases h; rfl)
    · refine rg_step 7 (G' := fun f => evT f 54 133 [oR 100 0, oI x1, oI x2, oI x3, oI x4, oI x5, oI x6, nn, nn, nn] [vI (s13.1 100 5)] (wI s13 100 5 ((s13.1 100 5) + (cI 1)))) (fun _ => rfl) (rg_ltM h fun s15 h => ?_)
      refine rg_step 1 (G' := fun f => evT f 54 135 [oR 100 0, oI x1, oI x2, oI x3, oI x4, oI x5, oI x6, nn, oI (s13.1 100 5), nn] [] s15) (fun _ => rfl) (rg_ltI (P := fun v16 => RG (fun f => evT f 54 135 [oR 100 0, oI x1, oI x2, oI x3, oI x4, oI x5, oI x6, nn, oI v16, nn] [] s15) (cvI q)) h fun v16 h => ?_)
      exact rg_step 2 (G' := fun f => evT f 54 138 [oR 100 0, oI x1, oI x2, oI x3, oI x4, oI x5, oI x6, nn, oI v16, oI (cI 0)] [] s15) (fun _ => rfl) ((t_fItems_tell_h138) h)
  · exact rg_end 2 (fun _ => rfl) (by cases h; rfl)
theorem t_fItems_tell_b70 {s : ev_M} {x1 : Int32} {x2 : Int32} {x3 : Int32} {x4 : Int32} {x5 : Int32} {x6 : Int32} {y0 : Int32} {j7 : Option ev_V} {j8 : Option ev_V} {j9 : Option ev_V} {q : ev_M × Int32} (h : fItems_tell_b70 s x1 x2 x3 x4 x5 x6 y0 = some q) : RR 54 70 [oR 100 0, oI x1, oI x2, oI x3, oI x4, oI x5, oI x6, j7, j8, j9] [vI y0] s (cvI q) := by
  refine rg_step 3 (G' := fun f => if y0 = 0 then evT f 54 91 [oR 100 0, oI x1, oI x2, oI x3, oI x4, oI x5, oI x6, oI y0, nn, nn] [] s else evT f 54 77 [oR 100 0, oI x1, oI x2, oI x3, oI x4, oI x5, oI x6, oI y0, nn, nn] [] s) (fun _ => rfl) (rg_if h (fun h => ?_) fun h => ?_)
  · refine rg_step 2 (G' := fun f => if x6 = 0 then evT f 54 99 [oR 100 0, oI x1, oI x2, oI x3, oI x4, oI x5, oI x6, oI y0, nn, nn] [] s else evT f 54 96 [oR 100 0, oI x1, oI x2, oI x3, oI x4, oI x5, oI x6, oI y0, nn, nn] [] s) (fun _ => rfl) (rg_if h (fun h => ?_) fun h => ?_)
    · exact (t_fItems_tell_b99) h
    · exact rg_end 2 (fun _ => rfl) (by cases h; rfl)
  · refine rg_step 4 (G' := fun f => ev_after (evT f 308 0 [oI x6, oI (cI 1), oI (cI 100000)] [] s) (fun q => evT f 54 85 [oR 100 0, oI x1, oI x2, oI x3, oI x4, oI x5, oI x6, oI y0, nn, nn] (q.2 ++ []) q.1)) (fun _ => rfl) (rg_bd1 h fun v17 hc h => rg_call (q := cvP s v17) (T_fPH_outside hc) ?_)
    refine rg_step 1 (G' := fun f => if v17 = 0 then evT f 54 99 [oR 100 0, oI x1, oI x2, oI x3, oI x4, oI x5, oI x6, oI y0, nn, nn] [] s else evT f 54 88 [oR 100 0, oI x1, oI x2, oI x3, oI x4, oI x5, oI x6, oI y0, nn, nn] [] s) (fun _ => rfl) (rg_if h (fun h => ?_) fun h => ?_)
    · exact (t_fItems_tell_b99) h
    · exact rg_end 3 (fun _ => rfl) (by cases h; rfl)
theorem T_fItems_tell {s : ev_M} {a1 : Int32} {a2 : Int32} {a3 : Int32} {a4 : Int32} {a5 : Int32} {a6 : Int32} {q : ev_M × Int32} (h : fItems_tell s a1 a2 a3 a4 a5 a6 = some q) : RR 54 0 [oR 100 0, oI a1, oI a2, oI a3, oI a4, oI a5, oI a6, nn, nn, nn] [] s (cvI q) := by
  refine rg_step 4 (G' := fun f => ev_after (evT f 148 0 [oR 78 0, oI a4] [] s) (fun q => evT f 54 9 [oR 100 0, oI a1, oI a2, oI a3, oI a4, oI a5, oI a6, nn, nn, nn] (q.2 ++ []) q.1)) (fun _ => rfl) (rg_bd1 h fun v18 hc h => rg_call (q := cvP s v18) (T_fMoney_isCustomer hc) ?_)
  refine rg_step 1 (G' := fun f => if v18 = 0 then evT f 54 12 [oR 100 0, oI a1, oI a2, oI a3, oI a4, oI a5, oI a6, nn, nn, nn] [] s else evT f 54 15 [oR 100 0, oI a1, oI a2, oI a3, oI a4, oI a5, oI a6, nn, nn, nn] [] s) (fun _ => rfl) (rg_if h (fun h => ?_) fun h => ?_)
  · exact rg_end 2 (fun _ => rfl) (by cases h; rfl)
  · refine rg_step 4 (G' := fun f => ev_after (evT f 308 0 [oI a1, oI (cI 0), oI (cI 3)] [] s) (fun q => evT f 54 21 [oR 100 0, oI a1, oI a2, oI a3, oI a4, oI a5, oI a6, nn, nn, nn] (q.2 ++ []) q.1)) (fun _ => rfl) (rg_bd1 h fun v19 hc h => rg_call (q := cvP s v19) (T_fPH_outside hc) ?_)
    refine rg_step 1 (G' := fun f => if v19 = 0 then evT f 54 24 [oR 100 0, oI a1, oI a2, oI a3, oI a4, oI a5, oI a6, nn, nn, nn] [] s else evT f 54 56 [oR 100 0, oI a1, oI a2, oI a3, oI a4, oI a5, oI a6, nn, nn, nn] [] s) (fun _ => rfl) (rg_if h (fun h => ?_) fun h => ?_)
    · refine rg_step 4 (G' := fun f => ev_after (evT f 308 0 [oI a2, oI (cI 1), oI (cI 30000)] [] s) (fun q => evT f 54 32 [oR 100 0, oI a1, oI a2, oI a3, oI a4, oI a5, oI a6, nn, nn, nn] (q.2 ++ []) q.1)) (fun _ => rfl) (rg_bd1 h fun v20 hc h => rg_call (q := cvP s v20) (T_fPH_outside hc) ?_)
      refine rg_step 1 (G' := fun f => if v20 = 0 then evT f 54 35 [oR 100 0, oI a1, oI a2, oI a3, oI a4, oI a5, oI a6, nn, nn, nn] [] s else evT f 54 56 [oR 100 0, oI a1, oI a2, oI a3, oI a4, oI a5, oI a6, nn, nn, nn] [] s) (fun _ => rfl) (rg_if h (fun h => ?_) fun h => ?_)
      · refine rg_step 4 (G' := fun f => ev_after (evT f 308 0 [oI a3, oI (cI 0), oI (cI 7)] [] s) (fun q => evT f 54 42 [oR 100 0, oI a1, oI a2, oI a3, oI a4, oI a5, oI a6, nn, nn, nn] (q.2 ++ []) q.1)) (fun _ => rfl) (rg_bd1 h fun v21 hc h => rg_call (q := cvP s v21) (T_fPH_outside hc) ?_)
        refine rg_step 1 (G' := fun f => if v21 = 0 then evT f 54 45 [oR 100 0, oI a1, oI a2, oI a3, oI a4, oI a5, oI a6, nn, nn, nn] [] s else evT f 54 56 [oR 100 0, oI a1, oI a2, oI a3, oI a4, oI a5, oI a6, nn, nn, nn] [] s) (fun _ => rfl) (rg_if h (fun h => ?_) fun h => ?_)
        · refine rg_step 4 (G' := fun f => ev_after (evT f 308 0 [oI a5, oI (cI 1), oI (cI 99)] [] s) (fun q => evT f 54 53 [oR 100 0, oI a1, oI a2, oI a3, oI a4, oI a5, oI a6, nn, nn, nn] (q.2 ++ []) q.1)) (fun _ => rfl) (rg_bd1 h fun v22 hc h => rg_call (q := cvP s v22) (T_fPH_outside hc) ?_)
          refine rg_step 1 (G' := fun f => if v22 = 0 then evT f 54 59 [oR 100 0, oI a1, oI a2, oI a3, oI a4, oI a5, oI a6, nn, nn, nn] [] s else evT f 54 56 [oR 100 0, oI a1, oI a2, oI a3, oI a4, oI a5, oI a6, nn, nn, nn] [] s) (fun _ => rfl) (rg_if h (fun h => ?_) fun h => ?_)
          · refine rg_step 4 (G' := fun f => if (a3 &&& (cI 2)) = 0 then evT f 54 69 [oR 100 0, oI a1, oI a2, oI a3, oI a4, oI a5, oI a6, nn, nn, nn] [] s else evT f 54 65 [oR 100 0, oI a1, oI a2, oI a3, oI a4, oI a5, oI a6, nn, nn, nn] [] s) (fun _ => rfl) (rg_if h (fun h => ?_) fun h => ?_)
            · exact rg_step 1 (G' := fun f => evT f 54 70 [oR 100 0, oI a1, oI a2, oI a3, oI a4, oI a5, oI a6, nn, nn, nn] [vI (cI 0)] s) (fun _ => rfl) ((t_fItems_tell_b70) h)
            · exact rg_step 2 (G' := fun f => evT f 54 70 [oR 100 0, oI a1, oI a2, oI a3, oI a4, oI a5, oI a6, nn, nn, nn] [vI (cI 1)] s) (fun _ => rfl) ((t_fItems_tell_b70) h)
          · exact rg_end 2 (fun _ => rfl) (by cases h; rfl)
        · exact rg_end 2 (fun _ => rfl) (by cases h; rfl)
      · exact rg_end 2 (fun _ => rfl) (by cases h; rfl)
    · exact rg_end 2 (fun _ => rfl) (by cases h; rfl)
theorem T_fItems_has {s : ev_M} {a1 : Int32} {q : Int32} (h : fItems_has s a1 = some q) : RR 51 0 [oR 100 0, oI a1] [] s (cvP s q) := by
  refine rg_step 7 (G' := fun f => ev_after (evT f 308 0 [oI a1, oI (cI 0), oI ((s.1 100 5) - (cI 1))] [] s) (fun q => evT f 51 11 [oR 100 0, oI a1] (q.2 ++ []) q.1)) (fun _ => rfl) (rg_bd1 h fun v1 hc h => rg_call (q := cvP s v1) (T_fPH_outside hc) ?_)
  refine rg_step 1 (G' := fun f => if v1 = 0 then evT f 51 14 [oR 100 0, oI a1] [] s else evT f 51 18 [oR 100 0, oI a1] [] s) (fun _ => rfl) (rg_if h (fun h => ?_) fun h => ?_)
  · exact rg_end 3 (fun _ => rfl) (by cases h; rfl)
  · exact rg_end 2 (fun _ => rfl) (by cases h; rfl)
theorem T_fItems_is {s : ev_M} {a1 : Int32} {a2 : Int32} {q : Int32} (h : fItems_is s a1 a2 = some q) : RR 52 0 [oR 100 0, oI a1, oI a2] [] s (cvP s q) := by
  refine rg_step 6 (G' := fun f => if inb a1 300 = true then evT f 52 8 [oR 100 0, oI a1, oI a2] [vI (s.1 (102 + (ix (cI 0))) (ix a1))] s else none) (fun _ => rfl) (rg_gd h fun h => ?_)
  refine rg_step 2 (G' := fun f => if (s.1 (102 + (ix (cI 0))) (ix a1)) = a2 then evT f 52 12 [oR 100 0, oI a1, oI a2] [] s else evT f 52 16 [oR 100 0, oI a1, oI a2] [] s) (fun _ => rfl) (rg_if h (fun h => ?_) fun h => ?_)
  · exact rg_end 3 (fun _ => rfl) (by cases h; rfl)
  · exact rg_end 2 (fun _ => rfl) (by cases h; rfl)
theorem t_fItems_isAtHand_b18 {s : ev_M} {j0 : Option ev_V} {j1 : Option ev_V} {q : Int32} (h : fItems_isAtHand_b18 s = some q) : RR 59 18 [j0, j1] [] s (cvP s q) := by
  exact rg_end 3 (fun _ => rfl) (by cases h; rfl)
theorem T_fItems_isAtHand {s : ev_M} {a1 : Int32} {q : Int32} (h : fItems_isAtHand s a1 = some q) : RR 59 0 [oR 100 0, oI a1] [] s (cvP s q) := by
  refine rg_step 4 (G' := fun f => ev_after (evT f 52 0 [oR 100 0, oI a1, oI (cI 0)] [] s) (fun q => evT f 59 6 [oR 100 0, oI a1] (q.2 ++ []) q.1)) (fun _ => rfl) (rg_bd1 h fun v1 hc h => rg_call (q := cvP s v1) (T_fItems_is hc) ?_)
  refine rg_step 1 (G' := fun f => if v1 = 0 then evT f 59 9 [oR 100 0, oI a1] [] s else evT f 59 18 [oR 100 0, oI a1] [] s) (fun _ => rfl) (rg_if h (fun h => ?_) fun h => ?_)
  · refine rg_step 4 (G' := fun f => ev_after (evT f 52 0 [oR 100 0, oI a1, oI (cI 1)] [] s) (fun q => evT f 59 15 [oR 100 0, oI a1] (q.2 ++ []) q.1)) (fun _ => rfl) (rg_bd1 h fun v2 hc h => rg_call (q := cvP s v2) (T_fItems_is hc) ?_)
    refine rg_step 1 (G' := fun f => if v2 = 0 then evT f 59 22 [oR 100 0, oI a1] [] s else evT f 59 18 [oR 100 0, oI a1] [] s) (fun _ => rfl) (rg_if h (fun h => ?_) fun h => ?_)
    · exact rg_end 2 (fun _ => rfl) (by cases h; rfl)
    · exact (t_fItems_isAtHand_b18) h
  · exact (t_fItems_isAtHand_b18) h
theorem T_fItems_fixAddress {s : ev_M} {a1 : Int32} {a2 : Int32} {q : ev_M} (h : fItems_fixAddress s a1 a2 = some q) : RR 64 0 [oR 100 0, oI a1, oI a2] [] s (cvV q) := by
  refine rg_step 7 (G' := fun f => if inb a1 300 = true then evT f 64 10 [oR 100 0, oI a1, oI a2] [] (wI s (102 + (ix (cI 7))) (ix a1) a2) else none) (fun _ => rfl) (rg_gd h fun h => rg_ltM h fun s1 h => ?_)
  refine rg_step 7 (G' := fun f => if inb a1 300 = true then evT f 64 20 [oR 100 0, oI a1, oI a2] [] (wI s1 (102 + (ix (cI 13))) (ix a1) (cI 0)) else none) (fun _ => rfl) (rg_gd h fun h => rg_ltM h fun s2 h => ?_)
  exact rg_end 1 (fun _ => rfl) (by cases h; rfl)
theorem T_fItems_setAddress {s : ev_M} {a1 : Int32} {a2 : Int32} {q : ev_M × Int32} (h : fItems_setAddress s a1 a2 = some q) : RR 63 0 [oR 100 0, oI a1, oI a2] [] s (cvI q) := by
  refine rg_step 3 (G' := fun f => ev_after (evT f 51 0 [oR 100 0, oI a1] [] s) (fun q => evT f 63 5 [oR 100 0, oI a1, oI a2] (q.2 ++ []) q.1)) (fun _ => rfl) (rg_bd1 h fun v1 hc h => rg_call (q := cvP s v1) (T_fItems_has hc) ?_)
  refine rg_step 1 (G' := fun f => if v1 = 0 then evT f 63 19 [oR 100 0, oI a1, oI a2] [] s else evT f 63 8 [oR 100 0, oI a1, oI a2] [] s) (fun _ => rfl) (rg_if h (fun h => ?_) fun h => ?_)
  · exact rg_end 2 (fun _ => rfl) (by cases h; rfl)
  · refine rg_step 4 (G' := fun f => ev_after (evT f 28 0 [oR 30 0, oI a2] [] s) (fun q => evT f 63 16 [oR 100 0, oI a1, oI a2] (q.2 ++ []) q.1)) (fun _ => rfl) (rg_bd1 h fun v2 hc h => rg_call (q := cvP s v2) (T_fBook_hasPoint hc) ?_)
    refine rg_step 1 (G' := fun f => if v2 = 0 then evT f 63 19 [oR 100 0, oI a1, oI a2] [] s else evT f 63 22 [oR 100 0, oI a1, oI a2] [] s) (fun _ => rfl) (rg_if h (fun h => ?_) fun h => ?_)
    · exact rg_end 2 (fun _ => rfl) (by cases h; rfl)
    · refine rg_step 6 (G' := fun f => if inb a1 300 = true then evT f 63 31 [oR 100 0, oI a1, oI a2] [vI (s.1 (102 + (ix (cI 7))) (ix a1))] s else none) (fun _ => rfl) (rg_gd h fun h => ?_)
      refine rg_step 2 (G' := fun f => if (s.1 (102 + (ix (cI 7))) (ix a1)) = (cI (-1)) then evT f 63 35 [oR 100 0, oI a1, oI a2] [] s else evT f 63 43 [oR 100 0, oI a1, oI a2] [] s) (fun _ => rfl) (rg_if h (fun h => ?_) fun h => ?_)
      · refine rg_step 3 (G' := fun f => ev_after (evT f 59 0 [oR 100 0, oI a1] [] s) (fun q => evT f 63 40 [oR 100 0, oI a1, oI a2] (q.2 ++ []) q.1)) (fun _ => rfl) (rg_bd1 h fun v3 hc h => rg_call (q := cvP s v3) (T_fItems_isAtHand hc) ?_)
        refine rg_step 1 (G' := fun f => if v3 = 0 then evT f 63 43 [oR 100 0, oI a1, oI a2] [] s else evT f 63 46 [oR 100 0, oI a1, oI a2] [] s) (fun _ => rfl) (rg_if h (fun h => ?_) fun h => ?_)
        · exact rg_end 2 (fun _ => rfl) (by cases h; rfl)
        · refine rg_step 3 (G' := fun f => ev_after (evT f 123 0 [oR 9 0, nn] [] s) (fun q => evT f 63 53 [oR 100 0, oI a1, oI a2] (q.2 ++ []) q.1)) (fun _ => rfl) (rg_bd2 h fun s4 v5 hc h => rg_call (q := cvI (s4, v5)) (T_fLog_admits hc) ?_)
          refine rg_step 1 (G' := fun f => if v5 = 0 then evT f 63 56 [oR 100 0, oI a1, oI a2] [] s4 else evT f 63 59 [oR 100 0, oI a1, oI a2] [] s4) (fun _ => rfl) (rg_if h (fun h => ?_) fun h => ?_)
          · exact rg_end 2 (fun _ => rfl) (by cases h; rfl)
          · refine rg_step 4 (G' := fun f => ev_after (evT f 64 0 [oR 100 0, oI a1, oI a2] [] s4) (fun q => evT f 63 65 [oR 100 0, oI a1, oI a2] (q.2 ++ []) q.1)) (fun _ => rfl) (rg_bd1 h fun s6 hc h => rg_call (q := cvV s6) (T_fItems_fixAddress hc) ?_)
            exact rg_end 2 (fun _ => rfl) (by cases h; rfl)
      · exact rg_end 2 (fun _ => rfl) (by cases h; rfl)
theorem T_fItems_takeReading {s : ev_M} {a1 : Int32} {q : ev_M × Int32} (h : fItems_takeReading s a1 = some q) : RR 65 0 [oR 100 0, oI a1] [] s (cvI q) := by
  refine rg_step 3 (G' := fun f => ev_after (evT f 51 0 [oR 100 0, oI a1] [] s) (fun q => evT f 65 5 [oR 100 0, oI a1] (q.2 ++ []) q.1)) (fun _ => rfl) (rg_bd1 h fun v1 hc h => rg_call (q := cvP s v1) (T_fItems_has hc) ?_)
  refine rg_step 1 (G' := fun f => if v1 = 0 then evT f 65 8 [oR 100 0, oI a1] [] s else evT f 65 11 [oR 100 0, oI a1] [] s) (fun _ => rfl) (rg_if h (fun h => ?_) fun h => ?_)
  · exact rg_end 2 (fun _ => rfl) (by cases h; rfl)
  · refine rg_step 4 (G' := fun f => if (s.1 52 2) = 0 then evT f 65 54 [oR 100 0, oI a1] [] s else evT f 65 21 [oR 100 0, oI a1] [] s) (fun _ => rfl) (rg_if h (fun h => ?_) fun h => ?_)
    · exact rg_end 2 (fun _ => rfl) (by cases h; rfl)
    · refine rg_step 6 (G' := fun f => if inb a1 300 = true then evT f 65 30 [oR 100 0, oI a1] [vI (s.1 (102 + (ix (cI 7))) (ix a1))] s else none) (fun _ => rfl) (rg_gd h fun h => ?_)
      refine rg_step 2 (G' := fun f => if (s.1 (102 + (ix (cI 7))) (ix a1)) = (cI (-1)) then evT f 65 34 [oR 100 0, oI a1] [] s else evT f 65 54 [oR 100 0, oI a1] [] s) (fun _ => rfl) (rg_if h (fun h => ?_) fun h => ?_)
      · refine rg_step 6 (G' := fun f => if inb a1 300 = true then evT f 65 43 [oR 100 0, oI a1] [vI (s.1 (102 + (ix (cI 13))) (ix a1))] s else none) (fun _ => rfl) (rg_gd h fun h => ?_)
        refine rg_step 1 (G' := fun f => if (s.1 (102 + (ix (cI 13))) (ix a1)) = 0 then evT f 65 46 [oR 100 0, oI a1] [] s else evT f 65 54 [oR 100 0, oI a1] [] s) (fun _ => rfl) (rg_if h (fun h => ?_) fun h => ?_)
        · refine rg_step 3 (G' := fun f => ev_after (evT f 59 0 [oR 100 0, oI a1] [] s) (fun q => evT f 65 51 [oR 100 0, oI a1] (q.2 ++ []) q.1)) (fun _ => rfl) (rg_bd1 h fun v2 hc h => rg_call (q := cvP s v2) (T_fItems_isAtHand hc) ?_)
          refine rg_step 1 (G' := fun f => if v2 = 0 then evT f 65 54 [oR 100 0, oI a1] [] s else evT f 65 57 [oR 100 0, oI a1] [] s) (fun _ => rfl) (rg_if h (fun h => ?_) fun h => ?_)
          · exact rg_end 2 (fun _ => rfl) (by cases h; rfl)
          · refine rg_step 3 (G' := fun f => ev_after (evT f 123 0 [oR 9 0, nn] [] s) (fun q => evT f 65 64 [oR 100 0, oI a1] (q.2 ++ []) q.1)) (fun _ => rfl) (rg_bd2 h fun s3 v4 hc h => rg_call (q := cvI (s3, v4)) (T_fLog_admits hc) ?_)
            refine rg_step 1 (G' := fun f => if v4 = 0 then evT f 65 67 [oR 100 0, oI a1] [] s3 else evT f 65 70 [oR 100 0, oI a1] [] s3) (fun _ => rfl) (rg_if h (fun h => ?_) fun h => ?_)
            · exact rg_end 2 (fun _ => rfl) (by cases h; rfl)
            · refine rg_step 5 (G' := fun f => if (s3.1 52 3) = (cI (-1)) then evT f 65 81 [oR 100 0, oI a1] [] s3 else evT f 65 93 [oR 100 0, oI a1] [] s3) (fun _ => rfl) (rg_if h (fun h => ?_) fun h => ?_)
              · refine rg_step 7 (G' := fun f => if inb a1 300 = true then evT f 65 91 [oR 100 0, oI a1] [] (wI s3 (102 + (ix (cI 13))) (ix a1) (cI 1)) else none) (fun _ => rfl) (rg_gd h fun h => rg_ltM h fun s5 h => ?_)
                exact rg_end 2 (fun _ => rfl) (by cases h; rfl)
              · refine rg_step 6 (G' := fun f => ev_after (evT f 64 0 [oR 100 0, oI a1, oI (s3.1 52 3)] [] s3) (fun q => evT f 65 105 [oR 100 0, oI a1] (q.2 ++ []) q.1)) (fun _ => rfl) (rg_bd1 h fun s6 hc h => rg_call (q := cvV s6) (T_fItems_fixAddress hc) ?_)
                exact rg_end 2 (fun _ => rfl) (by cases h; rfl)
        · exact rg_end 2 (fun _ => rfl) (by cases h; rfl)
      · exact rg_end 2 (fun _ => rfl) (by cases h; rfl)
theorem t_fItems_hearClerk_b185 {s : ev_M} {x1 : Int32} {j2 : Option ev_V} {j3 : Option ev_V} {j4 : Option ev_V} {j5 : Option ev_V} {j6 : Option ev_V} {q : ev_M × Int32} (h : fItems_hearClerk_b185 s x1 = some q) : RR 66 185 [oR 100 0, oI x1, j2, j3, j4, j5, j6] [] s (cvI q) := by
  refine rg_step 7 (G' := fun f => if inb x1 300 = true then evT f 66 195 [oR 100 0, oI x1, nn, nn, nn, nn, nn] [] (wI s (102 + (ix (cI 13))) (ix x1) (cI 2)) else none) (fun _ => rfl) (rg_gd h fun h => rg_ltM h fun s1 h => ?_)
  exact rg_end 2 (fun _ => rfl) (by cases h; rfl)
theorem t_fItems_hearClerk_b213 {s : ev_M} {x1 : Int32} {x3 : Int32} {y1 : Int32} {j0 : Option ev_V} {j2 : Option ev_V} {j4 : Option ev_V} {j5 : Option ev_V} {j6 : Option ev_V} {q : ev_M × Int32} (h : fItems_hearClerk_b213 s x1 x3 y1 = some q) : RR 66 213 [j0, oI x1, j2, oI x3, j4, j5, j6] [vI y1, vR 101 0] s (cvI q) := by
  refine rg_step 1 (G' := fun f => if inb y1 22 = true then evT f 66 214 [nn, oI x1, nn, oI x3, nn, nn, nn] [vR 102 (ix y1)] s else none) (fun _ => rfl) (rg_gd h fun h => ?_)
  refine rg_step 3 (G' := fun f => if inb x1 300 = true then evT f 66 217 [nn, oI x1, nn, oI x3, nn, nn, nn] [] (wI s (102 + (ix y1)) (ix x1) x3) else none) (fun _ => rfl) (rg_gd h fun h => rg_ltM h fun s2 h => ?_)
  exact rg_end 2 (fun _ => rfl) (by cases h; rfl)
theorem t_fItems_hearClerk_b174 {s : ev_M} {x1 : Int32} {x3 : Int32} {x5 : Int32} {x6 : Int32} {j2 : Option ev_V} {j4 : Option ev_V} {q : ev_M × Int32} (h : fItems_hearClerk_b174 s x1 x3 x5 x6 = some q) : RR 66 174 [oR 100 0, oI x1, j2, oI x3, j4, oI x5, oI x6] [] s (cvI q) := by
  refine rg_step 2 (G' := fun f => if x6 = 0 then evT f 66 179 [oR 100 0, oI x1, nn, oI x3, nn, oI x5, oI x6] [] s else evT f 66 185 [oR 100 0, oI x1, nn, oI x3, nn, oI x5, oI x6] [] s) (fun _ => rfl) (rg_if h (fun h => ?_) fun h => ?_)
  · refine rg_step 3 (G' := fun f => if x5 < (cI 2) then evT f 66 197 [oR 100 0, oI x1, nn, oI x3, nn, oI x5, oI x6] [] s else evT f 66 185 [oR 100 0, oI x1, nn, oI x3, nn, oI x5, oI x6] [] s) (fun _ => rfl) (rg_if h (fun h => ?_) fun h => ?_)
    · refine rg_step 4 (G' := fun f => if x5 = 0 then evT f 66 206 [oR 100 0, oI x1, nn, oI x3, nn, oI x5, oI x6] [vR 101 0] s else evT f 66 211 [oR 100 0, oI x1, nn, oI x3, nn, oI x5, oI x6] [vR 101 0] s) (fun _ => rfl) (rg_if h (fun h => ?_) fun h => ?_)
      · exact rg_step 2 (G' := fun f => evT f 66 213 [oR 100 0, oI x1, nn, oI x3, nn, oI x5, oI x6] [vI (cI 20), vR 101 0] s) (fun _ => rfl) ((t_fItems_hearClerk_b213) h)
      · exact rg_step 1 (G' := fun f => evT f 66 213 [oR 100 0, oI x1, nn, oI x3, nn, oI x5, oI x6] [vI (cI 21), vR 101 0] s) (fun _ => rfl) ((t_fItems_hearClerk_b213) h)
    · exact (t_fItems_hearClerk_b185) h
  · exact (t_fItems_hearClerk_b185) h
theorem t_fItems_hearClerk_b139 {s : ev_M} {x1 : Int32} {x2 : Int32} {x3 : Int32} {x4 : Int32} {x5 : Int32} {y0 : Int32} {j6 : Option ev_V} {q : ev_M × Int32} (h : fItems_hearClerk_b139 s x1 x2 x3 x4 x5 y0 = some q) : RR 66 139 [oR 100 0, oI x1, oI x2, oI x3, oI x4, oI x5, j6] [vI y0] s (cvI q) := by
  refine rg_step 12 (G' := fun f => if inb x1 300 = true then evT f 66 156 [oR 100 0, oI x1, oI x2, oI x3, oI x4, oI x5, oI y0] [] (wI s (102 + (ix (cI 19))) (ix x1) (x4 ||| ((cI 1) <<< (x2 &&& 31)))) else none) (fun _ => rfl) (rg_gd h fun h => rg_ltM h fun s3 h => ?_)
  refine rg_step 2 (G' := fun f => if y0 = 0 then evT f 66 174 [oR 100 0, oI x1, oI x2, oI x3, oI x4, oI x5, oI y0] [] s3 else evT f 66 161 [oR 100 0, oI x1, oI x2, oI x3, oI x4, oI x5, oI y0] [] s3) (fun _ => rfl) (rg_if h (fun h => ?_) fun h => ?_)
  · exact (t_fItems_hearClerk_b174) h
  · refine rg_step 3 (G' := fun f => if x3 = (cI (-1)) then evT f 66 174 [oR 100 0, oI x1, oI x2, oI x3, oI x4, oI x5, oI y0] [] s3 else evT f 66 166 [oR 100 0, oI x1, oI x2, oI x3, oI x4, oI x5, oI y0] [] s3) (fun _ => rfl) (rg_if h (fun h => ?_) fun h => ?_)
    · exact (t_fItems_hearClerk_b174) h
    · refine rg_step 4 (G' := fun f => ev_after (evT f 64 0 [oR 100 0, oI x1, oI x3] [] s3) (fun q => evT f 66 172 [oR 100 0, oI x1, oI x2, oI x3, oI x4, oI x5, oI y0] (q.2 ++ []) q.1)) (fun _ => rfl) (rg_bd1 h fun s4 hc h => rg_call (q := cvV s4) (T_fItems_fixAddress hc) ?_)
      exact rg_end 2 (fun _ => rfl) (by cases h; rfl)
theorem t_fItems_hearClerk_b134 {s : ev_M} {x1 : Int32} {x2 : Int32} {x3 : Int32} {x4 : Int32} {x5 : Int32} {j6 : Option ev_V} {q : ev_M × Int32} (h : fItems_hearClerk_b134 s x1 x2 x3 x4 x5 = some q) : RR 66 134 [oR 100 0, oI x1, oI x2, oI x3, oI x4, oI x5, j6] [] s (cvI q) := by
  exact rg_step 2 (G' := fun f => evT f 66 139 [oR 100 0, oI x1, oI x2, oI x3, oI x4, oI x5, nn] [vI (cI 1)] s) (fun _ => rfl) ((t_fItems_hearClerk_b139) h)
theorem t_fItems_hearClerk_b138 {s : ev_M} {x1 : Int32} {x2 : Int32} {x3 : Int32} {x4 : Int32} {x5 : Int32} {j6 : Option ev_V} {q : ev_M × Int32} (h : fItems_hearClerk_b138 s x1 x2 x3 x4 x5 = some q) : RR 66 138 [oR 100 0, oI x1, oI x2, oI x3, oI x4, oI x5, j6] [] s (cvI q) := by
  exact rg_step 1 (G' := fun f => evT f 66 139 [oR 100 0, oI x1, oI x2, oI x3, oI x4, oI x5, nn] [vI (cI 0)] s) (fun _ => rfl) ((t_fItems_hearClerk_b139) h)
theorem t_fItems_hearClerk_b115 {s : ev_M} {x1 : Int32} {x2 : Int32} {x3 : Int32} {x4 : Int32} {x5 : Int32} {j6 : Option ev_V} {q : ev_M × Int32} (h : fItems_hearClerk_b115 s x1 x2 x3 x4 x5 = some q) : RR 66 115 [oR 100 0, oI x1, oI x2, oI x3, oI x4, oI x5, j6] [] s (cvI q) := by
  refine rg_step 3 (G' := fun f => if x5 < (cI 2) then evT f 66 138 [oR 100 0, oI x1, oI x2, oI x3, oI x4, oI x5, nn] [] s else evT f 66 121 [oR 100 0, oI x1, oI x2, oI x3, oI x4, oI x5, nn] [] s) (fun _ => rfl) (rg_if h (fun h => ?_) fun h => ?_)
  · exact (t_fItems_hearClerk_b138) h
  · refine rg_step 6 (G' := fun f => if inb x1 300 = true then evT f 66 130 [oR 100 0, oI x1, oI x2, oI x3, oI x4, oI x5, nn] [vI (s.1 (102 + (ix (cI 21))) (ix x1))] s else none) (fun _ => rfl) (rg_gd h fun h => ?_)
    refine rg_step 2 (G' := fun f => if (s.1 (102 + (ix (cI 21))) (ix x1)) = x3 then evT f 66 134 [oR 100 0, oI x1, oI x2, oI x3, oI x4, oI x5, nn] [] s else evT f 66 138 [oR 100 0, oI x1, oI x2, oI x3, oI x4, oI x5, nn] [] s) (fun _ => rfl) (rg_if h (fun h => ?_) fun h => ?_)
    · exact (t_fItems_hearClerk_b134) h
    · exact (t_fItems_hearClerk_b138) h
theorem t_fItems_hearClerk_b27 {s : ev_M} {x1 : Int32} {x2 : Int32} {x3 : Int32} {j4 : Option ev_V} {j5 : Option ev_V} {j6 : Option ev_V} {q : ev_M × Int32} (h : fItems_hearClerk_b27 s x1 x2 x3 = some q) : RR 66 27 [oR 100 0, oI x1, oI x2, oI x3, j4, j5, j6] [] s (cvI q) := by
  refine rg_step 4 (G' := fun f => ev_after (evT f 308 0 [oI x2, oI (cI 0), oI (cI 9)] [] s) (fun q => evT f 66 34 [oR 100 0, oI x1, oI x2, oI x3, nn, nn, nn] (q.2 ++ []) q.1)) (fun _ => rfl) (rg_bd1 h fun v5 hc h => rg_call (q := cvP s v5) (T_fPH_outside hc) ?_)
  refine rg_step 1 (G' := fun f => if v5 = 0 then evT f 66 40 [oR 100 0, oI x1, oI x2, oI x3, nn, nn, nn] [] s else evT f 66 37 [oR 100 0, oI x1, oI x2, oI x3, nn, nn, nn] [] s) (fun _ => rfl) (rg_if h (fun h => ?_) fun h => ?_)
  · refine rg_step 6 (G' := fun f => if inb x1 300 = true then evT f 66 49 [oR 100 0, oI x1, oI x2, oI x3, nn, nn, nn] [vI (s.1 (102 + (ix (cI 19))) (ix x1))] s else none) (fun _ => rfl) (rg_gd h fun h => ?_)
    refine rg_step 1 (G' := fun f => evT f 66 51 [oR 100 0, oI x1, oI x2, oI x3, oI (s.1 (102 + (ix (cI 19))) (ix x1)), nn, nn] [] s) (fun _ => rfl) (rg_ltI (P := fun v6 => RG (fun f => evT f 66 51 [oR 100 0, oI x1, oI x2, oI x3, oI v6, nn, nn] [] s) (cvI q)) h fun v6 h => ?_)
    refine rg_step 6 (G' := fun f => if inb x1 300 = true then evT f 66 60 [oR 100 0, oI x1, oI x2, oI x3, oI v6, nn, nn] [vI (s.1 (102 + (ix (cI 13))) (ix x1))] s else none) (fun _ => rfl) (rg_gd h fun h => ?_)
    refine rg_step 2 (G' := fun f => if (s.1 (102 + (ix (cI 13))) (ix x1)) = (cI 1) then evT f 66 64 [oR 100 0, oI x1, oI x2, oI x3, oI v6, nn, nn] [] s else evT f 66 73 [oR 100 0, oI x1, oI x2, oI x3, oI v6, nn, nn] [] s) (fun _ => rfl) (rg_if h (fun h => ?_) fun h => ?_)
    · refine rg_step 6 (G' := fun f => if ((v6 >>> (x2 &&& 31)) &&& (cI 1)) = 0 then evT f 66 76 [oR 100 0, oI x1, oI x2, oI x3, oI v6, nn, nn] [] s else evT f 66 73 [oR 100 0, oI x1, oI x2, oI x3, oI v6, nn, nn] [] s) (fun _ => rfl) (rg_if h (fun h => ?_) fun h => ?_)
      · refine rg_step 3 (G' := fun f => ev_after (evT f 123 0 [oR 9 0, nn] [] s) (fun q => evT f 66 83 [oR 100 0, oI x1, oI x2, oI x3, oI v6, nn, nn] (q.2 ++ []) q.1)) (fun _ => rfl) (rg_bd2 h fun s7 v8 hc h => rg_call (q := cvI (s7, v8)) (T_fLog_admits hc) ?_)
        refine rg_step 1 (G' := fun f => if v8 = 0 then evT f 66 86 [oR 100 0, oI x1, oI x2, oI x3, oI v6, nn, nn] [] s7 else evT f 66 89 [oR 100 0, oI x1, oI x2, oI x3, oI v6, nn, nn] [] s7) (fun _ => rfl) (rg_if h (fun h => ?_) fun h => ?_)
        · exact rg_end 2 (fun _ => rfl) (by cases h; rfl)
        · refine rg_step 2 (G' := fun f => ev_after (evT f 531 0 [oI v6] [] s7) (fun q => evT f 66 94 [oR 100 0, oI x1, oI x2, oI x3, oI v6, nn, nn] (q.2 ++ []) q.1)) (fun _ => rfl) (rg_bd1 h fun v9 hc h => rg_call (q := cvP s7 v9) (T_fInt_bitCount hc) ?_)
          refine rg_step 4 (G' := fun f => if v9 < (cI 1) then evT f 66 115 [oR 100 0, oI x1, oI x2, oI x3, oI v6, oI v9, nn] [] s7 else evT f 66 102 [oR 100 0, oI x1, oI x2, oI x3, oI v6, oI v9, nn] [] s7) (fun _ => rfl) (rg_if h (fun h => ?_) fun h => ?_)
          · exact (t_fItems_hearClerk_b115) h
          · refine rg_step 6 (G' := fun f => if inb x1 300 = true then evT f 66 111 [oR 100 0, oI x1, oI x2, oI x3, oI v6, oI v9, nn] [vI (s7.1 (102 + (ix (cI 20))) (ix x1))] s7 else none) (fun _ => rfl) (rg_gd h fun h => ?_)
            refine rg_step 2 (G' := fun f => if (s7.1 (102 + (ix (cI 20))) (ix x1)) = x3 then evT f 66 134 [oR 100 0, oI x1, oI x2, oI x3, oI v6, oI v9, nn] [] s7 else evT f 66 115 [oR 100 0, oI x1, oI x2, oI x3, oI v6, oI v9, nn] [] s7) (fun _ => rfl) (rg_if h (fun h => ?_) fun h => ?_)
            · exact (t_fItems_hearClerk_b134) h
            · exact (t_fItems_hearClerk_b115) h
      · exact rg_end 2 (fun _ => rfl) (by cases h; rfl)
    · exact rg_end 2 (fun _ => rfl) (by cases h; rfl)
  · exact rg_end 2 (fun _ => rfl) (by cases h; rfl)
theorem T_fItems_hearClerk {s : ev_M} {a1 : Int32} {a2 : Int32} {a3 : Int32} {q : ev_M × Int32} (h : fItems_hearClerk s a1 a2 a3 = some q) : RR 66 0 [oR 100 0, oI a1, oI a2, oI a3, nn, nn, nn] [] s (cvI q) := by
  refine rg_step 3 (G' := fun f => ev_after (evT f 51 0 [oR 100 0, oI a1] [] s) (fun q => evT f 66 5 [oR 100 0, oI a1, oI a2, oI a3, nn, nn, nn] (q.2 ++ []) q.1)) (fun _ => rfl) (rg_bd1 h fun v10 hc h => rg_call (q := cvP s v10) (T_fItems_has hc) ?_)
  refine rg_step 1 (G' := fun f => if v10 = 0 then evT f 66 24 [oR 100 0, oI a1, oI a2, oI a3, nn, nn, nn] [] s else evT f 66 8 [oR 100 0, oI a1, oI a2, oI a3, nn, nn, nn] [] s) (fun _ => rfl) (rg_if h (fun h => ?_) fun h => ?_)
  · exact rg_end 2 (fun _ => rfl) (by cases h; rfl)
  · refine rg_step 3 (G' := fun f => if a3 = (cI (-1)) then evT f 66 27 [oR 100 0, oI a1, oI a2, oI a3, nn, nn, nn] [] s else evT f 66 13 [oR 100 0, oI a1, oI a2, oI a3, nn, nn, nn] [] s) (fun _ => rfl) (rg_if h (fun h => ?_) fun h => ?_)
    · exact (t_fItems_hearClerk_b27) h
    · refine rg_step 4 (G' := fun f => ev_after (evT f 28 0 [oR 30 0, oI a3] [] s) (fun q => evT f 66 21 [oR 100 0, oI a1, oI a2, oI a3, nn, nn, nn] (q.2 ++ []) q.1)) (fun _ => rfl) (rg_bd1 h fun v11 hc h => rg_call (q := cvP s v11) (T_fBook_hasPoint hc) ?_)
      refine rg_step 1 (G' := fun f => if v11 = 0 then evT f 66 24 [oR 100 0, oI a1, oI a2, oI a3, nn, nn, nn] [] s else evT f 66 27 [oR 100 0, oI a1, oI a2, oI a3, nn, nn, nn] [] s) (fun _ => rfl) (rg_if h (fun h => ?_) fun h => ?_)
      · exact rg_end 2 (fun _ => rfl) (by cases h; rfl)
      · exact (t_fItems_hearClerk_b27) h
theorem T_fBook_hasPlace {s : ev_M} {a1 : Int32} {q : Int32} (h : fBook_hasPlace s a1 = some q) : RR 27 0 [oR 30 0, oI a1] [] s (cvP s q) := by
  refine rg_step 7 (G' := fun f => ev_after (evT f 308 0 [oI a1, oI (cI 0), oI ((s.1 30 2) - (cI 1))] [] s) (fun q => evT f 27 11 [oR 30 0, oI a1] (q.2 ++ []) q.1)) (fun _ => rfl) (rg_bd1 h fun v1 hc h => rg_call (q := cvP s v1) (T_fPH_outside hc) ?_)
  refine rg_step 1 (G' := fun f => if v1 = 0 then evT f 27 14 [oR 30 0, oI a1] [] s else evT f 27 18 [oR 30 0, oI a1] [] s) (fun _ => rfl) (rg_if h (fun h => ?_) fun h => ?_)
  · exact rg_end 3 (fun _ => rfl) (by cases h; rfl)
  · exact rg_end 2 (fun _ => rfl) (by cases h; rfl)
theorem T_fItems_comeInAt {s : ev_M} {a1 : Int32} {a2 : Int32} {q : ev_M} (h : fItems_comeInAt s a1 a2 = some q) : RR 56 0 [oR 100 0, oI a1, oI a2] [] s (cvV q) := by
  refine rg_step 7 (G' := fun f => if inb a1 300 = true then evT f 56 10 [oR 100 0, oI a1, oI a2] [] (wI s (102 + (ix (cI 8))) (ix a1) a2) else none) (fun _ => rfl) (rg_gd h fun h => rg_ltM h fun s1 h => ?_)
  refine rg_step 4 (G' := fun f => ev_after (evT f 55 0 [oR 100 0, oI a1, oI (cI 1)] [] s1) (fun q => evT f 56 16 [oR 100 0, oI a1, oI a2] (q.2 ++ []) q.1)) (fun _ => rfl) (rg_bd1 h fun s2 hc h => rg_call (q := cvV s2) (T_fItems_come hc) ?_)
  exact rg_end 1 (fun _ => rfl) (by cases h; rfl)
theorem T_fItems_postAt {s : ev_M} {a1 : Int32} {a2 : Int32} {q : ev_M × Int32} (h : fItems_postAt s a1 a2 = some q) : RR 67 0 [oR 100 0, oI a1, oI a2] [] s (cvI q) := by
  refine rg_step 3 (G' := fun f => ev_after (evT f 51 0 [oR 100 0, oI a1] [] s) (fun q => evT f 67 5 [oR 100 0, oI a1, oI a2] (q.2 ++ []) q.1)) (fun _ => rfl) (rg_bd1 h fun v1 hc h => rg_call (q := cvP s v1) (T_fItems_has hc) ?_)
  refine rg_step 1 (G' := fun f => if v1 = 0 then evT f 67 19 [oR 100 0, oI a1, oI a2] [] s else evT f 67 8 [oR 100 0, oI a1, oI a2] [] s) (fun _ => rfl) (rg_if h (fun h => ?_) fun h => ?_)
  · exact rg_end 2 (fun _ => rfl) (by cases h; rfl)
  · refine rg_step 4 (G' := fun f => ev_after (evT f 27 0 [oR 30 0, oI a2] [] s) (fun q => evT f 67 16 [oR 100 0, oI a1, oI a2] (q.2 ++ []) q.1)) (fun _ => rfl) (rg_bd1 h fun v2 hc h => rg_call (q := cvP s v2) (T_fBook_hasPlace hc) ?_)
    refine rg_step 1 (G' := fun f => if v2 = 0 then evT f 67 19 [oR 100 0, oI a1, oI a2] [] s else evT f 67 22 [oR 100 0, oI a1, oI a2] [] s) (fun _ => rfl) (rg_if h (fun h => ?_) fun h => ?_)
    · exact rg_end 2 (fun _ => rfl) (by cases h; rfl)
    · refine rg_step 4 (G' := fun f => ev_after (evT f 52 0 [oR 100 0, oI a1, oI (cI 0)] [] s) (fun q => evT f 67 28 [oR 100 0, oI a1, oI a2] (q.2 ++ []) q.1)) (fun _ => rfl) (rg_bd1 h fun v3 hc h => rg_call (q := cvP s v3) (T_fItems_is hc) ?_)
      refine rg_step 1 (G' := fun f => if v3 = 0 then evT f 67 31 [oR 100 0, oI a1, oI a2] [] s else evT f 67 34 [oR 100 0, oI a1, oI a2] [] s) (fun _ => rfl) (rg_if h (fun h => ?_) fun h => ?_)
      · exact rg_end 2 (fun _ => rfl) (by cases h; rfl)
      · refine rg_step 3 (G' := fun f => ev_after (evT f 123 0 [oR 9 0, nn] [] s) (fun q => evT f 67 41 [oR 100 0, oI a1, oI a2] (q.2 ++ []) q.1)) (fun _ => rfl) (rg_bd2 h fun s4 v5 hc h => rg_call (q := cvI (s4, v5)) (T_fLog_admits hc) ?_)
        refine rg_step 1 (G' := fun f => if v5 = 0 then evT f 67 44 [oR 100 0, oI a1, oI a2] [] s4 else evT f 67 47 [oR 100 0, oI a1, oI a2] [] s4) (fun _ => rfl) (rg_if h (fun h => ?_) fun h => ?_)
        · exact rg_end 2 (fun _ => rfl) (by cases h; rfl)
        · refine rg_step 4 (G' := fun f => ev_after (evT f 56 0 [oR 100 0, oI a1, oI a2] [] s4) (fun q => evT f 67 53 [oR 100 0, oI a1, oI a2] (q.2 ++ []) q.1)) (fun _ => rfl) (rg_bd1 h fun s6 hc h => rg_call (q := cvV s6) (T_fItems_comeInAt hc) ?_)
          exact rg_end 2 (fun _ => rfl) (by cases h; rfl)
theorem T_fRounds_setMachine {s : ev_M} {a1 : Int32} {a2 : Int32} {a3 : Int32} {a4 : Int32} {q : ev_M × Int32} (h : fRounds_setMachine s a1 a2 a3 a4 = some q) : RR 172 0 [oR 138 0, oI a1, oI a2, oI a3, oI a4] [] s (cvI q) := by
  refine rg_step 4 (G' := fun f => ev_after (evT f 308 0 [oI a1, oI (cI 2), oI (cI 16)] [] s) (fun q => evT f 172 7 [oR 138 0, oI a1, oI a2, oI a3, oI a4] (q.2 ++ []) q.1)) (fun _ => rfl) (rg_bd1 h fun v1 hc h => rg_call (q := cvP s v1) (T_fPH_outside hc) ?_)
  refine rg_step 1 (G' := fun f => if v1 = 0 then evT f 172 10 [oR 138 0, oI a1, oI a2, oI a3, oI a4] [] s else evT f 172 44 [oR 138 0, oI a1, oI a2, oI a3, oI a4] [] s) (fun _ => rfl) (rg_if h (fun h => ?_) fun h => ?_)
  · refine rg_step 4 (G' := fun f => ev_after (evT f 308 0 [oI a2, oI (cI 1), oI (cI 2000)] [] s) (fun q => evT f 172 18 [oR 138 0, oI a1, oI a2, oI a3, oI a4] (q.2 ++ []) q.1)) (fun _ => rfl) (rg_bd1 h fun v2 hc h => rg_call (q := cvP s v2) (T_fPH_outside hc) ?_)
    refine rg_step 1 (G' := fun f => if v2 = 0 then evT f 172 21 [oR 138 0, oI a1, oI a2, oI a3, oI a4] [] s else evT f 172 44 [oR 138 0, oI a1, oI a2, oI a3, oI a4] [] s) (fun _ => rfl) (rg_if h (fun h => ?_) fun h => ?_)
    · refine rg_step 4 (G' := fun f => ev_after (evT f 308 0 [oI a3, oI (cI 1), oI (cI 500)] [] s) (fun q => evT f 172 29 [oR 138 0, oI a1, oI a2, oI a3, oI a4] (q.2 ++ []) q.1)) (fun _ => rfl) (rg_bd1 h fun v3 hc h => rg_call (q := cvP s v3) (T_fPH_outside hc) ?_)
      refine rg_step 1 (G' := fun f => if v3 = 0 then evT f 172 32 [oR 138 0, oI a1, oI a2, oI a3, oI a4] [] s else evT f 172 44 [oR 138 0, oI a1, oI a2, oI a3, oI a4] [] s) (fun _ => rfl) (rg_if h (fun h => ?_) fun h => ?_)
      · refine rg_step 4 (G' := fun f => ev_after (evT f 308 0 [oI a4, oI (cI 0), oI (cI 4000)] [] s) (fun q => evT f 172 41 [oR 138 0, oI a1, oI a2, oI a3, oI a4] (q.2 ++ []) q.1)) (fun _ => rfl) (rg_bd1 h fun v4 hc h => rg_call (q := cvP s v4) (T_fPH_outside hc) ?_)
        refine rg_step 1 (G' := fun f => if v4 = 0 then evT f 172 47 [oR 138 0, oI a1, oI a2, oI a3, oI a4] [] s else evT f 172 44 [oR 138 0, oI a1, oI a2, oI a3, oI a4] [] s) (fun _ => rfl) (rg_if h (fun h => ?_) fun h => ?_)
        · refine rg_step 3 (G' := fun f => ev_after (evT f 123 0 [oR 9 0, nn] [] s) (fun q => evT f 172 54 [oR 138 0, oI a1, oI a2, oI a3, oI a4] (q.2 ++ []) q.1)) (fun _ => rfl) (rg_bd2 h fun s5 v6 hc h => rg_call (q := cvI (s5, v6)) (T_fLog_admits hc) ?_)
          refine rg_step 1 (G' := fun f => if v6 = 0 then evT f 172 57 [oR 138 0, oI a1, oI a2, oI a3, oI a4] [] s5 else evT f 172 60 [oR 138 0, oI a1, oI a2, oI a3, oI a4] [] s5) (fun _ => rfl) (rg_if h (fun h => ?_) fun h => ?_)
          · exact rg_end 2 (fun _ => rfl) (by cases h; rfl)
          · refine rg_step 5 (G' := fun f => evT f 172 67 [oR 138 0, oI a1, oI a2, oI a3, oI a4] [] (wI s5 172 (ix (cI 0)) a1)) (fun _ => rfl) (rg_ltM h fun s7 h => ?_)
            refine rg_step 5 (G' := fun f => evT f 172 74 [oR 138 0, oI a1, oI a2, oI a3, oI a4] [] (wI s7 172 (ix (cI 1)) a2)) (fun _ => rfl) (rg_ltM h fun s8 h => ?_)
            refine rg_step 5 (G' := fun f => evT f 172 81 [oR 138 0, oI a1, oI a2, oI a3, oI a4] [] (wI s8 172 (ix (cI 2)) a3)) (fun _ => rfl) (rg_ltM h fun s9 h => ?_)
            refine rg_step 5 (G' := fun f => evT f 172 89 [oR 138 0, oI a1, oI a2, oI a3, oI a4] [] (wI s9 172 (ix (cI 3)) a4)) (fun _ => rfl) (rg_ltM h fun s10 h => ?_)
            exact rg_end 2 (fun _ => rfl) (by cases h; rfl)
        · exact rg_end 2 (fun _ => rfl) (by cases h; rfl)
      · exact rg_end 2 (fun _ => rfl) (by cases h; rfl)
    · exact rg_end 2 (fun _ => rfl) (by cases h; rfl)
  · exact rg_end 2 (fun _ => rfl) (by cases h; rfl)
theorem T_fRounds_make {s : ev_M} {a1 : Int32} {a2 : Int32} {a3 : Int32} {q : ev_M × Int32} (h : fRounds_make s a1 a2 a3 = some q) : RR 173 0 [oR 138 0, oI a1, oI a2, oI a3] [] s (cvI q) := by
  refine rg_step 4 (G' := fun f => ev_after (evT f 27 0 [oR 30 0, oI a1] [] s) (fun q => evT f 173 8 [oR 138 0, oI a1, oI a2, oI a3] (q.2 ++ []) q.1)) (fun _ => rfl) (rg_bd1 h fun v1 hc h => rg_call (q := cvP s v1) (T_fBook_hasPlace hc) ?_)
  refine rg_step 1 (G' := fun f => if v1 = 0 then evT f 173 11 [oR 138 0, oI a1, oI a2, oI a3] [] s else evT f 173 14 [oR 138 0, oI a1, oI a2, oI a3] [] s) (fun _ => rfl) (rg_if h (fun h => ?_) fun h => ?_)
  · exact rg_end 2 (fun _ => rfl) (by cases h; rfl)
  · refine rg_step 4 (G' := fun f => ev_after (evT f 308 0 [oI a2, oI (cI (-2000)), oI (cI 2000)] [] s) (fun q => evT f 173 24 [oR 138 0, oI a1, oI a2, oI a3] (q.2 ++ []) q.1)) (fun _ => rfl) (rg_bd1 h fun v2 hc h => rg_call (q := cvP s v2) (T_fPH_outside hc) ?_)
    refine rg_step 1 (G' := fun f => if v2 = 0 then evT f 173 27 [oR 138 0, oI a1, oI a2, oI a3] [] s else evT f 173 40 [oR 138 0, oI a1, oI a2, oI a3] [] s) (fun _ => rfl) (rg_if h (fun h => ?_) fun h => ?_)
    · refine rg_step 4 (G' := fun f => ev_after (evT f 308 0 [oI a3, oI (cI (-2000)), oI (cI 2000)] [] s) (fun q => evT f 173 37 [oR 138 0, oI a1, oI a2, oI a3] (q.2 ++ []) q.1)) (fun _ => rfl) (rg_bd1 h fun v3 hc h => rg_call (q := cvP s v3) (T_fPH_outside hc) ?_)
      refine rg_step 1 (G' := fun f => if v3 = 0 then evT f 173 43 [oR 138 0, oI a1, oI a2, oI a3] [] s else evT f 173 40 [oR 138 0, oI a1, oI a2, oI a3] [] s) (fun _ => rfl) (rg_if h (fun h => ?_) fun h => ?_)
      · refine rg_step 4 (G' := fun f => if (s.1 138 3) < (cI 12) then evT f 173 52 [oR 138 0, oI a1, oI a2, oI a3] [] s else evT f 173 62 [oR 138 0, oI a1, oI a2, oI a3] [] s) (fun _ => rfl) (rg_if h (fun h => ?_) fun h => ?_)
        · refine rg_step 3 (G' := fun f => ev_after (evT f 123 0 [oR 9 0, nn] [] s) (fun q => evT f 173 59 [oR 138 0, oI a1, oI a2, oI a3] (q.2 ++ []) q.1)) (fun _ => rfl) (rg_bd2 h fun s4 v5 hc h => rg_call (q := cvI (s4, v5)) (T_fLog_admits hc) ?_)
          refine rg_step 1 (G' := fun f => if v5 = 0 then evT f 173 62 [oR 138 0, oI a1, oI a2, oI a3] [] s4 else evT f 173 65 [oR 138 0, oI a1, oI a2, oI a3] [] s4) (fun _ => rfl) (rg_if h (fun h => ?_) fun h => ?_)
          · exact rg_end 2 (fun _ => rfl) (by cases h; rfl)
          · refine rg_step 8 (G' := fun f => if inb (s4.1 138 3) 12 = true then evT f 173 77 [oR 138 0, oI a1, oI a2, oI a3] [] (wI s4 (140 + (ix (cI 0))) (ix (s4.1 138 3)) a1) else none) (fun _ => rfl) (rg_gd h fun h => rg_ltM h fun s6 h => ?_)
            refine rg_step 8 (G' := fun f => if inb (s6.1 138 3) 12 = true then evT f 173 89 [oR 138 0, oI a1, oI a2, oI a3] [] (wI s6 (140 + (ix (cI 1))) (ix (s6.1 138 3)) a2) else none) (fun _ => rfl) (rg_gd h fun h => rg_ltM h fun s7 h => ?_)
            refine rg_step 8 (G' := fun f => if inb (s7.1 138 3) 12 = true then evT f 173 101 [oR 138 0, oI a1, oI a2, oI a3] [] (wI s7 (140 + (ix (cI 2))) (ix (s7.1 138 3)) a3) else none) (fun _ => rfl) (rg_gd h fun h => rg_ltM h fun s8 h => ?_)
            refine rg_step 8 (G' := fun f => if inb (s8.1 138 3) 12 = true then evT f 173 113 [oR 138 0, oI a1, oI a2, oI a3] [] (wI s8 (140 + (ix (cI 3))) (ix (s8.1 138 3)) (cI 0)) else none) (fun _ => rfl) (rg_gd h fun h => rg_ltM h fun s9 h => ?_)
            refine rg_step 8 (G' := fun f => if inb (s9.1 138 3) 12 = true then evT f 173 125 [oR 138 0, oI a1, oI a2, oI a3] [] (wI s9 (140 + (ix (cI 4))) (ix (s9.1 138 3)) (cI 0)) else none) (fun _ => rfl) (rg_gd h fun h => rg_ltM h fun s10 h => ?_)
            refine rg_step 7 (G' := fun f => evT f 173 136 [oR 138 0, oI a1, oI a2, oI a3] [vI (s10.1 138 3)] (wI s10 138 3 ((s10.1 138 3) + (cI 1)))) (fun _ => rfl) (rg_ltM h fun s11 h => ?_)
            exact rg_end 1 (fun _ => rfl) (by cases h; rfl)
        · exact rg_end 2 (fun _ => rfl) (by cases h; rfl)
      · exact rg_end 2 (fun _ => rfl) (by cases h; rfl)
    · exact rg_end 2 (fun _ => rfl) (by cases h; rfl)
theorem T_fRounds_has {s : ev_M} {a1 : Int32} {q : Int32} (h : fRounds_has s a1 = some q) : RR 168 0 [oR 138 0, oI a1] [] s (cvP s q) := by
  refine rg_step 7 (G' := fun f => ev_after (evT f 308 0 [oI a1, oI (cI 0), oI ((s.1 138 3) - (cI 1))] [] s) (fun q => evT f 168 11 [oR 138 0, oI a1] (q.2 ++ []) q.1)) (fun _ => rfl) (rg_bd1 h fun v1 hc h => rg_call (q := cvP s v1) (T_fPH_outside hc) ?_)
  refine rg_step 1 (G' := fun f => if v1 = 0 then evT f 168 14 [oR 138 0, oI a1] [] s else evT f 168 18 [oR 138 0, oI a1] [] s) (fun _ => rfl) (rg_if h (fun h => ?_) fun h => ?_)
  · exact rg_end 3 (fun _ => rfl) (by cases h; rfl)
  · exact rg_end 2 (fun _ => rfl) (by cases h; rfl)
theorem T_fBook_placeOfPoint {s : ev_M} {a1 : Int32} {q : Int32} (h : fBook_placeOfPoint s a1 = some q) : RR 30 0 [oR 30 0, oI a1] [] s (cvP s q) := by
  refine rg_step 10 (G' := fun f => if inb a1 120 = true then evT f 30 14 [oR 30 0, oI a1] [vI (s.1 (44 + (ix (cI 0))) (ix a1)), vR 33 (ix (cI 3))] s else none) (fun _ => rfl) (rg_gd h fun h => ?_)
  refine rg_step 1 (G' := fun f => if inb (s.1 (44 + (ix (cI 0))) (ix a1)) 30 = true then evT f 30 15 [oR 30 0, oI a1] [vI (s.1 (33 + (ix (cI 3))) (ix (s.1 (44 + (ix (cI 0))) (ix a1))))] s else none) (fun _ => rfl) (rg_gd h fun h => ?_)
  exact rg_end 1 (fun _ => rfl) (by cases h; rfl)
theorem T_fRounds_addStop {s : ev_M} {a1 : Int32} {a2 : Int32} {q : ev_M × Int32} (h : fRounds_addStop s a1 a2 = some q) : RR 174 0 [oR 138 0, oI a1, oI a2] [] s (cvI q) := by
  refine rg_step 4 (G' := fun f => ev_after (evT f 28 0 [oR 30 0, oI a1] [] s) (fun q => evT f 174 8 [oR 138 0, oI a1, oI a2] (q.2 ++ []) q.1)) (fun _ => rfl) (rg_bd1 h fun v1 hc h => rg_call (q := cvP s v1) (T_fBook_hasPoint hc) ?_)
  refine rg_step 1 (G' := fun f => if v1 = 0 then evT f 174 19 [oR 138 0, oI a1, oI a2] [] s else evT f 174 11 [oR 138 0, oI a1, oI a2] [] s) (fun _ => rfl) (rg_if h (fun h => ?_) fun h => ?_)
  · exact rg_end 2 (fun _ => rfl) (by cases h; rfl)
  · refine rg_step 3 (G' := fun f => ev_after (evT f 168 0 [oR 138 0, oI a2] [] s) (fun q => evT f 174 16 [oR 138 0, oI a1, oI a2] (q.2 ++ []) q.1)) (fun _ => rfl) (rg_bd1 h fun v2 hc h => rg_call (q := cvP s v2) (T_fRounds_has hc) ?_)
    refine rg_step 1 (G' := fun f => if v2 = 0 then evT f 174 19 [oR 138 0, oI a1, oI a2] [] s else evT f 174 22 [oR 138 0, oI a1, oI a2] [] s) (fun _ => rfl) (rg_if h (fun h => ?_) fun h => ?_)
    · exact rg_end 2 (fun _ => rfl) (by cases h; rfl)
    · refine rg_step 4 (G' := fun f => ev_after (evT f 30 0 [oR 30 0, oI a1] [] s) (fun q => evT f 174 30 [oR 138 0, oI a1, oI a2] (q.2 ++ []) q.1)) (fun _ => rfl) (rg_bd1 h fun v3 hc h => rg_call (q := cvP s v3) (T_fBook_placeOfPoint hc) ?_)
      refine rg_step 6 (G' := fun f => if inb a2 12 = true then evT f 174 38 [oR 138 0, oI a1, oI a2] [vI (s.1 (140 + (ix (cI 0))) (ix a2)), vI v3] s else none) (fun _ => rfl) (rg_gd h fun h => ?_)
      refine rg_step 1 (G' := fun f => if v3 = (s.1 (140 + (ix (cI 0))) (ix a2)) then evT f 174 41 [oR 138 0, oI a1, oI a2] [] s else evT f 174 51 [oR 138 0, oI a1, oI a2] [] s) (fun _ => rfl) (rg_if h (fun h => ?_) fun h => ?_)
      · refine rg_step 4 (G' := fun f => if inb a1 120 = true then evT f 174 47 [oR 138 0, oI a1, oI a2] [vI (s.1 158 (ix a1))] s else none) (fun _ => rfl) (rg_gd h fun h => ?_)
        refine rg_step 2 (G' := fun f => if (s.1 158 (ix a1)) = (cI (-1)) then evT f 174 54 [oR 138 0, oI a1, oI a2] [] s else evT f 174 51 [oR 138 0, oI a1, oI a2] [] s) (fun _ => rfl) (rg_if h (fun h => ?_) fun h => ?_)
        · refine rg_step 6 (G' := fun f => if inb a2 12 = true then evT f 174 62 [oR 138 0, oI a1, oI a2] [vI (s.1 (140 + (ix (cI 3))) (ix a2))] s else none) (fun _ => rfl) (rg_gd h fun h => ?_)
          refine rg_step 2 (G' := fun f => if (s.1 (140 + (ix (cI 3))) (ix a2)) < (cI 20) then evT f 174 67 [oR 138 0, oI a1, oI a2] [] s else evT f 174 77 [oR 138 0, oI a1, oI a2] [] s) (fun _ => rfl) (rg_if h (fun h => ?_) fun h => ?_)
          · refine rg_step 3 (G' := fun f => ev_after (evT f 123 0 [oR 9 0, nn] [] s) (fun q => evT f 174 74 [oR 138 0, oI a1, oI a2] (q.2 ++ []) q.1)) (fun _ => rfl) (rg_bd2 h fun s4 v5 hc h => rg_call (q := cvI (s4, v5)) (T_fLog_admits hc) ?_)
            refine rg_step 1 (G' := fun f => if v5 = 0 then evT f 174 77 [oR 138 0, oI a1, oI a2] [] s4 else evT f 174 80 [oR 138 0, oI a1, oI a2] [] s4) (fun _ => rfl) (rg_if h (fun h => ?_) fun h => ?_)
            · exact rg_end 2 (fun _ => rfl) (by cases h; rfl)
            · refine rg_step 5 (G' := fun f => if inb a1 120 = true then evT f 174 87 [oR 138 0, oI a1, oI a2] [] (wI s4 158 (ix a1) a2) else none) (fun _ => rfl) (rg_gd h fun h => rg_ltM h fun s6 h => ?_)
              refine rg_step 4 (G' := fun f => if inb a2 12 = true then evT f 174 93 [oR 138 0, oI a1, oI a2] [vR 146 (ix a2)] s6 else none) (fun _ => rfl) (rg_gd h fun h => ?_)
              refine rg_step 7 (G' := fun f => if inb a2 12 = true then evT f 174 102 [oR 138 0, oI a1, oI a2] [vI (s6.1 (140 + (ix (cI 3))) (ix a2)), vI a2, vR 140 (ix (cI 3)), vR 146 (ix a2)] s6 else none) (fun _ => rfl) (rg_gd h fun h => ?_)
              refine rg_step 4 (G' := fun f => if inb a2 12 = true then evT f 174 106 [oR 138 0, oI a1, oI a2] [vI (s6.1 (140 + (ix (cI 3))) (ix a2)), vR 146 (ix a2)] (wI s6 (140 + (ix (cI 3))) (ix a2) ((s6.1 (140 + (ix (cI 3))) (ix a2)) + (cI 1))) else none) (fun _ => rfl) (rg_gd h fun h => rg_ltM h fun s7 h => ?_)
              refine rg_step 2 (G' := fun f => if inb (s6.1 (140 + (ix (cI 3))) (ix a2)) 20 = true then evT f 174 108 [oR 138 0, oI a1, oI a2] [] (wI s7 (146 + (ix a2)) (ix (s6.1 (140 + (ix (cI 3))) (ix a2))) a1) else none) (fun _ => rfl) (rg_gd h fun h => rg_ltM h fun s8 h => ?_)
              refine rg_step 6 (G' := fun f => if inb a2 12 = true then evT f 174 116 [oR 138 0, oI a1, oI a2] [vI (s8.1 (140 + (ix (cI 3))) (ix a2))] s8 else none) (fun _ => rfl) (rg_gd h fun h => ?_)
              exact rg_end 1 (fun _ => rfl) (by cases h; rfl)
          · exact rg_end 2 (fun _ => rfl) (by cases h; rfl)
        · exact rg_end 2 (fun _ => rfl) (by cases h; rfl)
      · exact rg_end 2 (fun _ => rfl) (by cases h; rfl)
theorem t_fBook_xOf_b57 {s : ev_M} {y0 : Int32} {y1 : Int32} {j0 : Option ev_V} {j1 : Option ev_V} {j2 : Option ev_V} {j3 : Option ev_V} {j4 : Option ev_V} {q : Int32} (h : fBook_xOf_b57 s y0 y1 = some q) : RR 31 57 [j0, j1, j2, j3, j4] [vI y1, vI y0] s (cvP s q) := by
  exact rg_end 2 (fun _ => rfl) (by cases h; rfl)
theorem T_fBook_xOf {s : ev_M} {a1 : Int32} {q : Int32} (h : fBook_xOf s a1 = some q) : RR 31 0 [oR 30 0, oI a1, nn, nn, nn] [] s (cvP s q) := by
  refine rg_step 6 (G' := fun f => if inb a1 120 = true then evT f 31 8 [oR 30 0, oI a1, nn, nn, nn] [vI (s.1 (44 + (ix (cI 0))) (ix a1))] s else none) (fun _ => rfl) (rg_gd h fun h => ?_)
  refine rg_step 1 (G' := fun f => evT f 31 9 [oR 30 0, oI a1, oI (s.1 (44 + (ix (cI 0))) (ix a1)), nn, nn] [] s) (fun _ => rfl) (rg_ltI (P := fun v1 => RG (fun f => evT f 31 9 [oR 30 0, oI a1, oI v1, nn, nn] [] s) (cvP s q)) h fun v1 h => ?_)
  refine rg_step 6 (G' := fun f => if inb a1 120 = true then evT f 31 17 [oR 30 0, oI a1, oI v1, nn, nn] [vI (s.1 (44 + (ix (cI 1))) (ix a1))] s else none) (fun _ => rfl) (rg_gd h fun h => ?_)
  refine rg_step 1 (G' := fun f => evT f 31 18 [oR 30 0, oI a1, oI v1, oI (s.1 (44 + (ix (cI 1))) (ix a1)), nn] [] s) (fun _ => rfl) (rg_ltI (P := fun v2 => RG (fun f => evT f 31 18 [oR 30 0, oI a1, oI v1, oI v2, nn] [] s) (cvP s q)) h fun v2 h => ?_)
  refine rg_step 6 (G' := fun f => if inb v1 30 = true then evT f 31 26 [oR 30 0, oI a1, oI v1, oI v2, nn] [vI (s.1 (33 + (ix (cI 2))) (ix v1))] s else none) (fun _ => rfl) (rg_gd h fun h => ?_)
  refine rg_step 1 (G' := fun f => evT f 31 28 [oR 30 0, oI a1, oI v1, oI v2, oI (s.1 (33 + (ix (cI 2))) (ix v1))] [] s) (fun _ => rfl) (rg_ltI (P := fun v3 => RG (fun f => evT f 31 28 [oR 30 0, oI a1, oI v1, oI v2, oI v3] [] s) (cvP s q)) h fun v3 h => ?_)
  refine rg_step 6 (G' := fun f => if inb v1 30 = true then evT f 31 36 [oR 30 0, oI a1, oI v1, oI v2, oI v3] [vI (s.1 (33 + (ix (cI 0))) (ix v1))] s else none) (fun _ => rfl) (rg_gd h fun h => ?_)
  refine rg_step 2 (G' := fun f => if v3 = 0 then evT f 31 41 [oR 30 0, oI a1, oI v1, oI v2, oI v3] [vI (s.1 (33 + (ix (cI 0))) (ix v1))] s else evT f 31 45 [oR 30 0, oI a1, oI v1, oI v2, oI v3] [vI (s.1 (33 + (ix (cI 0))) (ix v1))] s) (fun _ => rfl) (rg_if h (fun h => ?_) fun h => ?_)
  · exact rg_step 2 (G' := fun f => evT f 31 57 [oR 30 0, oI a1, oI v1, oI v2, oI v3] [vI v2, vI (s.1 (33 + (ix (cI 0))) (ix v1))] s) (fun _ => rfl) ((t_fBook_xOf_b57) h)
  · refine rg_step 3 (G' := fun f => if v3 = (cI 2) then evT f 31 51 [oR 30 0, oI a1, oI v1, oI v2, oI v3] [vI (s.1 (33 + (ix (cI 0))) (ix v1))] s else evT f 31 56 [oR 30 0, oI a1, oI v1, oI v2, oI v3] [vI (s.1 (33 + (ix (cI 0))) (ix v1))] s) (fun _ => rfl) (rg_if h (fun h => ?_) fun h => ?_)
    · exact rg_step 3 (G' := fun f => evT f 31 57 [oR 30 0, oI a1, oI v1, oI v2, oI v3] [vI (-v2), vI (s.1 (33 + (ix (cI 0))) (ix v1))] s) (fun _ => rfl) ((t_fBook_xOf_b57) h)
    · exact rg_step 1 (G' := fun f => evT f 31 57 [oR 30 0, oI a1, oI v1, oI v2, oI v3] [vI (cI 0), vI (s.1 (33 + (ix (cI 0))) (ix v1))] s) (fun _ => rfl) ((t_fBook_xOf_b57) h)
theorem T_fMath_abs {s : ev_M} {a0 : Int32} {q : Int32} (h : fMath_abs s a0 = some q) : RR 533 0 [oI a0] [] s (cvP s q) := by
  refine rg_step 2 (G' := fun f => if a0 < 0 then evT f 533 4 [oI a0] [] s else evT f 533 9 [oI a0] [] s) (fun _ => rfl) (rg_if h (fun h => ?_) fun h => ?_)
  · exact rg_end 4 (fun _ => rfl) (by cases h; rfl)
  · exact rg_end 2 (fun _ => rfl) (by cases h; rfl)
theorem t_fBook_yOf_b58 {s : ev_M} {y0 : Int32} {y1 : Int32} {j0 : Option ev_V} {j1 : Option ev_V} {j2 : Option ev_V} {j3 : Option ev_V} {j4 : Option ev_V} {q : Int32} (h : fBook_yOf_b58 s y0 y1 = some q) : RR 32 58 [j0, j1, j2, j3, j4] [vI y1, vI y0] s (cvP s q) := by
  exact rg_end 2 (fun _ => rfl) (by cases h; rfl)
theorem T_fBook_yOf {s : ev_M} {a1 : Int32} {q : Int32} (h : fBook_yOf s a1 = some q) : RR 32 0 [oR 30 0, oI a1, nn, nn, nn] [] s (cvP s q) := by
  refine rg_step 6 (G' := fun f => if inb a1 120 = true then evT f 32 8 [oR 30 0, oI a1, nn, nn, nn] [vI (s.1 (44 + (ix (cI 0))) (ix a1))] s else none) (fun _ => rfl) (rg_gd h fun h => ?_)
  refine rg_step 1 (G' := fun f => evT f 32 9 [oR 30 0, oI a1, oI (s.1 (44 + (ix (cI 0))) (ix a1)), nn, nn] [] s) (fun _ => rfl) (rg_ltI (P := fun v1 => RG (fun f => evT f 32 9 [oR 30 0, oI a1, oI v1, nn, nn] [] s) (cvP s q)) h fun v1 h => ?_)
  refine rg_step 6 (G' := fun f => if inb a1 120 = true then evT f 32 17 [oR 30 0, oI a1, oI v1, nn, nn] [vI (s.1 (44 + (ix (cI 1))) (ix a1))] s else none) (fun _ => rfl) (rg_gd h fun h => ?_)
  refine rg_step 1 (G' := fun f => evT f 32 18 [oR 30 0, oI a1, oI v1, oI (s.1 (44 + (ix (cI 1))) (ix a1)), nn] [] s) (fun _ => rfl) (rg_ltI (P := fun v2 => RG (fun f => evT f 32 18 [oR 30 0, oI a1, oI v1, oI v2, nn] [] s) (cvP s q)) h fun v2 h => ?_)
  refine rg_step 6 (G' := fun f => if inb v1 30 = true then evT f 32 26 [oR 30 0, oI a1, oI v1, oI v2, nn] [vI (s.1 (33 + (ix (cI 2))) (ix v1))] s else none) (fun _ => rfl) (rg_gd h fun h => ?_)
  refine rg_step 1 (G' := fun f => evT f 32 28 [oR 30 0, oI a1, oI v1, oI v2, oI (s.1 (33 + (ix (cI 2))) (ix v1))] [] s) (fun _ => rfl) (rg_ltI (P := fun v3 => RG (fun f => evT f 32 28 [oR 30 0, oI a1, oI v1, oI v2, oI v3] [] s) (cvP s q)) h fun v3 h => ?_)
  refine rg_step 6 (G' := fun f => if inb v1 30 = true then evT f 32 36 [oR 30 0, oI a1, oI v1, oI v2, oI v3] [vI (s.1 (33 + (ix (cI 1))) (ix v1))] s else none) (fun _ => rfl) (rg_gd h fun h => ?_)
  refine rg_step 3 (G' := fun f => if v3 = (cI 1) then evT f 32 42 [oR 30 0, oI a1, oI v1, oI v2, oI v3] [vI (s.1 (33 + (ix (cI 1))) (ix v1))] s else evT f 32 46 [oR 30 0, oI a1, oI v1, oI v2, oI v3] [vI (s.1 (33 + (ix (cI 1))) (ix v1))] s) (fun _ => rfl) (rg_if h (fun h => ?_) fun h => ?_)
  · exact rg_step 2 (G' := fun f => evT f 32 58 [oR 30 0, oI a1, oI v1, oI v2, oI v3] [vI v2, vI (s.1 (33 + (ix (cI 1))) (ix v1))] s) (fun _ => rfl) ((t_fBook_yOf_b58) h)
  · refine rg_step 3 (G' := fun f => if v3 = (cI 3) then evT f 32 52 [oR 30 0, oI a1, oI v1, oI v2, oI v3] [vI (s.1 (33 + (ix (cI 1))) (ix v1))] s else evT f 32 57 [oR 30 0, oI a1, oI v1, oI v2, oI v3] [vI (s.1 (33 + (ix (cI 1))) (ix v1))] s) (fun _ => rfl) (rg_if h (fun h => ?_) fun h => ?_)
    · exact rg_step 3 (G' := fun f => evT f 32 58 [oR 30 0, oI a1, oI v1, oI v2, oI v3] [vI (-v2), vI (s.1 (33 + (ix (cI 1))) (ix v1))] s) (fun _ => rfl) ((t_fBook_yOf_b58) h)
    · exact rg_step 1 (G' := fun f => evT f 32 58 [oR 30 0, oI a1, oI v1, oI v2, oI v3] [vI (cI 0), vI (s.1 (33 + (ix (cI 1))) (ix v1))] s) (fun _ => rfl) ((t_fBook_yOf_b58) h)
theorem T_fRounds_between {s : ev_M} {a1 : Int32} {a2 : Int32} {q : Int32} (h : fRounds_between s a1 a2 = some q) : RR 177 0 [oR 138 0, oI a1, oI a2] [] s (cvP s q) := by
  refine rg_step 4 (G' := fun f => ev_after (evT f 31 0 [oR 30 0, oI a1, nn, nn, nn] [] s) (fun q => evT f 177 8 [oR 138 0, oI a1, oI a2] (q.2 ++ []) q.1)) (fun _ => rfl) (rg_bd1 h fun v1 hc h => rg_call (q := cvP s v1) (T_fBook_xOf hc) ?_)
  refine rg_step 4 (G' := fun f => ev_after (evT f 31 0 [oR 30 0, oI a2, nn, nn, nn] [] s) (fun q => evT f 177 16 [oR 138 0, oI a1, oI a2] (q.2 ++ [vI v1]) q.1)) (fun _ => rfl) (rg_bd1 h fun v2 hc h => rg_call (q := cvP s v2) (T_fBook_xOf hc) ?_)
  refine rg_step 2 (G' := fun f => ev_after (evT f 533 0 [oI (v1 - v2)] [] s) (fun q => evT f 177 20 [oR 138 0, oI a1, oI a2] (q.2 ++ []) q.1)) (fun _ => rfl) (rg_bd1 h fun v3 hc h => rg_call (q := cvP s v3) (T_fMath_abs hc) ?_)
  refine rg_step 4 (G' := fun f => ev_after (evT f 32 0 [oR 30 0, oI a1, nn, nn, nn] [] s) (fun q => evT f 177 28 [oR 138 0, oI a1, oI a2] (q.2 ++ [vI v3]) q.1)) (fun _ => rfl) (rg_bd1 h fun v4 hc h => rg_call (q := cvP s v4) (T_fBook_yOf hc) ?_)
  refine rg_step 4 (G' := fun f => ev_after (evT f 32 0 [oR 30 0, oI a2, nn, nn, nn] [] s) (fun q => evT f 177 36 [oR 138 0, oI a1, oI a2] (q.2 ++ [vI v4, vI v3]) q.1)) (fun _ => rfl) (rg_bd1 h fun v5 hc h => rg_call (q := cvP s v5) (T_fBook_yOf hc) ?_)
  refine rg_step 2 (G' := fun f => ev_after (evT f 533 0 [oI (v4 - v5)] [] s) (fun q => evT f 177 40 [oR 138 0, oI a1, oI a2] (q.2 ++ [vI v3]) q.1)) (fun _ => rfl) (rg_bd1 h fun v6 hc h => rg_call (q := cvP s v6) (T_fMath_abs hc) ?_)
  exact rg_end 2 (fun _ => rfl) (by cases h; rfl)
theorem T_fRounds_fromBeginning {s : ev_M} {a1 : Int32} {a2 : Int32} {q : Int32} (h : fRounds_fromBeginning s a1 a2 = some q) : RR 178 0 [oR 138 0, oI a1, oI a2] [] s (cvP s q) := by
  refine rg_step 4 (G' := fun f => ev_after (evT f 31 0 [oR 30 0, oI a2, nn, nn, nn] [] s) (fun q => evT f 178 8 [oR 138 0, oI a1, oI a2] (q.2 ++ []) q.1)) (fun _ => rfl) (rg_bd1 h fun v1 hc h => rg_call (q := cvP s v1) (T_fBook_xOf hc) ?_)
  refine rg_step 6 (G' := fun f => if inb a1 12 = true then evT f 178 16 [oR 138 0, oI a1, oI a2] [vI (s.1 (140 + (ix (cI 1))) (ix a1)), vI v1] s else none) (fun _ => rfl) (rg_gd h fun h => ?_)
  refine rg_step 2 (G' := fun f => ev_after (evT f 533 0 [oI (v1 - (s.1 (140 + (ix (cI 1))) (ix a1)))] [] s) (fun q => evT f 178 20 [oR 138 0, oI a1, oI a2] (q.2 ++ []) q.1)) (fun _ => rfl) (rg_bd1 h fun v2 hc h => rg_call (q := cvP s v2) (T_fMath_abs hc) ?_)
  refine rg_step 4 (G' := fun f => ev_after (evT f 32 0 [oR 30 0, oI a2, nn, nn, nn] [] s) (fun q => evT f 178 28 [oR 138 0, oI a1, oI a2] (q.2 ++ [vI v2]) q.1)) (fun _ => rfl) (rg_bd1 h fun v3 hc h => rg_call (q := cvP s v3) (T_fBook_yOf hc) ?_)
  refine rg_step 6 (G' := fun f => if inb a1 12 = true then evT f 178 36 [oR 138 0, oI a1, oI a2] [vI (s.1 (140 + (ix (cI 2))) (ix a1)), vI v3, vI v2] s else none) (fun _ => rfl) (rg_gd h fun h => ?_)
  refine rg_step 2 (G' := fun f => ev_after (evT f 533 0 [oI (v3 - (s.1 (140 + (ix (cI 2))) (ix a1)))] [] s) (fun q => evT f 178 40 [oR 138 0, oI a1, oI a2] (q.2 ++ [vI v2]) q.1)) (fun _ => rfl) (rg_bd1 h fun v4 hc h => rg_call (q := cvP s v4) (T_fMath_abs hc) ?_)
  exact rg_end 2 (fun _ => rfl) (by cases h; rfl)
theorem ti_fRounds_wayOf_h48 {s : ev_M} : ∀ (n : Nat) (x1 : Int32) (x2 : Int32) (x3 : Int32) (x4 : Int32) (q : Int32), fRounds_wayOf_h48 s n x1 x2 x3 x4 = some q → RR 176 48 [oR 138 0, oI x1, oI x2, oI x3, oI x4] [] s (cvP s q) := by
  intro n
  induction n with
  | zero => intro x1 x2 x3 x4 q h; cases h
  | succ n ih =>
    have hk48 : ∀ {x1 : Int32} {x2 : Int32} {x3 : Int32} {x4 : Int32} {q : Int32}, fRounds_wayOf_h48 s n x1 x2 x3 x4 = some q → RR 176 48 [oR 138 0, oI x1, oI x2, oI x3, oI x4] [] s (cvP s q) := fun h => ih _ _ _ _ _ h
    intro x1 x2 x3 x4 q h
    refine rg_step 3 (G' := fun f => if x4 < x2 then evT f 176 54 [oR 138 0, oI x1, oI x2, oI x3, oI x4] [] s else evT f 176 87 [oR 138 0, oI x1, oI x2, oI x3, oI x4] [] s) (fun _ => rfl) (rg_if h (fun h => ?_) fun h => ?_)
    · refine rg_step 6 (G' := fun f => if inb x1 12 = true then evT f 176 62 [oR 138 0, oI x1, oI x2, oI x3, oI x4] [vR 146 (ix x1), vR 138 0, vI x3] s else none) (fun _ => rfl) (rg_gd h fun h => ?_)
      refine rg_step 4 (G' := fun f => if inb (x4 - (cI 1)) 20 = true then evT f 176 67 [oR 138 0, oI x1, oI x2, oI x3, oI x4] [vI (s.1 (146 + (ix x1)) (ix (x4 - (cI 1)))), vR 138 0, vI x3] s else none) (fun _ => rfl) (rg_gd h fun h => ?_)
      refine rg_step 4 (G' := fun f => if inb x1 12 = true then evT f 176 73 [oR 138 0, oI x1, oI x2, oI x3, oI x4] [vR 146 (ix x1), vI (s.1 (146 + (ix x1)) (ix (x4 - (cI 1)))), vR 138 0, vI x3] s else none) (fun _ => rfl) (rg_gd h fun h => ?_)
      refine rg_step 2 (G' := fun f => if inb x4 20 = true then evT f 176 76 [oR 138 0, oI x1, oI x2, oI x3, oI x4] [vI (s.1 (146 + (ix x1)) (ix x4)), vI (s.1 (146 + (ix x1)) (ix (x4 - (cI 1)))), vR 138 0, vI x3] s else none) (fun _ => rfl) (rg_gd h fun h => ?_)
      refine rg_step 1 (G' := fun f => ev_after (evT f 177 0 [oR 138 0, oI (s.1 (146 + (ix x1)) (ix (x4 - (cI 1)))), oI (s.1 (146 + (ix x1)) (ix x4))] [] s) (fun q => evT f 176 79 [oR 138 0, oI x1, oI x2, oI x3, oI x4] (q.2 ++ [vI x3]) q.1)) (fun _ => rfl) (rg_bd1 h fun v1 hc h => rg_call (q := cvP s v1) (T_fRounds_between hc) ?_)
      refine rg_step 2 (G' := fun f => evT f 176 81 [oR 138 0, oI x1, oI x2, oI (x3 + v1), oI x4] [] s) (fun _ => rfl) (rg_ltI (P := fun v2 => RG (fun f => evT f 176 81 [oR 138 0, oI x1, oI x2, oI v2, oI x4] [] s) (cvP s q)) h fun v2 h => ?_)
      exact rg_step 2 (G' := fun f => evT f 176 48 [oR 138 0, oI x1, oI x2, oI v2, oI (x4 + cI 1)] [] s) (fun _ => rfl) (hk48 h)
    · exact rg_end 2 (fun _ => rfl) (by cases h; rfl)
theorem t_fRounds_wayOf_h48 {s : ev_M} {n : Nat} {x1 : Int32} {x2 : Int32} {x3 : Int32} {x4 : Int32} {q : Int32} (h : fRounds_wayOf_h48 s n x1 x2 x3 x4 = some q) : RR 176 48 [oR 138 0, oI x1, oI x2, oI x3, oI x4] [] s (cvP s q) := ti_fRounds_wayOf_h48 n x1 x2 x3 x4 q h
theorem T_fRounds_wayOf {s : ev_M} {a1 : Int32} {q : Int32} (h : fRounds_wayOf s a1 = some q) : RR 176 0 [oR 138 0, oI a1, nn, nn, nn] [] s (cvP s q) := by
  refine rg_step 6 (G' := fun f => if inb a1 12 = true then evT f 176 8 [oR 138 0, oI a1, nn, nn, nn] [vI (s.1 (140 + (ix (cI 3))) (ix a1))] s else none) (fun _ => rfl) (rg_gd h fun h => ?_)
  refine rg_step 1 (G' := fun f => evT f 176 9 [oR 138 0, oI a1, oI (s.1 (140 + (ix (cI 3))) (ix a1)), nn, nn] [] s) (fun _ => rfl) (rg_ltI (P := fun v3 => RG (fun f => evT f 176 9 [oR 138 0, oI a1, oI v3, nn, nn] [] s) (cvP s q)) h fun v3 h => ?_)
  refine rg_step 2 (G' := fun f => if v3 = 0 then evT f 176 13 [oR 138 0, oI a1, oI v3, nn, nn] [] s else evT f 176 15 [oR 138 0, oI a1, oI v3, nn, nn] [] s) (fun _ => rfl) (rg_if h (fun h => ?_) fun h => ?_)
  · exact rg_end 2 (fun _ => rfl) (by cases h; rfl)
  · refine rg_step 6 (G' := fun f => if inb a1 12 = true then evT f 176 23 [oR 138 0, oI a1, oI v3, nn, nn] [vR 146 (ix a1), vI a1, vR 138 0] s else none) (fun _ => rfl) (rg_gd h fun h => ?_)
    refine rg_step 3 (G' := fun f => ev_after (evT f 178 0 [oR 138 0, oI a1, oI (s.1 (146 + (ix a1)) (ix (cI 0)))] [] s) (fun q => evT f 176 28 [oR 138 0, oI a1, oI v3, nn, nn] (q.2 ++ []) q.1)) (fun _ => rfl) (rg_bd1 h fun v4 hc h => rg_call (q := cvP s v4) (T_fRounds_fromBeginning hc) ?_)
    refine rg_step 6 (G' := fun f => if inb a1 12 = true then evT f 176 36 [oR 138 0, oI a1, oI v3, nn, nn] [vR 146 (ix a1), vI a1, vR 138 0, vI v4] s else none) (fun _ => rfl) (rg_gd h fun h => ?_)
    refine rg_step 4 (G' := fun f => if inb (v3 - (cI 1)) 20 = true then evT f 176 40 [oR 138 0, oI a1, oI v3, nn, nn] [vI (s.1 (146 + (ix a1)) (ix (v3 - (cI 1)))), vI a1, vR 138 0, vI v4] s else none) (fun _ => rfl) (rg_gd h fun h => ?_)
    refine rg_step 1 (G' := fun f => ev_after (evT f 178 0 [oR 138 0, oI a1, oI (s.1 (146 + (ix a1)) (ix (v3 - (cI 1))))] [] s) (fun q => evT f 176 43 [oR 138 0, oI a1, oI v3, nn, nn] (q.2 ++ [vI v4]) q.1)) (fun _ => rfl) (rg_bd1 h fun v5 hc h => rg_call (q := cvP s v5) (T_fRounds_fromBeginning hc) ?_)
    refine rg_step 2 (G' := fun f => evT f 176 45 [oR 138 0, oI a1, oI v3, oI (v4 + v5), nn] [] s) (fun _ => rfl) (rg_ltI (P := fun v6 => RG (fun f => evT f 176 45 [oR 138 0, oI a1, oI v3, oI v6, nn] [] s) (cvP s q)) h fun v6 h => ?_)
    exact rg_step 2 (G' := fun f => evT f 176 48 [oR 138 0, oI a1, oI v3, oI v6, oI (cI 1)] [] s) (fun _ => rfl) ((t_fRounds_wayOf_h48) h)
theorem t_fRounds_bestNext_b69 {s : ev_M} {k10 : Int32 → Int32 → Int32 → Int32 → Int32 → Int32 → Option Int32} (hk10 : ∀ {x1 : Int32} {x2 : Int32} {x3 : Int32} {x4 : Int32} {x5 : Int32} {x6 : Int32} {j7 : Option ev_V} {q : Int32}, k10 x1 x2 x3 x4 x5 x6 = some q → RR 182 10 [oR 138 0, oI x1, oI x2, oI x3, oI x4, oI x5, oI x6, j7] [] s (cvP s q)) {x1 : Int32} {x2 : Int32} {x3 : Int32} {x4 : Int32} {x5 : Int32} {x6 : Int32} {j7 : Option ev_V} {q : Int32} (h : fRounds_bestNext_b69 s k10 x1 x2 x3 x4 x5 x6 = some q) : RR 182 69 [oR 138 0, oI x1, oI x2, oI x3, oI x4, oI x5, oI x6, j7] [] s (cvP s q) := by
  exact rg_step 2 (G' := fun f => evT f 182 10 [oR 138 0, oI x1, oI x2, oI x3, oI x4, oI x5, oI (x6 + cI 1), nn] [] s) (fun _ => rfl) (hk10 h)
theorem ti_fRounds_bestNext_h10 {s : ev_M} : ∀ (n : Nat) (x1 : Int32) (x2 : Int32) (x3 : Int32) (x4 : Int32) (x5 : Int32) (x6 : Int32) (j7 : Option ev_V) (q : Int32), fRounds_bestNext_h10 s n x1 x2 x3 x4 x5 x6 = some q → RR 182 10 [oR 138 0, oI x1, oI x2, oI x3, oI x4, oI x5, oI x6, j7] [] s (cvP s q) := by
  intro n
  induction n with
  | zero => intro x1 x2 x3 x4 x5 x6 j7 q h; cases h
  | succ n ih =>
    have hk10 : ∀ {x1 : Int32} {x2 : Int32} {x3 : Int32} {x4 : Int32} {x5 : Int32} {x6 : Int32} {j7 : Option ev_V} {q : Int32}, fRounds_bestNext_h10 s n x1 x2 x3 x4 x5 x6 = some q → RR 182 10 [oR 138 0, oI x1, oI x2, oI x3, oI x4, oI x5, oI x6, j7] [] s (cvP s q) := fun h => ih _ _ _ _ _ _ _ _ h
    intro x1 x2 x3 x4 x5 x6 j7 q h
    refine rg_step 3 (G' := fun f => if x6 < x1 then evT f 182 16 [oR 138 0, oI x1, oI x2, oI x3, oI x4, oI x5, oI x6, nn] [] s else evT f 182 75 [oR 138 0, oI x1, oI x2, oI x3, oI x4, oI x5, oI x6, nn] [] s) (fun _ => rfl) (rg_if h (fun h => ?_) fun h => ?_)
    · refine rg_step 6 (G' := fun f => if ((x2 >>> (x6 &&& 31)) &&& (cI 1)) = 0 then evT f 182 25 [oR 138 0, oI x1, oI x2, oI x3, oI x4, oI x5, oI x6, nn] [] s else evT f 182 28 [oR 138 0, oI x1, oI x2, oI x3, oI x4, oI x5, oI x6, nn] [] s) (fun _ => rfl) (rg_if h (fun h => ?_) fun h => ?_)
      · exact rg_step 1 (G' := fun f => evT f 182 69 [oR 138 0, oI x1, oI x2, oI x3, oI x4, oI x5, oI x6, nn] [] s) (fun _ => rfl) ((t_fRounds_bestNext_b69 hk10) h)
      · refine rg_step 4 (G' := fun f => if inb x3 9 = true then evT f 182 34 [oR 138 0, oI x1, oI x2, oI x3, oI x4, oI x5, oI x6, nn] [vR 183 (ix x3)] s else none) (fun _ => rfl) (rg_gd h fun h => ?_)
        refine rg_step 2 (G' := fun f => if inb x6 9 = true then evT f 182 37 [oR 138 0, oI x1, oI x2, oI x3, oI x4, oI x5, oI x6, nn] [vI (s.1 (183 + (ix x3)) (ix x6))] s else none) (fun _ => rfl) (rg_gd h fun h => ?_)
        refine rg_step 8 (G' := fun f => if inb (x2 ^^^ ((cI 1) <<< (x6 &&& 31))) 256 = true then evT f 182 48 [oR 138 0, oI x1, oI x2, oI x3, oI x4, oI x5, oI x6, nn] [vR 193 (ix (x2 ^^^ ((cI 1) <<< (x6 &&& 31)))), vI (s.1 (183 + (ix x3)) (ix x6))] s else none) (fun _ => rfl) (rg_gd h fun h => ?_)
        refine rg_step 2 (G' := fun f => if inb x6 8 = true then evT f 182 51 [oR 138 0, oI x1, oI x2, oI x3, oI x4, oI x5, oI x6, nn] [vI (s.1 (193 + (ix (x2 ^^^ ((cI 1) <<< (x6 &&& 31))))) (ix x6)), vI (s.1 (183 + (ix x3)) (ix x6))] s else none) (fun _ => rfl) (rg_gd h fun h => ?_)
        refine rg_step 2 (G' := fun f => evT f 182 54 [oR 138 0, oI x1, oI x2, oI x3, oI x4, oI x5, oI x6, oI ((s.1 (183 + (ix x3)) (ix x6)) + (s.1 (193 + (ix (x2 ^^^ ((cI 1) <<< (x6 &&& 31))))) (ix x6)))] [] s) (fun _ => rfl) (rg_ltI (P := fun v1 => RG (fun f => evT f 182 54 [oR 138 0, oI x1, oI x2, oI x3, oI x4, oI x5, oI x6, oI v1] [] s) (cvP s q)) h fun v1 h => ?_)
        refine rg_step 3 (G' := fun f => if v1 < x5 then evT f 182 61 [oR 138 0, oI x1, oI x2, oI x3, oI x4, oI x5, oI x6, oI v1] [] s else evT f 182 69 [oR 138 0, oI x1, oI x2, oI x3, oI x4, oI x5, oI x6, oI v1] [] s) (fun _ => rfl) (rg_if h (fun h => ?_) fun h => ?_)
        · exact rg_step 4 (G' := fun f => evT f 182 69 [oR 138 0, oI x1, oI x2, oI x3, oI x6, oI v1, oI x6, oI v1] [] s) (fun _ => rfl) ((t_fRounds_bestNext_b69 hk10) h)
        · exact (t_fRounds_bestNext_b69 hk10) h
    · exact rg_end 2 (fun _ => rfl) (by cases h; rfl)
theorem t_fRounds_bestNext_h10 {s : ev_M} {n : Nat} {x1 : Int32} {x2 : Int32} {x3 : Int32} {x4 : Int32} {x5 : Int32} {x6 : Int32} {j7 : Option ev_V} {q : Int32} (h : fRounds_bestNext_h10 s n x1 x2 x3 x4 x5 x6 = some q) : RR 182 10 [oR 138 0, oI x1, oI x2, oI x3, oI x4, oI x5, oI x6, j7] [] s (cvP s q) := ti_fRounds_bestNext_h10 n x1 x2 x3 x4 x5 x6 j7 q h
theorem T_fRounds_bestNext {s : ev_M} {a1 : Int32} {a2 : Int32} {a3 : Int32} {q : Int32} (h : fRounds_bestNext s a1 a2 a3 = some q) : RR 182 0 [oR 138 0, oI a1, oI a2, oI a3, nn, nn, nn, nn] [] s (cvP s q) := by
  exact rg_step 6 (G' := fun f => evT f 182 10 [oR 138 0, oI a1, oI a2, oI a3, oI (cI (-1)), oI (cI 2147483647), oI (cI 0), nn] [] s) (fun _ => rfl) ((t_fRounds_bestNext_h10) h)
theorem ti_fRounds_measure_h47 {k2 : ev_M → Int32 → Int32 → Int32 → Option ev_M} (hk2 : ∀ {s : ev_M} {x1 : Int32} {x2 : Int32} {x3 : Int32} {j4 : Option ev_V} {q : ev_M}, k2 s x1 x2 x3 = some q → RR 181 2 [oR 138 0, oI x1, oI x2, oI x3, j4] [] s (cvV q)) : ∀ (n : Nat) (s : ev_M) (x1 : Int32) (x2 : Int32) (x3 : Int32) (x4 : Int32) (q : ev_M), fRounds_measure_h47 k2 n s x1 x2 x3 x4 = some q → RR 181 47 [oR 138 0, oI x1, oI x2, oI x3, oI x4] [] s (cvV q) := by
  intro n
  induction n with
  | zero => intro s x1 x2 x3 x4 q h; cases h
  | succ n ih =>
    have hk47 : ∀ {s : ev_M} {x1 : Int32} {x2 : Int32} {x3 : Int32} {x4 : Int32} {q : ev_M}, fRounds_measure_h47 k2 n s x1 x2 x3 x4 = some q → RR 181 47 [oR 138 0, oI x1, oI x2, oI x3, oI x4] [] s (cvV q) := fun h => ih _ _ _ _ _ _ h
    intro s x1 x2 x3 x4 q h
    refine rg_step 3 (G' := fun f => if x4 < x2 then evT f 181 53 [oR 138 0, oI x1, oI x2, oI x3, oI x4] [] s else evT f 181 89 [oR 138 0, oI x1, oI x2, oI x3, oI x4] [] s) (fun _ => rfl) (rg_if h (fun h => ?_) fun h => ?_)
    · refine rg_step 4 (G' := fun f => if inb x3 9 = true then evT f 181 59 [oR 138 0, oI x1, oI x2, oI x3, oI x4] [vR 183 (ix x3)] s else none) (fun _ => rfl) (rg_gd h fun h => ?_)
      refine rg_step 6 (G' := fun f => if inb x1 12 = true then evT f 181 68 [oR 138 0, oI x1, oI x2, oI x3, oI x4] [vR 146 (ix x1), vR 138 0, vI x4, vR 183 (ix x3)] s else none) (fun _ => rfl) (rg_gd h fun h => ?_)
      refine rg_step 2 (G' := fun f => if inb x3 20 = true then evT f 181 70 [oR 138 0, oI x1, oI x2, oI x3, oI x4] [vI (s.1 (146 + (ix x1)) (ix x3)), vR 138 0, vI x4, vR 183 (ix x3)] s else none) (fun _ => rfl) (rg_gd h fun h => ?_)
      refine rg_step 4 (G' := fun f => if inb x1 12 = true then evT f 181 76 [oR 138 0, oI x1, oI x2, oI x3, oI x4] [vR 146 (ix x1), vI (s.1 (146 + (ix x1)) (ix x3)), vR 138 0, vI x4, vR 183 (ix x3)] s else none) (fun _ => rfl) (rg_gd h fun h => ?_)
      refine rg_step 2 (G' := fun f => if inb x4 20 = true then evT f 181 79 [oR 138 0, oI x1, oI x2, oI x3, oI x4] [vI (s.1 (146 + (ix x1)) (ix x4)), vI (s.1 (146 + (ix x1)) (ix x3)), vR 138 0, vI x4, vR 183 (ix x3)] s else none) (fun _ => rfl) (rg_gd h fun h => ?_)
      refine rg_step 1 (G' := fun f => ev_after (evT f 177 0 [oR 138 0, oI (s.1 (146 + (ix x1)) (ix x3)), oI (s.1 (146 + (ix x1)) (ix x4))] [] s) (fun q => evT f 181 82 [oR 138 0, oI x1, oI x2, oI x3, oI x4] (q.2 ++ [vI x4, vR 183 (ix x3)]) q.1)) (fun _ => rfl) (rg_bd1 h fun v1 hc h => rg_call (q := cvP s v1) (T_fRounds_between hc) ?_)
      refine rg_step 1 (G' := fun f => if inb x4 9 = true then evT f 181 83 [oR 138 0, oI x1, oI x2, oI x3, oI x4] [] (wI s (183 + (ix x3)) (ix x4) v1) else none) (fun _ => rfl) (rg_gd h fun h => rg_ltM h fun s2 h => ?_)
      exact rg_step 2 (G' := fun f => evT f 181 47 [oR 138 0, oI x1, oI x2, oI x3, oI (x4 + cI 1)] [] s2) (fun _ => rfl) (hk47 h)
    · exact rg_step 2 (G' := fun f => evT f 181 2 [oR 138 0, oI x1, oI x2, oI (x3 + cI 1), oI x4] [] s) (fun _ => rfl) (hk2 h)
theorem t_fRounds_measure_h47 {k2 : ev_M → Int32 → Int32 → Int32 → Option ev_M} (hk2 : ∀ {s : ev_M} {x1 : Int32} {x2 : Int32} {x3 : Int32} {j4 : Option ev_V} {q : ev_M}, k2 s x1 x2 x3 = some q → RR 181 2 [oR 138 0, oI x1, oI x2, oI x3, j4] [] s (cvV q)) {n : Nat} {s : ev_M} {x1 : Int32} {x2 : Int32} {x3 : Int32} {x4 : Int32} {q : ev_M} (h : fRounds_measure_h47 k2 n s x1 x2 x3 x4 = some q) : RR 181 47 [oR 138 0, oI x1, oI x2, oI x3, oI x4] [] s (cvV q) := ti_fRounds_measure_h47 hk2 n s x1 x2 x3 x4 q h
theorem ti_fRounds_measure_h2 : ∀ (n : Nat) (s : ev_M) (x1 : Int32) (x2 : Int32) (x3 : Int32) (j4 : Option ev_V) (q : ev_M), fRounds_measure_h2 n s x1 x2 x3 = some q → RR 181 2 [oR 138 0, oI x1, oI x2, oI x3, j4] [] s (cvV q) := by
  intro n
  induction n with
  | zero => intro s x1 x2 x3 j4 q h; cases h
  | succ n ih =>
    have hk2 : ∀ {s : ev_M} {x1 : Int32} {x2 : Int32} {x3 : Int32} {j4 : Option ev_V} {q : ev_M}, fRounds_measure_h2 n s x1 x2 x3 = some q → RR 181 2 [oR 138 0, oI x1, oI x2, oI x3, j4] [] s (cvV q) := fun h => ih _ _ _ _ _ _ h
    intro s x1 x2 x3 j4 q h
    refine rg_step 3 (G' := fun f => if x3 < x2 then evT f 181 7 [oR 138 0, oI x1, oI x2, oI x3, nn] [] s else evT f 181 95 [oR 138 0, oI x1, oI x2, oI x3, nn] [] s) (fun _ => rfl) (rg_if h (fun h => ?_) fun h => ?_)
    · refine rg_step 4 (G' := fun f => if inb x3 9 = true then evT f 181 13 [oR 138 0, oI x1, oI x2, oI x3, nn] [vR 183 (ix x3)] s else none) (fun _ => rfl) (rg_gd h fun h => ?_)
      refine rg_step 7 (G' := fun f => if inb x1 12 = true then evT f 181 22 [oR 138 0, oI x1, oI x2, oI x3, nn] [vR 146 (ix x1), vI x1, vR 138 0, vI x2, vR 183 (ix x3)] s else none) (fun _ => rfl) (rg_gd h fun h => ?_)
      refine rg_step 2 (G' := fun f => if inb x3 20 = true then evT f 181 24 [oR 138 0, oI x1, oI x2, oI x3, nn] [vI (s.1 (146 + (ix x1)) (ix x3)), vI x1, vR 138 0, vI x2, vR 183 (ix x3)] s else none) (fun _ => rfl) (rg_gd h fun h => ?_)
      refine rg_step 1 (G' := fun f => ev_after (evT f 178 0 [oR 138 0, oI x1, oI (s.1 (146 + (ix x1)) (ix x3))] [] s) (fun q => evT f 181 27 [oR 138 0, oI x1, oI x2, oI x3, nn] (q.2 ++ [vI x2, vR 183 (ix x3)]) q.1)) (fun _ => rfl) (rg_bd1 h fun v3 hc h => rg_call (q := cvP s v3) (T_fRounds_fromBeginning hc) ?_)
      refine rg_step 1 (G' := fun f => if inb x2 9 = true then evT f 181 28 [oR 138 0, oI x1, oI x2, oI x3, nn] [] (wI s (183 + (ix x3)) (ix x2) v3) else none) (fun _ => rfl) (rg_gd h fun h => rg_ltM h fun s4 h => ?_)
      refine rg_step 4 (G' := fun f => if inb x2 9 = true then evT f 181 34 [oR 138 0, oI x1, oI x2, oI x3, nn] [vR 183 (ix x2)] s4 else none) (fun _ => rfl) (rg_gd h fun h => ?_)
      refine rg_step 5 (G' := fun f => if inb x3 9 = true then evT f 181 41 [oR 138 0, oI x1, oI x2, oI x3, nn] [vR 183 (ix x3), vI x3, vR 183 (ix x2)] s4 else none) (fun _ => rfl) (rg_gd h fun h => ?_)
      refine rg_step 2 (G' := fun f => if inb x2 9 = true then evT f 181 43 [oR 138 0, oI x1, oI x2, oI x3, nn] [vI (s4.1 (183 + (ix x3)) (ix x2)), vI x3, vR 183 (ix x2)] s4 else none) (fun _ => rfl) (rg_gd h fun h => ?_)
      refine rg_step 1 (G' := fun f => if inb x3 9 = true then evT f 181 44 [oR 138 0, oI x1, oI x2, oI x3, nn] [] (wI s4 (183 + (ix x2)) (ix x3) (s4.1 (183 + (ix x3)) (ix x2))) else none) (fun _ => rfl) (rg_gd h fun h => rg_ltM h fun s5 h => ?_)
      exact rg_step 2 (G' := fun f => evT f 181 47 [oR 138 0, oI x1, oI x2, oI x3, oI (cI 0)] [] s5) (fun _ => rfl) ((t_fRounds_measure_h47 hk2) h)
    · exact rg_end 1 (fun _ => rfl) (by cases h; rfl)
theorem t_fRounds_measure_h2 {n : Nat} {s : ev_M} {x1 : Int32} {x2 : Int32} {x3 : Int32} {j4 : Option ev_V} {q : ev_M} (h : fRounds_measure_h2 n s x1 x2 x3 = some q) : RR 181 2 [oR 138 0, oI x1, oI x2, oI x3, j4] [] s (cvV q) := ti_fRounds_measure_h2 n s x1 x2 x3 j4 q h
theorem T_fRounds_measure {s : ev_M} {a1 : Int32} {a2 : Int32} {q : ev_M} (h : fRounds_measure s a1 a2 = some q) : RR 181 0 [oR 138 0, oI a1, oI a2, nn, nn] [] s (cvV q) := by
  exact rg_step 2 (G' := fun f => evT f 181 2 [oR 138 0, oI a1, oI a2, oI (cI 0), nn] [] s) (fun _ => rfl) ((t_fRounds_measure_h2) h)
theorem t_fRounds_goLeastWay_b94 {k17 : ev_M → Int32 → Int32 → Int32 → Option ev_M} {k27 : ev_M → Int32 → Int32 → Int32 → Int32 → Option ev_M} (hk17 : ∀ {s : ev_M} {x1 : Int32} {x2 : Int32} {x3 : Int32} {j4 : Option ev_V} {j5 : Option ev_V} {j6 : Option ev_V} {q : ev_M}, k17 s x1 x2 x3 = some q → RR 180 17 [oR 138 0, oI x1, oI x2, oI x3, j4, j5, j6] [] s (cvV q)) (hk27 : ∀ {s : ev_M} {x1 : Int32} {x2 : Int32} {x3 : Int32} {x4 : Int32} {j5 : Option ev_V} {j6 : Option ev_V} {q : ev_M}, k27 s x1 x2 x3 x4 = some q → RR 180 27 [oR 138 0, oI x1, oI x2, oI x3, oI x4, j5, j6] [] s (cvV q)) {s : ev_M} {x1 : Int32} {x2 : Int32} {x3 : Int32} {x4 : Int32} {m0 : Nat} {y1 : Int32} {y2 : Int32} {j5 : Option ev_V} {j6 : Option ev_V} {q : ev_M} (h : fRounds_goLeastWay_b94 k17 k27 s x1 x2 x3 x4 m0 y1 y2 = some q) : RR 180 94 [oR 138 0, oI x1, oI x2, oI x3, oI x4, j5, j6] [vI y2, vI y1, vR 193 m0] s (cvV q) := by
  refine rg_step 1 (G' := fun f => if inb y1 8 = true then evT f 180 95 [oR 138 0, oI x1, oI x2, oI x3, oI x4, nn, nn] [] (wI s (193 + m0) (ix y1) y2) else none) (fun _ => rfl) (rg_gd h fun h => rg_ltM h fun s1 h => ?_)
  exact rg_step 2 (G' := fun f => evT f 180 27 [oR 138 0, oI x1, oI x2, oI x3, oI (x4 + cI 1), nn, nn] [] s1) (fun _ => rfl) (hk27 h)
theorem ti_fRounds_goLeastWay_h27 {k17 : ev_M → Int32 → Int32 → Int32 → Option ev_M} (hk17 : ∀ {s : ev_M} {x1 : Int32} {x2 : Int32} {x3 : Int32} {j4 : Option ev_V} {j5 : Option ev_V} {j6 : Option ev_V} {q : ev_M}, k17 s x1 x2 x3 = some q → RR 180 17 [oR 138 0, oI x1, oI x2, oI x3, j4, j5, j6] [] s (cvV q)) : ∀ (n : Nat) (s : ev_M) (x1 : Int32) (x2 : Int32) (x3 : Int32) (x4 : Int32) (j5 : Option ev_V) (j6 : Option ev_V) (q : ev_M), fRounds_goLeastWay_h27 k17 n s x1 x2 x3 x4 = some q → RR 180 27 [oR 138 0, oI x1, oI x2, oI x3, oI x4, j5, j6] [] s (cvV q) := by
  intro n
  induction n with
  | zero => intro s x1 x2 x3 x4 j5 j6 q h; cases h
  | succ n ih =>
    have hk27 : ∀ {s : ev_M} {x1 : Int32} {x2 : Int32} {x3 : Int32} {x4 : Int32} {j5 : Option ev_V} {j6 : Option ev_V} {q : ev_M}, fRounds_goLeastWay_h27 k17 n s x1 x2 x3 x4 = some q → RR 180 27 [oR 138 0, oI x1, oI x2, oI x3, oI x4, j5, j6] [] s (cvV q) := fun h => ih _ _ _ _ _ _ _ _ h
    intro s x1 x2 x3 x4 j5 j6 q h
    refine rg_step 3 (G' := fun f => if x4 < x2 then evT f 180 33 [oR 138 0, oI x1, oI x2, oI x3, oI x4, nn, nn] [] s else evT f 180 101 [oR 138 0, oI x1, oI x2, oI x3, oI x4, nn, nn] [] s) (fun _ => rfl) (rg_if h (fun h => ?_) fun h => ?_)
    · refine rg_step 5 (G' := fun f => ev_after (evT f 182 0 [oR 138 0, oI x2, oI x3, oI x4, nn, nn, nn, nn] [] s) (fun q => evT f 180 41 [oR 138 0, oI x1, oI x2, oI x3, oI x4, nn, nn] (q.2 ++ []) q.1)) (fun _ => rfl) (rg_bd1 h fun v2 hc h => rg_call (q := cvP s v2) (T_fRounds_bestNext hc) ?_)
      refine rg_step 5 (G' := fun f => if inb x3 256 = true then evT f 180 49 [oR 138 0, oI x1, oI x2, oI x3, oI x4, oI v2, nn] [vR 193 (ix x3)] s else none) (fun _ => rfl) (rg_gd h fun h => ?_)
      refine rg_step 4 (G' := fun f => if v2 = (cI (-1)) then evT f 180 57 [oR 138 0, oI x1, oI x2, oI x3, oI x4, oI v2, nn] [vI x4, vR 193 (ix x3)] s else evT f 180 69 [oR 138 0, oI x1, oI x2, oI x3, oI x4, oI v2, nn] [vI x4, vR 193 (ix x3)] s) (fun _ => rfl) (rg_if h (fun h => ?_) fun h => ?_)
      · refine rg_step 4 (G' := fun f => if inb x4 9 = true then evT f 180 64 [oR 138 0, oI x1, oI x2, oI x3, oI x4, oI v2, nn] [vR 183 (ix x4), vI x4, vR 193 (ix x3)] s else none) (fun _ => rfl) (rg_gd h fun h => ?_)
        refine rg_step 2 (G' := fun f => if inb x2 9 = true then evT f 180 66 [oR 138 0, oI x1, oI x2, oI x3, oI x4, oI v2, nn] [vI (s.1 (183 + (ix x4)) (ix x2)), vI x4, vR 193 (ix x3)] s else none) (fun _ => rfl) (rg_gd h fun h => ?_)
        exact rg_step 1 (G' := fun f => evT f 180 94 [oR 138 0, oI x1, oI x2, oI x3, oI x4, oI v2, nn] [vI (s.1 (183 + (ix x4)) (ix x2)), vI x4, vR 193 (ix x3)] s) (fun _ => rfl) ((t_fRounds_goLeastWay_b94 hk17 hk27) h)
      · refine rg_step 4 (G' := fun f => if inb x4 9 = true then evT f 180 76 [oR 138 0, oI x1, oI x2, oI x3, oI x4, oI v2, nn] [vR 183 (ix x4), vI x4, vR 193 (ix x3)] s else none) (fun _ => rfl) (rg_gd h fun h => ?_)
        refine rg_step 2 (G' := fun f => if inb v2 9 = true then evT f 180 79 [oR 138 0, oI x1, oI x2, oI x3, oI x4, oI v2, nn] [vI (s.1 (183 + (ix x4)) (ix v2)), vI x4, vR 193 (ix x3)] s else none) (fun _ => rfl) (rg_gd h fun h => ?_)
        refine rg_step 8 (G' := fun f => if inb (x3 ^^^ ((cI 1) <<< (v2 &&& 31))) 256 = true then evT f 180 90 [oR 138 0, oI x1, oI x2, oI x3, oI x4, oI v2, nn] [vR 193 (ix (x3 ^^^ ((cI 1) <<< (v2 &&& 31)))), vI (s.1 (183 + (ix x4)) (ix v2)), vI x4, vR 193 (ix x3)] s else none) (fun _ => rfl) (rg_gd h fun h => ?_)
        refine rg_step 2 (G' := fun f => if inb v2 8 = true then evT f 180 93 [oR 138 0, oI x1, oI x2, oI x3, oI x4, oI v2, nn] [vI (s.1 (193 + (ix (x3 ^^^ ((cI 1) <<< (v2 &&& 31))))) (ix v2)), vI (s.1 (183 + (ix x4)) (ix v2)), vI x4, vR 193 (ix x3)] s else none) (fun _ => rfl) (rg_gd h fun h => ?_)
        exact rg_step 1 (G' := fun f => evT f 180 94 [oR 138 0, oI x1, oI x2, oI x3, oI x4, oI v2, nn] [vI ((s.1 (183 + (ix x4)) (ix v2)) + (s.1 (193 + (ix (x3 ^^^ ((cI 1) <<< (v2 &&& 31))))) (ix v2))), vI x4, vR 193 (ix x3)] s) (fun _ => rfl) ((t_fRounds_goLeastWay_b94 hk17 hk27) h)
    · exact rg_step 2 (G' := fun f => evT f 180 17 [oR 138 0, oI x1, oI x2, oI (x3 + cI 1), oI x4, nn, nn] [] s) (fun _ => rfl) (hk17 h)
theorem t_fRounds_goLeastWay_h27 {k17 : ev_M → Int32 → Int32 → Int32 → Option ev_M} (hk17 : ∀ {s : ev_M} {x1 : Int32} {x2 : Int32} {x3 : Int32} {j4 : Option ev_V} {j5 : Option ev_V} {j6 : Option ev_V} {q : ev_M}, k17 s x1 x2 x3 = some q → RR 180 17 [oR 138 0, oI x1, oI x2, oI x3, j4, j5, j6] [] s (cvV q)) {n : Nat} {s : ev_M} {x1 : Int32} {x2 : Int32} {x3 : Int32} {x4 : Int32} {j5 : Option ev_V} {j6 : Option ev_V} {q : ev_M} (h : fRounds_goLeastWay_h27 k17 n s x1 x2 x3 x4 = some q) : RR 180 27 [oR 138 0, oI x1, oI x2, oI x3, oI x4, j5, j6] [] s (cvV q) := ti_fRounds_goLeastWay_h27 hk17 n s x1 x2 x3 x4 j5 j6 q h
theorem ti_fRounds_goLeastWay_h119 : ∀ (n : Nat) (s : ev_M) (x1 : Int32) (x2 : Int32) (x3 : Int32) (x4 : Int32) (x5 : Int32) (j6 : Option ev_V) (q : ev_M), fRounds_goLeastWay_h119 n s x1 x2 x3 x4 x5 = some q → RR 180 119 [oR 138 0, oI x1, oI x2, oI x3, oI x4, oI x5, j6] [] s (cvV q) := by
  intro n
  induction n with
  | zero => intro s x1 x2 x3 x4 x5 j6 q h; cases h
  | succ n ih =>
    have hk119 : ∀ {s : ev_M} {x1 : Int32} {x2 : Int32} {x3 : Int32} {x4 : Int32} {x5 : Int32} {j6 : Option ev_V} {q : ev_M}, fRounds_goLeastWay_h119 n s x1 x2 x3 x4 x5 = some q → RR 180 119 [oR 138 0, oI x1, oI x2, oI x3, oI x4, oI x5, j6] [] s (cvV q) := fun h => ih _ _ _ _ _ _ _ _ h
    intro s x1 x2 x3 x4 x5 j6 q h
    refine rg_step 3 (G' := fun f => if x5 < x2 then evT f 180 125 [oR 138 0, oI x1, oI x2, oI x3, oI x4, oI x5, nn] [] s else evT f 180 175 [oR 138 0, oI x1, oI x2, oI x3, oI x4, oI x5, nn] [] s) (fun _ => rfl) (rg_if h (fun h => ?_) fun h => ?_)
    · refine rg_step 5 (G' := fun f => ev_after (evT f 182 0 [oR 138 0, oI x2, oI x3, oI x4, nn, nn, nn, nn] [] s) (fun q => evT f 180 133 [oR 138 0, oI x1, oI x2, oI x3, oI x4, oI x5, nn] (q.2 ++ []) q.1)) (fun _ => rfl) (rg_bd1 h fun v3 hc h => rg_call (q := cvP s v3) (T_fRounds_bestNext hc) ?_)
      refine rg_step 4 (G' := fun f => if v3 = (cI (-1)) then evT f 180 141 [oR 138 0, oI x1, oI x2, oI x3, oI x4, oI x5, oI v3] [] s else evT f 180 142 [oR 138 0, oI x1, oI x2, oI x3, oI x4, oI x5, oI v3] [] s) (fun _ => rfl) (rg_if h (fun h => ?_) fun h => ?_)
      · exact rg_end 1 (fun _ => rfl) (by cases h; rfl)
      · refine rg_step 6 (G' := fun f => evT f 180 149 [oR 138 0, oI x1, oI x2, oI (x3 ^^^ ((cI 1) <<< (v3 &&& 31))), oI x4, oI x5, oI v3] [] s) (fun _ => rfl) (rg_ltI (P := fun v4 => RG (fun f => evT f 180 149 [oR 138 0, oI x1, oI x2, oI v4, oI x4, oI x5, oI v3] [] s) (cvV q)) h fun v4 h => ?_)
        refine rg_step 7 (G' := fun f => if inb x1 12 = true then evT f 180 161 [oR 138 0, oI x1, oI x2, oI v4, oI x4, oI x5, oI v3] [vR 146 (ix x1), vI x5, vR 175 0] s else none) (fun _ => rfl) (rg_gd h fun h => ?_)
        refine rg_step 2 (G' := fun f => if inb v3 20 = true then evT f 180 164 [oR 138 0, oI x1, oI x2, oI v4, oI x4, oI x5, oI v3] [vI (s.1 (146 + (ix x1)) (ix v3)), vI x5, vR 175 0] s else none) (fun _ => rfl) (rg_gd h fun h => ?_)
        refine rg_step 1 (G' := fun f => if inb x5 300 = true then evT f 180 165 [oR 138 0, oI x1, oI x2, oI v4, oI x4, oI x5, oI v3] [] (wI s 175 (ix x5) (s.1 (146 + (ix x1)) (ix v3))) else none) (fun _ => rfl) (rg_gd h fun h => rg_ltM h fun s5 h => ?_)
        exact rg_step 4 (G' := fun f => evT f 180 119 [oR 138 0, oI x1, oI x2, oI v4, oI v3, oI (x5 + cI 1), oI v3] [] s5) (fun _ => rfl) (hk119 h)
    · refine rg_step 7 (G' := fun f => if inb x1 12 = true then evT f 180 186 [oR 138 0, oI x1, oI x2, oI x3, oI x4, oI x5, nn] [vR 146 (ix x1), vI (cI 0), vR 175 0] s else none) (fun _ => rfl) (rg_gd h fun h => ?_)
      refine rg_step 3 (G' := fun f => ev_after ((fACP s 300 20 175 (146 + (ix x1)) (cI 0) (cI 0) x2).map cvV) (fun q => evT f 180 191 [oR 138 0, oI x1, oI x2, oI x3, oI x4, oI x5, nn] (q.2 ++ []) q.1)) (fun _ => rfl) (rg_bd1 h fun s6 hc h => rg_prm (q := cvV s6) (by rw [hc]; rfl) ?_)
      exact rg_end 1 (fun _ => rfl) (by cases h; rfl)
theorem t_fRounds_goLeastWay_h119 {n : Nat} {s : ev_M} {x1 : Int32} {x2 : Int32} {x3 : Int32} {x4 : Int32} {x5 : Int32} {j6 : Option ev_V} {q : ev_M} (h : fRounds_goLeastWay_h119 n s x1 x2 x3 x4 x5 = some q) : RR 180 119 [oR 138 0, oI x1, oI x2, oI x3, oI x4, oI x5, j6] [] s (cvV q) := ti_fRounds_goLeastWay_h119 n s x1 x2 x3 x4 x5 j6 q h
theorem ti_fRounds_goLeastWay_h17 : ∀ (n : Nat) (s : ev_M) (x1 : Int32) (x2 : Int32) (x3 : Int32) (j4 : Option ev_V) (j5 : Option ev_V) (j6 : Option ev_V) (q : ev_M), fRounds_goLeastWay_h17 n s x1 x2 x3 = some q → RR 180 17 [oR 138 0, oI x1, oI x2, oI x3, j4, j5, j6] [] s (cvV q) := by
  intro n
  induction n with
  | zero => intro s x1 x2 x3 j4 j5 j6 q h; cases h
  | succ n ih =>
    have hk17 : ∀ {s : ev_M} {x1 : Int32} {x2 : Int32} {x3 : Int32} {j4 : Option ev_V} {j5 : Option ev_V} {j6 : Option ev_V} {q : ev_M}, fRounds_goLeastWay_h17 n s x1 x2 x3 = some q → RR 180 17 [oR 138 0, oI x1, oI x2, oI x3, j4, j5, j6] [] s (cvV q) := fun h => ih _ _ _ _ _ _ _ _ h
    intro s x1 x2 x3 j4 j5 j6 q h
    refine rg_step 5 (G' := fun f => if x3 < ((cI 1) <<< (x2 &&& 31)) then evT f 180 24 [oR 138 0, oI x1, oI x2, oI x3, nn, nn, nn] [] s else evT f 180 107 [oR 138 0, oI x1, oI x2, oI x3, nn, nn, nn] [] s) (fun _ => rfl) (rg_if h (fun h => ?_) fun h => ?_)
    · exact rg_step 2 (G' := fun f => evT f 180 27 [oR 138 0, oI x1, oI x2, oI x3, oI (cI 0), nn, nn] [] s) (fun _ => rfl) ((t_fRounds_goLeastWay_h27 hk17) h)
    · refine rg_step 6 (G' := fun f => evT f 180 113 [oR 138 0, oI x1, oI x2, oI (((cI 1) <<< (x2 &&& 31)) - (cI 1)), nn, nn, nn] [] s) (fun _ => rfl) (rg_ltI (P := fun v7 => RG (fun f => evT f 180 113 [oR 138 0, oI x1, oI x2, oI v7, nn, nn, nn] [] s) (cvV q)) h fun v7 h => ?_)
      exact rg_step 4 (G' := fun f => evT f 180 119 [oR 138 0, oI x1, oI x2, oI v7, oI x2, oI (cI 0), nn] [] s) (fun _ => rfl) ((t_fRounds_goLeastWay_h119) h)
theorem t_fRounds_goLeastWay_h17 {n : Nat} {s : ev_M} {x1 : Int32} {x2 : Int32} {x3 : Int32} {j4 : Option ev_V} {j5 : Option ev_V} {j6 : Option ev_V} {q : ev_M} (h : fRounds_goLeastWay_h17 n s x1 x2 x3 = some q) : RR 180 17 [oR 138 0, oI x1, oI x2, oI x3, j4, j5, j6] [] s (cvV q) := ti_fRounds_goLeastWay_h17 n s x1 x2 x3 j4 j5 j6 q h
theorem T_fRounds_goLeastWay {s : ev_M} {a1 : Int32} {q : ev_M} (h : fRounds_goLeastWay s a1 = some q) : RR 180 0 [oR 138 0, oI a1, nn, nn, nn, nn, nn] [] s (cvV q) := by
  refine rg_step 6 (G' := fun f => if inb a1 12 = true then evT f 180 8 [oR 138 0, oI a1, nn, nn, nn, nn, nn] [vI (s.1 (140 + (ix (cI 3))) (ix a1))] s else none) (fun _ => rfl) (rg_gd h fun h => ?_)
  refine rg_step 1 (G' := fun f => evT f 180 9 [oR 138 0, oI a1, oI (s.1 (140 + (ix (cI 3))) (ix a1)), nn, nn, nn, nn] [] s) (fun _ => rfl) (rg_ltI (P := fun v8 => RG (fun f => evT f 180 9 [oR 138 0, oI a1, oI v8, nn, nn, nn, nn] [] s) (cvV q)) h fun v8 h => ?_)
  refine rg_step 4 (G' := fun f => ev_after (evT f 181 0 [oR 138 0, oI a1, oI v8, nn, nn] [] s) (fun q => evT f 180 15 [oR 138 0, oI a1, oI v8, nn, nn, nn, nn] (q.2 ++ []) q.1)) (fun _ => rfl) (rg_bd1 h fun s9 hc h => rg_call (q := cvV s9) (T_fRounds_measure hc) ?_)
  exact rg_step 2 (G' := fun f => evT f 180 17 [oR 138 0, oI a1, oI v8, oI (cI 0), nn, nn, nn] [] s9) (fun _ => rfl) ((t_fRounds_goLeastWay_h17) h)
theorem t_fRounds_goToNearest_b90 {k9 : ev_M → Int32 → Nat → Int32 → Option ev_M} {k31 : ev_M → Int32 → Nat → Int32 → Int32 → Int32 → Int32 → Option ev_M} (hk9 : ∀ {s : ev_M} {x1 : Int32} {i2 : Nat} {x3 : Int32} {j4 : Option ev_V} {j5 : Option ev_V} {j6 : Option ev_V} {j7 : Option ev_V} {q : ev_M}, k9 s x1 i2 x3 = some q → RR 179 9 [oR 138 0, oI x1, oR 146 i2, oI x3, j4, j5, j6, j7] [] s (cvV q)) (hk31 : ∀ {s : ev_M} {x1 : Int32} {i2 : Nat} {x3 : Int32} {x4 : Int32} {x5 : Int32} {x6 : Int32} {j7 : Option ev_V} {q : ev_M}, k31 s x1 i2 x3 x4 x5 x6 = some q → RR 179 31 [oR 138 0, oI x1, oR 146 i2, oI x3, oI x4, oI x5, oI x6, j7] [] s (cvV q)) {s : ev_M} {x1 : Int32} {i2 : Nat} {x3 : Int32} {x4 : Int32} {x5 : Int32} {x6 : Int32} {j7 : Option ev_V} {q : ev_M} (h : fRounds_goToNearest_b90 k9 k31 s x1 i2 x3 x4 x5 x6 = some q) : RR 179 90 [oR 138 0, oI x1, oR 146 i2, oI x3, oI x4, oI x5, oI x6, j7] [] s (cvV q) := by
  exact rg_step 2 (G' := fun f => evT f 179 31 [oR 138 0, oI x1, oR 146 i2, oI x3, oI x4, oI x5, oI (x6 + cI 1), nn] [] s) (fun _ => rfl) (hk31 h)
theorem t_fRounds_goToNearest_b73 {k9 : ev_M → Int32 → Nat → Int32 → Option ev_M} {k31 : ev_M → Int32 → Nat → Int32 → Int32 → Int32 → Int32 → Option ev_M} (hk9 : ∀ {s : ev_M} {x1 : Int32} {i2 : Nat} {x3 : Int32} {j4 : Option ev_V} {j5 : Option ev_V} {j6 : Option ev_V} {j7 : Option ev_V} {q : ev_M}, k9 s x1 i2 x3 = some q → RR 179 9 [oR 138 0, oI x1, oR 146 i2, oI x3, j4, j5, j6, j7] [] s (cvV q)) (hk31 : ∀ {s : ev_M} {x1 : Int32} {i2 : Nat} {x3 : Int32} {x4 : Int32} {x5 : Int32} {x6 : Int32} {j7 : Option ev_V} {q : ev_M}, k31 s x1 i2 x3 x4 x5 x6 = some q → RR 179 31 [oR 138 0, oI x1, oR 146 i2, oI x3, oI x4, oI x5, oI x6, j7] [] s (cvV q)) {s : ev_M} {x1 : Int32} {i2 : Nat} {x3 : Int32} {x4 : Int32} {x5 : Int32} {x6 : Int32} {y0 : Int32} {j7 : Option ev_V} {q : ev_M} (h : fRounds_goToNearest_b73 k9 k31 s x1 i2 x3 x4 x5 x6 y0 = some q) : RR 179 73 [oR 138 0, oI x1, oR 146 i2, oI x3, oI x4, oI x5, oI x6, j7] [vI y0] s (cvV q) := by
  refine rg_step 4 (G' := fun f => if y0 < x5 then evT f 179 82 [oR 138 0, oI x1, oR 146 i2, oI x3, oI x4, oI x5, oI x6, oI y0] [] s else evT f 179 90 [oR 138 0, oI x1, oR 146 i2, oI x3, oI x4, oI x5, oI x6, oI y0] [] s) (fun _ => rfl) (rg_if h (fun h => ?_) fun h => ?_)
  · exact rg_step 4 (G' := fun f => evT f 179 90 [oR 138 0, oI x1, oR 146 i2, oI x3, oI x6, oI y0, oI x6, oI y0] [] s) (fun _ => rfl) ((t_fRounds_goToNearest_b90 hk9 hk31) h)
  · exact (t_fRounds_goToNearest_b90 hk9 hk31) h
theorem ti_fRounds_goToNearest_h106 {k9 : ev_M → Int32 → Nat → Int32 → Option ev_M} (hk9 : ∀ {s : ev_M} {x1 : Int32} {i2 : Nat} {x3 : Int32} {j4 : Option ev_V} {j5 : Option ev_V} {j6 : Option ev_V} {j7 : Option ev_V} {q : ev_M}, k9 s x1 i2 x3 = some q → RR 179 9 [oR 138 0, oI x1, oR 146 i2, oI x3, j4, j5, j6, j7] [] s (cvV q)) : ∀ (n : Nat) (s : ev_M) (x1 : Int32) (i2 : Nat) (x3 : Int32) (x6 : Int32) (x7 : Int32) (j4 : Option ev_V) (j5 : Option ev_V) (q : ev_M), fRounds_goToNearest_h106 k9 n s x1 i2 x3 x6 x7 = some q → RR 179 106 [oR 138 0, oI x1, oR 146 i2, oI x3, j4, j5, oI x6, oI x7] [] s (cvV q) := by
  intro n
  induction n with
  | zero => intro s x1 i2 x3 x6 x7 j4 j5 q h; cases h
  | succ n ih =>
    have hk106 : ∀ {s : ev_M} {x1 : Int32} {i2 : Nat} {x3 : Int32} {x6 : Int32} {x7 : Int32} {j4 : Option ev_V} {j5 : Option ev_V} {q : ev_M}, fRounds_goToNearest_h106 k9 n s x1 i2 x3 x6 x7 = some q → RR 179 106 [oR 138 0, oI x1, oR 146 i2, oI x3, j4, j5, oI x6, oI x7] [] s (cvV q) := fun h => ih _ _ _ _ _ _ _ _ _ h
    intro s x1 i2 x3 x6 x7 j4 j5 q h
    refine rg_step 3 (G' := fun f => if x7 ≤ x3 then evT f 179 128 [oR 138 0, oI x1, oR 146 i2, oI x3, nn, nn, oI x6, oI x7] [] s else evT f 179 112 [oR 138 0, oI x1, oR 146 i2, oI x3, nn, nn, oI x6, oI x7] [] s) (fun _ => rfl) (rg_if h (fun h => ?_) fun h => ?_)
    · refine rg_step 4 (G' := fun f => if inb x3 20 = true then evT f 179 133 [oR 138 0, oI x1, oR 146 i2, oI x3, nn, nn, oI x6, oI x7] [] (wI s (146 + i2) (ix x3) x6) else none) (fun _ => rfl) (rg_gd h fun h => rg_ltM h fun s1 h => ?_)
      exact rg_step 2 (G' := fun f => evT f 179 9 [oR 138 0, oI x1, oR 146 i2, oI (x3 + cI 1), nn, nn, oI x6, oI x7] [] s1) (fun _ => rfl) (hk9 h)
    · refine rg_step 7 (G' := fun f => if inb (x7 - (cI 1)) 20 = true then evT f 179 121 [oR 138 0, oI x1, oR 146 i2, oI x3, nn, nn, oI x6, oI x7] [vI (s.1 (146 + i2) (ix (x7 - (cI 1)))), vI x7, vR 146 i2] s else none) (fun _ => rfl) (rg_gd h fun h => ?_)
      refine rg_step 1 (G' := fun f => if inb x7 20 = true then evT f 179 122 [oR 138 0, oI x1, oR 146 i2, oI x3, nn, nn, oI x6, oI x7] [] (wI s (146 + i2) (ix x7) (s.1 (146 + i2) (ix (x7 - (cI 1))))) else none) (fun _ => rfl) (rg_gd h fun h => rg_ltM h fun s2 h => ?_)
      exact rg_step 2 (G' := fun f => evT f 179 106 [oR 138 0, oI x1, oR 146 i2, oI x3, nn, nn, oI x6, oI (x7 + cI (-1))] [] s2) (fun f => Eq.trans (b := evT (f + 1 + 1) 179 122 [oR 138 0, oI x1, oR 146 i2, oI x3, nn, nn, oI x6, oI x7] [] s2) rfl ((ev_inc (f := f + 1) (M := 179) (pc := 122) (i := 7) (n := 3) (c := (-1)) (r := 0) (dl := []) (L := [oR 138 0, oI x1, oR 146 i2, oI x3, nn, nn, oI x6, oI x7]) (L' := [oR 138 0, oI x1, oR 146 i2, oI x3, nn, nn, oI x6, oI (x7 + cI (-1))]) (s := s2) (y := x7) rfl rfl rfl).trans rfl)) (hk106 h)
theorem t_fRounds_goToNearest_h106 {k9 : ev_M → Int32 → Nat → Int32 → Option ev_M} (hk9 : ∀ {s : ev_M} {x1 : Int32} {i2 : Nat} {x3 : Int32} {j4 : Option ev_V} {j5 : Option ev_V} {j6 : Option ev_V} {j7 : Option ev_V} {q : ev_M}, k9 s x1 i2 x3 = some q → RR 179 9 [oR 138 0, oI x1, oR 146 i2, oI x3, j4, j5, j6, j7] [] s (cvV q)) {n : Nat} {s : ev_M} {x1 : Int32} {i2 : Nat} {x3 : Int32} {x6 : Int32} {x7 : Int32} {j4 : Option ev_V} {j5 : Option ev_V} {q : ev_M} (h : fRounds_goToNearest_h106 k9 n s x1 i2 x3 x6 x7 = some q) : RR 179 106 [oR 138 0, oI x1, oR 146 i2, oI x3, j4, j5, oI x6, oI x7] [] s (cvV q) := ti_fRounds_goToNearest_h106 hk9 n s x1 i2 x3 x6 x7 j4 j5 q h
theorem ti_fRounds_goToNearest_h31 {k9 : ev_M → Int32 → Nat → Int32 → Option ev_M} (hk9 : ∀ {s : ev_M} {x1 : Int32} {i2 : Nat} {x3 : Int32} {j4 : Option ev_V} {j5 : Option ev_V} {j6 : Option ev_V} {j7 : Option ev_V} {q : ev_M}, k9 s x1 i2 x3 = some q → RR 179 9 [oR 138 0, oI x1, oR 146 i2, oI x3, j4, j5, j6, j7] [] s (cvV q)) : ∀ (n : Nat) (s : ev_M) (x1 : Int32) (i2 : Nat) (x3 : Int32) (x4 : Int32) (x5 : Int32) (x6 : Int32) (j7 : Option ev_V) (q : ev_M), fRounds_goToNearest_h31 k9 n s x1 i2 x3 x4 x5 x6 = some q → RR 179 31 [oR 138 0, oI x1, oR 146 i2, oI x3, oI x4, oI x5, oI x6, j7] [] s (cvV q) := by
  intro n
  induction n with
  | zero => intro s x1 i2 x3 x4 x5 x6 j7 q h; cases h
  | succ n ih =>
    have hk31 : ∀ {s : ev_M} {x1 : Int32} {i2 : Nat} {x3 : Int32} {x4 : Int32} {x5 : Int32} {x6 : Int32} {j7 : Option ev_V} {q : ev_M}, fRounds_goToNearest_h31 k9 n s x1 i2 x3 x4 x5 x6 = some q → RR 179 31 [oR 138 0, oI x1, oR 146 i2, oI x3, oI x4, oI x5, oI x6, j7] [] s (cvV q) := fun h => ih _ _ _ _ _ _ _ _ _ h
    intro s x1 i2 x3 x4 x5 x6 j7 q h
    refine rg_step 7 (G' := fun f => if inb x1 12 = true then evT f 179 41 [oR 138 0, oI x1, oR 146 i2, oI x3, oI x4, oI x5, oI x6, nn] [vI (s.1 (140 + (ix (cI 3))) (ix x1)), vI x6] s else none) (fun _ => rfl) (rg_gd h fun h => ?_)
    refine rg_step 1 (G' := fun f => if x6 < (s.1 (140 + (ix (cI 3))) (ix x1)) then evT f 179 44 [oR 138 0, oI x1, oR 146 i2, oI x3, oI x4, oI x5, oI x6, nn] [] s else evT f 179 96 [oR 138 0, oI x1, oR 146 i2, oI x3, oI x4, oI x5, oI x6, nn] [] s) (fun _ => rfl) (rg_if h (fun h => ?_) fun h => ?_)
    · refine rg_step 2 (G' := fun f => if x3 = 0 then evT f 179 48 [oR 138 0, oI x1, oR 146 i2, oI x3, oI x4, oI x5, oI x6, nn] [] s else evT f 179 60 [oR 138 0, oI x1, oR 146 i2, oI x3, oI x4, oI x5, oI x6, nn] [] s) (fun _ => rfl) (rg_if h (fun h => ?_) fun h => ?_)
      · refine rg_step 5 (G' := fun f => if inb x6 20 = true then evT f 179 54 [oR 138 0, oI x1, oR 146 i2, oI x3, oI x4, oI x5, oI x6, nn] [vI (s.1 (146 + i2) (ix x6)), vI x1, vR 138 0] s else none) (fun _ => rfl) (rg_gd h fun h => ?_)
        refine rg_step 1 (G' := fun f => ev_after (evT f 178 0 [oR 138 0, oI x1, oI (s.1 (146 + i2) (ix x6))] [] s) (fun q => evT f 179 57 [oR 138 0, oI x1, oR 146 i2, oI x3, oI x4, oI x5, oI x6, nn] (q.2 ++ []) q.1)) (fun _ => rfl) (rg_bd1 h fun v3 hc h => rg_call (q := cvP s v3) (T_fRounds_fromBeginning hc) ?_)
        exact rg_step 1 (G' := fun f => evT f 179 73 [oR 138 0, oI x1, oR 146 i2, oI x3, oI x4, oI x5, oI x6, nn] [vI v3] s) (fun _ => rfl) ((t_fRounds_goToNearest_b73 hk9 hk31) h)
      · refine rg_step 6 (G' := fun f => if inb (x3 - (cI 1)) 20 = true then evT f 179 66 [oR 138 0, oI x1, oR 146 i2, oI x3, oI x4, oI x5, oI x6, nn] [vI (s.1 (146 + i2) (ix (x3 - (cI 1)))), vR 138 0] s else none) (fun _ => rfl) (rg_gd h fun h => ?_)
        refine rg_step 3 (G' := fun f => if inb x6 20 = true then evT f 179 70 [oR 138 0, oI x1, oR 146 i2, oI x3, oI x4, oI x5, oI x6, nn] [vI (s.1 (146 + i2) (ix x6)), vI (s.1 (146 + i2) (ix (x3 - (cI 1)))), vR 138 0] s else none) (fun _ => rfl) (rg_gd h fun h => ?_)
        refine rg_step 1 (G' := fun f => ev_after (evT f 177 0 [oR 138 0, oI (s.1 (146 + i2) (ix (x3 - (cI 1)))), oI (s.1 (146 + i2) (ix x6))] [] s) (fun q => evT f 179 73 [oR 138 0, oI x1, oR 146 i2, oI x3, oI x4, oI x5, oI x6, nn] (q.2 ++ []) q.1)) (fun _ => rfl) (rg_bd1 h fun v4 hc h => rg_call (q := cvP s v4) (T_fRounds_between hc) ?_)
        exact (t_fRounds_goToNearest_b73 hk9 hk31) h
    · refine rg_step 3 (G' := fun f => if inb x4 20 = true then evT f 179 100 [oR 138 0, oI x1, oR 146 i2, oI x3, oI x4, oI x5, oI x6, nn] [vI (s.1 (146 + i2) (ix x4))] s else none) (fun _ => rfl) (rg_gd h fun h => ?_)
      refine rg_step 1 (G' := fun f => evT f 179 102 [oR 138 0, oI x1, oR 146 i2, oI x3, oI x4, oI x5, oI (s.1 (146 + i2) (ix x4)), nn] [] s) (fun _ => rfl) (rg_ltI (P := fun v5 => RG (fun f => evT f 179 102 [oR 138 0, oI x1, oR 146 i2, oI x3, oI x4, oI x5, oI v5, nn] [] s) (cvV q)) h fun v5 h => ?_)
      exact rg_step 2 (G' := fun f => evT f 179 106 [oR 138 0, oI x1, oR 146 i2, oI x3, oI x4, oI x5, oI v5, oI x4] [] s) (fun _ => rfl) ((t_fRounds_goToNearest_h106 hk9) h)
theorem t_fRounds_goToNearest_h31 {k9 : ev_M → Int32 → Nat → Int32 → Option ev_M} (hk9 : ∀ {s : ev_M} {x1 : Int32} {i2 : Nat} {x3 : Int32} {j4 : Option ev_V} {j5 : Option ev_V} {j6 : Option ev_V} {j7 : Option ev_V} {q : ev_M}, k9 s x1 i2 x3 = some q → RR 179 9 [oR 138 0, oI x1, oR 146 i2, oI x3, j4, j5, j6, j7] [] s (cvV q)) {n : Nat} {s : ev_M} {x1 : Int32} {i2 : Nat} {x3 : Int32} {x4 : Int32} {x5 : Int32} {x6 : Int32} {j7 : Option ev_V} {q : ev_M} (h : fRounds_goToNearest_h31 k9 n s x1 i2 x3 x4 x5 x6 = some q) : RR 179 31 [oR 138 0, oI x1, oR 146 i2, oI x3, oI x4, oI x5, oI x6, j7] [] s (cvV q) := ti_fRounds_goToNearest_h31 hk9 n s x1 i2 x3 x4 x5 x6 j7 q h
theorem ti_fRounds_goToNearest_h9 : ∀ (n : Nat) (s : ev_M) (x1 : Int32) (i2 : Nat) (x3 : Int32) (j4 : Option ev_V) (j5 : Option ev_V) (j6 : Option ev_V) (j7 : Option ev_V) (q : ev_M), fRounds_goToNearest_h9 n s x1 i2 x3 = some q → RR 179 9 [oR 138 0, oI x1, oR 146 i2, oI x3, j4, j5, j6, j7] [] s (cvV q) := by
  intro n
  induction n with
  | zero => intro s x1 i2 x3 j4 j5 j6 j7 q h; cases h
  | succ n ih =>
    have hk9 : ∀ {s : ev_M} {x1 : Int32} {i2 : Nat} {x3 : Int32} {j4 : Option ev_V} {j5 : Option ev_V} {j6 : Option ev_V} {j7 : Option ev_V} {q : ev_M}, fRounds_goToNearest_h9 n s x1 i2 x3 = some q → RR 179 9 [oR 138 0, oI x1, oR 146 i2, oI x3, j4, j5, j6, j7] [] s (cvV q) := fun h => ih _ _ _ _ _ _ _ _ _ h
    intro s x1 i2 x3 j4 j5 j6 j7 q h
    refine rg_step 7 (G' := fun f => if inb x1 12 = true then evT f 179 18 [oR 138 0, oI x1, oR 146 i2, oI x3, nn, nn, nn, nn] [vI (s.1 (140 + (ix (cI 3))) (ix x1)), vI x3] s else none) (fun _ => rfl) (rg_gd h fun h => ?_)
    refine rg_step 1 (G' := fun f => if x3 < (s.1 (140 + (ix (cI 3))) (ix x1)) then evT f 179 21 [oR 138 0, oI x1, oR 146 i2, oI x3, nn, nn, nn, nn] [] s else evT f 179 139 [oR 138 0, oI x1, oR 146 i2, oI x3, nn, nn, nn, nn] [] s) (fun _ => rfl) (rg_if h (fun h => ?_) fun h => ?_)
    · exact rg_step 6 (G' := fun f => evT f 179 31 [oR 138 0, oI x1, oR 146 i2, oI x3, oI x3, oI (cI 2147483647), oI x3, nn] [] s) (fun _ => rfl) ((t_fRounds_goToNearest_h31 hk9) h)
    · exact rg_end 1 (fun _ => rfl) (by cases h; rfl)
theorem t_fRounds_goToNearest_h9 {n : Nat} {s : ev_M} {x1 : Int32} {i2 : Nat} {x3 : Int32} {j4 : Option ev_V} {j5 : Option ev_V} {j6 : Option ev_V} {j7 : Option ev_V} {q : ev_M} (h : fRounds_goToNearest_h9 n s x1 i2 x3 = some q) : RR 179 9 [oR 138 0, oI x1, oR 146 i2, oI x3, j4, j5, j6, j7] [] s (cvV q) := ti_fRounds_goToNearest_h9 n s x1 i2 x3 j4 j5 j6 j7 q h
theorem T_fRounds_goToNearest {s : ev_M} {a1 : Int32} {q : ev_M} (h : fRounds_goToNearest s a1 = some q) : RR 179 0 [oR 138 0, oI a1, nn, nn, nn, nn, nn, nn] [] s (cvV q) := by
  refine rg_step 4 (G' := fun f => if inb a1 12 = true then evT f 179 6 [oR 138 0, oI a1, nn, nn, nn, nn, nn, nn] [vR 146 (ix a1)] s else none) (fun _ => rfl) (rg_gd h fun h => ?_)
  exact rg_step 3 (G' := fun f => evT f 179 9 [oR 138 0, oI a1, oR 146 (ix a1), oI (cI 0), nn, nn, nn, nn] [] s) (fun _ => rfl) ((t_fRounds_goToNearest_h9) h)
theorem t_fRounds_arrangeStops_b91 {k43 : ev_M → Int32 → Int32 → Nat → Int32 → Option (ev_M × Int32)} (hk43 : ∀ {s : ev_M} {x1 : Int32} {x2 : Int32} {i3 : Nat} {x4 : Int32} {j5 : Option ev_V} {j6 : Option ev_V} {q : ev_M × Int32}, k43 s x1 x2 i3 x4 = some q → RR 175 43 [oR 138 0, oI x1, oI x2, oR 146 i3, oI x4, j5, j6] [] s (cvI q)) {s : ev_M} {x1 : Int32} {x2 : Int32} {i3 : Nat} {x4 : Int32} {x5 : Int32} {x6 : Int32} {q : ev_M × Int32} (h : fRounds_arrangeStops_b91 k43 s x1 x2 i3 x4 x5 x6 = some q) : RR 175 91 [oR 138 0, oI x1, oI x2, oR 146 i3, oI x4, oI x5, oI x6] [] s (cvI q) := by
  refine rg_step 4 (G' := fun f => if inb x6 20 = true then evT f 175 97 [oR 138 0, oI x1, oI x2, oR 146 i3, oI x4, oI x5, oI x6] [] (wI s (146 + i3) (ix x6) x5) else none) (fun _ => rfl) (rg_gd h fun h => rg_ltM h fun s1 h => ?_)
  exact rg_step 2 (G' := fun f => evT f 175 43 [oR 138 0, oI x1, oI x2, oR 146 i3, oI (x4 + cI 1), oI x5, oI x6] [] s1) (fun _ => rfl) (hk43 h)
theorem ti_fRounds_arrangeStops_h59 {k43 : ev_M → Int32 → Int32 → Nat → Int32 → Option (ev_M × Int32)} (hk43 : ∀ {s : ev_M} {x1 : Int32} {x2 : Int32} {i3 : Nat} {x4 : Int32} {j5 : Option ev_V} {j6 : Option ev_V} {q : ev_M × Int32}, k43 s x1 x2 i3 x4 = some q → RR 175 43 [oR 138 0, oI x1, oI x2, oR 146 i3, oI x4, j5, j6] [] s (cvI q)) : ∀ (n : Nat) (s : ev_M) (x1 : Int32) (x2 : Int32) (i3 : Nat) (x4 : Int32) (x5 : Int32) (x6 : Int32) (q : ev_M × Int32), fRounds_arrangeStops_h59 k43 n s x1 x2 i3 x4 x5 x6 = some q → RR 175 59 [oR 138 0, oI x1, oI x2, oR 146 i3, oI x4, oI x5, oI x6] [] s (cvI q) := by
  intro n
  induction n with
  | zero => intro s x1 x2 i3 x4 x5 x6 q h; cases h
  | succ n ih =>
    have hk59 : ∀ {s : ev_M} {x1 : Int32} {x2 : Int32} {i3 : Nat} {x4 : Int32} {x5 : Int32} {x6 : Int32} {q : ev_M × Int32}, fRounds_arrangeStops_h59 k43 n s x1 x2 i3 x4 x5 x6 = some q → RR 175 59 [oR 138 0, oI x1, oI x2, oR 146 i3, oI x4, oI x5, oI x6] [] s (cvI q) := fun h => ih _ _ _ _ _ _ _ _ h
    intro s x1 x2 i3 x4 x5 x6 q h
    refine rg_step 2 (G' := fun f => if x6 ≤ 0 then evT f 175 91 [oR 138 0, oI x1, oI x2, oR 146 i3, oI x4, oI x5, oI x6] [] s else evT f 175 64 [oR 138 0, oI x1, oI x2, oR 146 i3, oI x4, oI x5, oI x6] [] s) (fun _ => rfl) (rg_if h (fun h => ?_) fun h => ?_)
    · exact (t_fRounds_arrangeStops_b91 hk43) h
    · refine rg_step 5 (G' := fun f => if inb (x6 - (cI 1)) 20 = true then evT f 175 70 [oR 138 0, oI x1, oI x2, oR 146 i3, oI x4, oI x5, oI x6] [vI (s.1 (146 + i3) (ix (x6 - (cI 1))))] s else none) (fun _ => rfl) (rg_gd h fun h => ?_)
      refine rg_step 2 (G' := fun f => if (s.1 (146 + i3) (ix (x6 - (cI 1)))) ≤ x5 then evT f 175 91 [oR 138 0, oI x1, oI x2, oR 146 i3, oI x4, oI x5, oI x6] [] s else evT f 175 75 [oR 138 0, oI x1, oI x2, oR 146 i3, oI x4, oI x5, oI x6] [] s) (fun _ => rfl) (rg_if h (fun h => ?_) fun h => ?_)
      · exact (t_fRounds_arrangeStops_b91 hk43) h
      · refine rg_step 7 (G' := fun f => if inb (x6 - (cI 1)) 20 = true then evT f 175 84 [oR 138 0, oI x1, oI x2, oR 146 i3, oI x4, oI x5, oI x6] [vI (s.1 (146 + i3) (ix (x6 - (cI 1)))), vI x6, vR 146 i3] s else none) (fun _ => rfl) (rg_gd h fun h => ?_)
        refine rg_step 1 (G' := fun f => if inb x6 20 = true then evT f 175 85 [oR 138 0, oI x1, oI x2, oR 146 i3, oI x4, oI x5, oI x6] [] (wI s (146 + i3) (ix x6) (s.1 (146 + i3) (ix (x6 - (cI 1))))) else none) (fun _ => rfl) (rg_gd h fun h => rg_ltM h fun s2 h => ?_)
        exact rg_step 2 (G' := fun f => evT f 175 59 [oR 138 0, oI x1, oI x2, oR 146 i3, oI x4, oI x5, oI (x6 + cI (-1))] [] s2) (fun f => Eq.trans (b := evT (f + 1 + 1) 175 85 [oR 138 0, oI x1, oI x2, oR 146 i3, oI x4, oI x5, oI x6] [] s2) rfl ((ev_inc (f := f + 1) (M := 175) (pc := 85) (i := 6) (n := 3) (c := (-1)) (r := 0) (dl := []) (L := [oR 138 0, oI x1, oI x2, oR 146 i3, oI x4, oI x5, oI x6]) (L' := [oR 138 0, oI x1, oI x2, oR 146 i3, oI x4, oI x5, oI (x6 + cI (-1))]) (s := s2) (y := x6) rfl rfl rfl).trans rfl)) (hk59 h)
theorem t_fRounds_arrangeStops_h59 {k43 : ev_M → Int32 → Int32 → Nat → Int32 → Option (ev_M × Int32)} (hk43 : ∀ {s : ev_M} {x1 : Int32} {x2 : Int32} {i3 : Nat} {x4 : Int32} {j5 : Option ev_V} {j6 : Option ev_V} {q : ev_M × Int32}, k43 s x1 x2 i3 x4 = some q → RR 175 43 [oR 138 0, oI x1, oI x2, oR 146 i3, oI x4, j5, j6] [] s (cvI q)) {n : Nat} {s : ev_M} {x1 : Int32} {x2 : Int32} {i3 : Nat} {x4 : Int32} {x5 : Int32} {x6 : Int32} {q : ev_M × Int32} (h : fRounds_arrangeStops_h59 k43 n s x1 x2 i3 x4 x5 x6 = some q) : RR 175 59 [oR 138 0, oI x1, oI x2, oR 146 i3, oI x4, oI x5, oI x6] [] s (cvI q) := ti_fRounds_arrangeStops_h59 hk43 n s x1 x2 i3 x4 x5 x6 q h
theorem t_fRounds_arrangeStops_b122 {s : ev_M} {x1 : Int32} {j2 : Option ev_V} {j3 : Option ev_V} {j4 : Option ev_V} {j5 : Option ev_V} {j6 : Option ev_V} {q : ev_M × Int32} (h : fRounds_arrangeStops_b122 s x1 = some q) : RR 175 122 [oR 138 0, oI x1, j2, j3, j4, j5, j6] [] s (cvI q) := by
  refine rg_step 3 (G' := fun f => ev_after (evT f 176 0 [oR 138 0, oI x1, nn, nn, nn] [] s) (fun q => evT f 175 127 [oR 138 0, oI x1, nn, nn, nn, nn, nn] (q.2 ++ []) q.1)) (fun _ => rfl) (rg_bd1 h fun v3 hc h => rg_call (q := cvP s v3) (T_fRounds_wayOf hc) ?_)
  exact rg_end 1 (fun _ => rfl) (by cases h; rfl)
theorem ti_fRounds_arrangeStops_h43 : ∀ (n : Nat) (s : ev_M) (x1 : Int32) (x2 : Int32) (i3 : Nat) (x4 : Int32) (j5 : Option ev_V) (j6 : Option ev_V) (q : ev_M × Int32), fRounds_arrangeStops_h43 n s x1 x2 i3 x4 = some q → RR 175 43 [oR 138 0, oI x1, oI x2, oR 146 i3, oI x4, j5, j6] [] s (cvI q) := by
  intro n
  induction n with
  | zero => intro s x1 x2 i3 x4 j5 j6 q h; cases h
  | succ n ih =>
    have hk43 : ∀ {s : ev_M} {x1 : Int32} {x2 : Int32} {i3 : Nat} {x4 : Int32} {j5 : Option ev_V} {j6 : Option ev_V} {q : ev_M × Int32}, fRounds_arrangeStops_h43 n s x1 x2 i3 x4 = some q → RR 175 43 [oR 138 0, oI x1, oI x2, oR 146 i3, oI x4, j5, j6] [] s (cvI q) := fun h => ih _ _ _ _ _ _ _ _ h
    intro s x1 x2 i3 x4 j5 j6 q h
    refine rg_step 3 (G' := fun f => if x4 < x2 then evT f 175 49 [oR 138 0, oI x1, oI x2, oR 146 i3, oI x4, nn, nn] [] s else evT f 175 103 [oR 138 0, oI x1, oI x2, oR 146 i3, oI x4, nn, nn] [] s) (fun _ => rfl) (rg_if h (fun h => ?_) fun h => ?_)
    · refine rg_step 3 (G' := fun f => if inb x4 20 = true then evT f 175 53 [oR 138 0, oI x1, oI x2, oR 146 i3, oI x4, nn, nn] [vI (s.1 (146 + i3) (ix x4))] s else none) (fun _ => rfl) (rg_gd h fun h => ?_)
      refine rg_step 1 (G' := fun f => evT f 175 55 [oR 138 0, oI x1, oI x2, oR 146 i3, oI x4, oI (s.1 (146 + i3) (ix x4)), nn] [] s) (fun _ => rfl) (rg_ltI (P := fun v4 => RG (fun f => evT f 175 55 [oR 138 0, oI x1, oI x2, oR 146 i3, oI x4, oI v4, nn] [] s) (cvI q)) h fun v4 h => ?_)
      exact rg_step 2 (G' := fun f => evT f 175 59 [oR 138 0, oI x1, oI x2, oR 146 i3, oI x4, oI v4, oI x4] [] s) (fun _ => rfl) ((t_fRounds_arrangeStops_h59 hk43) h)
    · refine rg_step 3 (G' := fun f => if x2 ≤ (cI 8) then evT f 175 117 [oR 138 0, oI x1, oI x2, oR 146 i3, oI x4, nn, nn] [] s else evT f 175 109 [oR 138 0, oI x1, oI x2, oR 146 i3, oI x4, nn, nn] [] s) (fun _ => rfl) (rg_if h (fun h => ?_) fun h => ?_)
      · refine rg_step 3 (G' := fun f => ev_after (evT f 180 0 [oR 138 0, oI x1, nn, nn, nn, nn, nn] [] s) (fun q => evT f 175 122 [oR 138 0, oI x1, oI x2, oR 146 i3, oI x4, nn, nn] (q.2 ++ []) q.1)) (fun _ => rfl) (rg_bd1 h fun s5 hc h => rg_call (q := cvV s5) (T_fRounds_goLeastWay hc) ?_)
        exact (t_fRounds_arrangeStops_b122) h
      · refine rg_step 3 (G' := fun f => ev_after (evT f 179 0 [oR 138 0, oI x1, nn, nn, nn, nn, nn, nn] [] s) (fun q => evT f 175 114 [oR 138 0, oI x1, oI x2, oR 146 i3, oI x4, nn, nn] (q.2 ++ []) q.1)) (fun _ => rfl) (rg_bd1 h fun s6 hc h => rg_call (q := cvV s6) (T_fRounds_goToNearest hc) ?_)
        exact rg_step 1 (G' := fun f => evT f 175 122 [oR 138 0, oI x1, oI x2, oR 146 i3, oI x4, nn, nn] [] s6) (fun _ => rfl) ((t_fRounds_arrangeStops_b122) h)
theorem t_fRounds_arrangeStops_h43 {n : Nat} {s : ev_M} {x1 : Int32} {x2 : Int32} {i3 : Nat} {x4 : Int32} {j5 : Option ev_V} {j6 : Option ev_V} {q : ev_M × Int32} (h : fRounds_arrangeStops_h43 n s x1 x2 i3 x4 = some q) : RR 175 43 [oR 138 0, oI x1, oI x2, oR 146 i3, oI x4, j5, j6] [] s (cvI q) := ti_fRounds_arrangeStops_h43 n s x1 x2 i3 x4 j5 j6 q h
theorem T_fRounds_arrangeStops {s : ev_M} {a1 : Int32} {q : ev_M × Int32} (h : fRounds_arrangeStops s a1 = some q) : RR 175 0 [oR 138 0, oI a1, nn, nn, nn, nn, nn] [] s (cvI q) := by
  refine rg_step 3 (G' := fun f => ev_after (evT f 168 0 [oR 138 0, oI a1] [] s) (fun q => evT f 175 5 [oR 138 0, oI a1, nn, nn, nn, nn, nn] (q.2 ++ []) q.1)) (fun _ => rfl) (rg_bd1 h fun v7 hc h => rg_call (q := cvP s v7) (T_fRounds_has hc) ?_)
  refine rg_step 1 (G' := fun f => if v7 = 0 then evT f 175 8 [oR 138 0, oI a1, nn, nn, nn, nn, nn] [] s else evT f 175 11 [oR 138 0, oI a1, nn, nn, nn, nn, nn] [] s) (fun _ => rfl) (rg_if h (fun h => ?_) fun h => ?_)
  · exact rg_end 2 (fun _ => rfl) (by cases h; rfl)
  · refine rg_step 3 (G' := fun f => ev_after (evT f 123 0 [oR 9 0, nn] [] s) (fun q => evT f 175 18 [oR 138 0, oI a1, nn, nn, nn, nn, nn] (q.2 ++ []) q.1)) (fun _ => rfl) (rg_bd2 h fun s8 v9 hc h => rg_call (q := cvI (s8, v9)) (T_fLog_admits hc) ?_)
    refine rg_step 1 (G' := fun f => if v9 = 0 then evT f 175 21 [oR 138 0, oI a1, nn, nn, nn, nn, nn] [] s8 else evT f 175 24 [oR 138 0, oI a1, nn, nn, nn, nn, nn] [] s8) (fun _ => rfl) (rg_if h (fun h => ?_) fun h => ?_)
    · exact rg_end 2 (fun _ => rfl) (by cases h; rfl)
    · refine rg_step 6 (G' := fun f => if inb a1 12 = true then evT f 175 32 [oR 138 0, oI a1, nn, nn, nn, nn, nn] [vI (s8.1 (140 + (ix (cI 3))) (ix a1))] s8 else none) (fun _ => rfl) (rg_gd h fun h => ?_)
      refine rg_step 1 (G' := fun f => evT f 175 33 [oR 138 0, oI a1, oI (s8.1 (140 + (ix (cI 3))) (ix a1)), nn, nn, nn, nn] [] s8) (fun _ => rfl) (rg_ltI (P := fun v10 => RG (fun f => evT f 175 33 [oR 138 0, oI a1, oI v10, nn, nn, nn, nn] [] s8) (cvI q)) h fun v10 h => ?_)
      refine rg_step 4 (G' := fun f => if inb a1 12 = true then evT f 175 39 [oR 138 0, oI a1, oI v10, nn, nn, nn, nn] [vR 146 (ix a1)] s8 else none) (fun _ => rfl) (rg_gd h fun h => ?_)
      exact rg_step 3 (G' := fun f => evT f 175 43 [oR 138 0, oI a1, oI v10, oR 146 (ix a1), oI (cI 1), nn, nn] [] s8) (fun _ => rfl) ((t_fRounds_arrangeStops_h43) h)
theorem t_fRounds_addStray_b48 {s : ev_M} {x1 : Int32} {x2 : Int32} {q : ev_M} (h : fRounds_addStray_b48 s x1 x2 = some q) : RR 191 48 [oR 138 0, oI x1, oI x2] [] s (cvV q) := by
  refine rg_step 5 (G' := fun f => if inb x2 300 = true then evT f 191 55 [oR 138 0, oI x1, oI x2] [] (wI s 173 (ix x2) x1) else none) (fun _ => rfl) (rg_gd h fun h => rg_ltM h fun s1 h => ?_)
  exact rg_end 1 (fun _ => rfl) (by cases h; rfl)
theorem ti_fRounds_addStray_h12 : ∀ (n : Nat) (s : ev_M) (x1 : Int32) (x2 : Int32) (q : ev_M), fRounds_addStray_h12 n s x1 x2 = some q → RR 191 12 [oR 138 0, oI x1, oI x2] [] s (cvV q) := by
  intro n
  induction n with
  | zero => intro s x1 x2 q h; cases h
  | succ n ih =>
    have hk12 : ∀ {s : ev_M} {x1 : Int32} {x2 : Int32} {q : ev_M}, fRounds_addStray_h12 n s x1 x2 = some q → RR 191 12 [oR 138 0, oI x1, oI x2] [] s (cvV q) := fun h => ih _ _ _ _ h
    intro s x1 x2 q h
    refine rg_step 2 (G' := fun f => if x2 ≤ 0 then evT f 191 48 [oR 138 0, oI x1, oI x2] [] s else evT f 191 16 [oR 138 0, oI x1, oI x2] [] s) (fun _ => rfl) (rg_if h (fun h => ?_) fun h => ?_)
    · exact (t_fRounds_addStray_b48) h
    · refine rg_step 6 (G' := fun f => if inb (x2 - (cI 1)) 300 = true then evT f 191 24 [oR 138 0, oI x1, oI x2] [vI (s.1 173 (ix (x2 - (cI 1))))] s else none) (fun _ => rfl) (rg_gd h fun h => ?_)
      refine rg_step 2 (G' := fun f => if (s.1 173 (ix (x2 - (cI 1)))) ≤ x1 then evT f 191 48 [oR 138 0, oI x1, oI x2] [] s else evT f 191 28 [oR 138 0, oI x1, oI x2] [] s) (fun _ => rfl) (rg_if h (fun h => ?_) fun h => ?_)
      · exact (t_fRounds_addStray_b48) h
      · refine rg_step 9 (G' := fun f => if inb (x2 - (cI 1)) 300 = true then evT f 191 41 [oR 138 0, oI x1, oI x2] [vI (s.1 173 (ix (x2 - (cI 1)))), vI x2, vR 173 0] s else none) (fun _ => rfl) (rg_gd h fun h => ?_)
        refine rg_step 1 (G' := fun f => if inb x2 300 = true then evT f 191 42 [oR 138 0, oI x1, oI x2] [] (wI s 173 (ix x2) (s.1 173 (ix (x2 - (cI 1))))) else none) (fun _ => rfl) (rg_gd h fun h => rg_ltM h fun s2 h => ?_)
        exact rg_step 2 (G' := fun f => evT f 191 12 [oR 138 0, oI x1, oI (x2 + cI (-1))] [] s2) (fun f => Eq.trans (b := evT (f + 1 + 1) 191 42 [oR 138 0, oI x1, oI x2] [] s2) rfl ((ev_inc (f := f + 1) (M := 191) (pc := 42) (i := 2) (n := 3) (c := (-1)) (r := 0) (dl := []) (L := [oR 138 0, oI x1, oI x2]) (L' := [oR 138 0, oI x1, oI (x2 + cI (-1))]) (s := s2) (y := x2) rfl rfl rfl).trans rfl)) (hk12 h)
theorem t_fRounds_addStray_h12 {n : Nat} {s : ev_M} {x1 : Int32} {x2 : Int32} {q : ev_M} (h : fRounds_addStray_h12 n s x1 x2 = some q) : RR 191 12 [oR 138 0, oI x1, oI x2] [] s (cvV q) := ti_fRounds_addStray_h12 n s x1 x2 q h
theorem T_fRounds_addStray {s : ev_M} {a1 : Int32} {q : ev_M} (h : fRounds_addStray s a1 = some q) : RR 191 0 [oR 138 0, oI a1, nn] [] s (cvV q) := by
  refine rg_step 7 (G' := fun f => evT f 191 11 [oR 138 0, oI a1, nn] [vI (s.1 138 10)] (wI s 138 10 ((s.1 138 10) + (cI 1)))) (fun _ => rfl) (rg_ltM h fun s3 h => ?_)
  refine rg_step 1 (G' := fun f => evT f 191 12 [oR 138 0, oI a1, oI (s.1 138 10)] [] s3) (fun _ => rfl) (rg_ltI (P := fun v4 => RG (fun f => evT f 191 12 [oR 138 0, oI a1, oI v4] [] s3) (cvV q)) h fun v4 h => ?_)
  exact (t_fRounds_addStray_h12) h
theorem t_fRounds_keepSorted_b69 {k2 : ev_M → Int32 → Int32 → Option ev_M} (hk2 : ∀ {s : ev_M} {x1 : Int32} {x2 : Int32} {j3 : Option ev_V} {q : ev_M}, k2 s x1 x2 = some q → RR 190 2 [oR 138 0, oI x1, oI x2, j3] [] s (cvV q)) {s : ev_M} {x1 : Int32} {x2 : Int32} {j3 : Option ev_V} {q : ev_M} (h : fRounds_keepSorted_b69 k2 s x1 x2 = some q) : RR 190 69 [oR 138 0, oI x1, oI x2, j3] [] s (cvV q) := by
  exact rg_step 2 (G' := fun f => evT f 190 2 [oR 138 0, oI x1, oI (x2 + cI 1), nn] [] s) (fun _ => rfl) (hk2 h)
theorem t_fRounds_keepSorted_b117 {k82 : ev_M → Int32 → Option ev_M} (hk82 : ∀ {s : ev_M} {x2 : Int32} {j1 : Option ev_V} {j3 : Option ev_V} {q : ev_M}, k82 s x2 = some q → RR 190 82 [oR 138 0, j1, oI x2, j3] [] s (cvV q)) {s : ev_M} {x2 : Int32} {j1 : Option ev_V} {j3 : Option ev_V} {q : ev_M} (h : fRounds_keepSorted_b117 k82 s x2 = some q) : RR 190 117 [oR 138 0, j1, oI x2, j3] [] s (cvV q) := by
  exact rg_step 2 (G' := fun f => evT f 190 82 [oR 138 0, nn, oI (x2 + cI 1), nn] [] s) (fun _ => rfl) (hk82 h)
theorem ti_fRounds_keepSorted_h82 : ∀ (n : Nat) (s : ev_M) (x2 : Int32) (j1 : Option ev_V) (j3 : Option ev_V) (q : ev_M), fRounds_keepSorted_h82 n s x2 = some q → RR 190 82 [oR 138 0, j1, oI x2, j3] [] s (cvV q) := by
  intro n
  induction n with
  | zero => intro s x2 j1 j3 q h; cases h
  | succ n ih =>
    have hk82 : ∀ {s : ev_M} {x2 : Int32} {j1 : Option ev_V} {j3 : Option ev_V} {q : ev_M}, fRounds_keepSorted_h82 n s x2 = some q → RR 190 82 [oR 138 0, j1, oI x2, j3] [] s (cvV q) := fun h => ih _ _ _ _ _ h
    intro s x2 j1 j3 q h
    refine rg_step 4 (G' := fun f => if x2 < (s.1 138 12) then evT f 190 90 [oR 138 0, nn, oI x2, nn] [] s else evT f 190 123 [oR 138 0, nn, oI x2, nn] [] s) (fun _ => rfl) (rg_if h (fun h => ?_) fun h => ?_)
    · refine rg_step 8 (G' := fun f => if inb x2 300 = true then evT f 190 102 [oR 138 0, nn, oI x2, nn] [vI (s.1 174 (ix x2)), vR 177 (ix (cI 2))] s else none) (fun _ => rfl) (rg_gd h fun h => ?_)
      refine rg_step 1 (G' := fun f => if inb (s.1 174 (ix x2)) 300 = true then evT f 190 103 [oR 138 0, nn, oI x2, nn] [vI (s.1 (177 + (ix (cI 2))) (ix (s.1 174 (ix x2))))] s else none) (fun _ => rfl) (rg_gd h fun h => ?_)
      refine rg_step 2 (G' := fun f => if (s.1 (177 + (ix (cI 2))) (ix (s.1 174 (ix x2)))) = (cI 1) then evT f 190 107 [oR 138 0, nn, oI x2, nn] [] s else evT f 190 117 [oR 138 0, nn, oI x2, nn] [] s) (fun _ => rfl) (rg_if h (fun h => ?_) fun h => ?_)
      · refine rg_step 5 (G' := fun f => if inb x2 300 = true then evT f 190 114 [oR 138 0, nn, oI x2, nn] [vI (s.1 174 (ix x2)), vR 138 0] s else none) (fun _ => rfl) (rg_gd h fun h => ?_)
        refine rg_step 1 (G' := fun f => ev_after (evT f 191 0 [oR 138 0, oI (s.1 174 (ix x2)), nn] [] s) (fun q => evT f 190 117 [oR 138 0, nn, oI x2, nn] (q.2 ++ []) q.1)) (fun _ => rfl) (rg_bd1 h fun s1 hc h => rg_call (q := cvV s1) (T_fRounds_addStray hc) ?_)
        exact (t_fRounds_keepSorted_b117 hk82) h
      · exact (t_fRounds_keepSorted_b117 hk82) h
    · exact rg_end 1 (fun _ => rfl) (by cases h; rfl)
theorem t_fRounds_keepSorted_h82 {n : Nat} {s : ev_M} {x2 : Int32} {j1 : Option ev_V} {j3 : Option ev_V} {q : ev_M} (h : fRounds_keepSorted_h82 n s x2 = some q) : RR 190 82 [oR 138 0, j1, oI x2, j3] [] s (cvV q) := ti_fRounds_keepSorted_h82 n s x2 j1 j3 q h
theorem ti_fRounds_keepSorted_h2 : ∀ (n : Nat) (s : ev_M) (x1 : Int32) (x2 : Int32) (j3 : Option ev_V) (q : ev_M), fRounds_keepSorted_h2 n s x1 x2 = some q → RR 190 2 [oR 138 0, oI x1, oI x2, j3] [] s (cvV q) := by
  intro n
  induction n with
  | zero => intro s x1 x2 j3 q h; cases h
  | succ n ih =>
    have hk2 : ∀ {s : ev_M} {x1 : Int32} {x2 : Int32} {j3 : Option ev_V} {q : ev_M}, fRounds_keepSorted_h2 n s x1 x2 = some q → RR 190 2 [oR 138 0, oI x1, oI x2, j3] [] s (cvV q) := fun h => ih _ _ _ _ _ h
    intro s x1 x2 j3 q h
    refine rg_step 4 (G' := fun f => if x2 < (s.1 138 12) then evT f 190 10 [oR 138 0, oI x1, oI x2, nn] [] s else evT f 190 75 [oR 138 0, oI x1, oI x2, nn] [] s) (fun _ => rfl) (rg_if h (fun h => ?_) fun h => ?_)
    · refine rg_step 4 (G' := fun f => if inb x2 300 = true then evT f 190 16 [oR 138 0, oI x1, oI x2, nn] [vI (s.1 174 (ix x2))] s else none) (fun _ => rfl) (rg_gd h fun h => ?_)
      refine rg_step 1 (G' := fun f => evT f 190 17 [oR 138 0, oI x1, oI x2, oI (s.1 174 (ix x2))] [] s) (fun _ => rfl) (rg_ltI (P := fun v2 => RG (fun f => evT f 190 17 [oR 138 0, oI x1, oI x2, oI v2] [] s) (cvV q)) h fun v2 h => ?_)
      refine rg_step 5 (G' := fun f => if inb x2 300 = true then evT f 190 24 [oR 138 0, oI x1, oI x2, oI v2] [] (wI s 175 (ix x2) v2) else none) (fun _ => rfl) (rg_gd h fun h => rg_ltM h fun s3 h => ?_)
      refine rg_step 6 (G' := fun f => if inb v2 300 = true then evT f 190 32 [oR 138 0, oI x1, oI x2, oI v2] [vI (s3.1 (177 + (ix (cI 2))) (ix v2))] s3 else none) (fun _ => rfl) (rg_gd h fun h => ?_)
      refine rg_step 2 (G' := fun f => if (s3.1 (177 + (ix (cI 2))) (ix v2)) = (cI 1) then evT f 190 36 [oR 138 0, oI x1, oI x2, oI v2] [] s3 else evT f 190 39 [oR 138 0, oI x1, oI x2, oI v2] [] s3) (fun _ => rfl) (rg_if h (fun h => ?_) fun h => ?_)
      · exact rg_step 1 (G' := fun f => evT f 190 69 [oR 138 0, oI x1, oI x2, oI v2] [] s3) (fun _ => rfl) ((t_fRounds_keepSorted_b69 hk2) h)
      · refine rg_step 4 (G' := fun f => if inb x1 12 = true then evT f 190 45 [oR 138 0, oI x1, oI x2, oI v2] [vR 160 (ix x1)] s3 else none) (fun _ => rfl) (rg_gd h fun h => ?_)
        refine rg_step 7 (G' := fun f => if inb x1 12 = true then evT f 190 54 [oR 138 0, oI x1, oI x2, oI v2] [vI (s3.1 (140 + (ix (cI 4))) (ix x1)), vI x1, vR 140 (ix (cI 4)), vR 160 (ix x1)] s3 else none) (fun _ => rfl) (rg_gd h fun h => ?_)
        refine rg_step 4 (G' := fun f => if inb x1 12 = true then evT f 190 58 [oR 138 0, oI x1, oI x2, oI v2] [vI (s3.1 (140 + (ix (cI 4))) (ix x1)), vR 160 (ix x1)] (wI s3 (140 + (ix (cI 4))) (ix x1) ((s3.1 (140 + (ix (cI 4))) (ix x1)) + (cI 1))) else none) (fun _ => rfl) (rg_gd h fun h => rg_ltM h fun s4 h => ?_)
        refine rg_step 2 (G' := fun f => if inb (s3.1 (140 + (ix (cI 4))) (ix x1)) 300 = true then evT f 190 60 [oR 138 0, oI x1, oI x2, oI v2] [] (wI s4 (160 + (ix x1)) (ix (s3.1 (140 + (ix (cI 4))) (ix x1))) v2) else none) (fun _ => rfl) (rg_gd h fun h => rg_ltM h fun s5 h => ?_)
        refine rg_step 5 (G' := fun f => ev_after (evT f 55 0 [oR 100 0, oI v2, oI (cI 3)] [] s5) (fun q => evT f 190 69 [oR 138 0, oI x1, oI x2, oI v2] (q.2 ++ []) q.1)) (fun _ => rfl) (rg_bd1 h fun s6 hc h => rg_call (q := cvV s6) (T_fItems_come hc) ?_)
        exact (t_fRounds_keepSorted_b69 hk2) h
    · refine rg_step 3 (G' := fun f => evT f 190 80 [oR 138 0, oI x1, oI x2, nn] [] (wI s 138 10 (cI 0))) (fun _ => rfl) (rg_ltM h fun s7 h => ?_)
      exact rg_step 2 (G' := fun f => evT f 190 82 [oR 138 0, oI x1, oI (cI 0), nn] [] s7) (fun _ => rfl) ((t_fRounds_keepSorted_h82) h)
theorem t_fRounds_keepSorted_h2 {n : Nat} {s : ev_M} {x1 : Int32} {x2 : Int32} {j3 : Option ev_V} {q : ev_M} (h : fRounds_keepSorted_h2 n s x1 x2 = some q) : RR 190 2 [oR 138 0, oI x1, oI x2, j3] [] s (cvV q) := ti_fRounds_keepSorted_h2 n s x1 x2 j3 q h
theorem T_fRounds_keepSorted {s : ev_M} {a1 : Int32} {q : ev_M} (h : fRounds_keepSorted s a1 = some q) : RR 190 0 [oR 138 0, oI a1, nn, nn] [] s (cvV q) := by
  exact rg_step 2 (G' := fun f => evT f 190 2 [oR 138 0, oI a1, oI (cI 0), nn] [] s) (fun _ => rfl) ((t_fRounds_keepSorted_h2) h)
theorem t_fRounds_binReached_b78 {k2 : ev_M → Int32 → Int32 → Int32 → Option (ev_M × Int32)} (hk2 : ∀ {s : ev_M} {x1 : Int32} {x2 : Int32} {x3 : Int32} {j4 : Option ev_V} {j5 : Option ev_V} {q : ev_M × Int32}, k2 s x1 x2 x3 = some q → RR 189 2 [oR 138 0, oI x1, oI x2, oI x3, j4, j5] [] s (cvI q)) {s : ev_M} {x1 : Int32} {x2 : Int32} {x3 : Int32} {j4 : Option ev_V} {j5 : Option ev_V} {q : ev_M × Int32} (h : fRounds_binReached_b78 k2 s x1 x2 x3 = some q) : RR 189 78 [oR 138 0, oI x1, oI x2, oI x3, j4, j5] [] s (cvI q) := by
  refine rg_step 5 (G' := fun f => if inb x3 16 = true then evT f 189 85 [oR 138 0, oI x1, oI x2, oI x3, nn, nn] [] (wI s 181 (ix x3) x1) else none) (fun _ => rfl) (rg_gd h fun h => rg_ltM h fun s1 h => ?_)
  refine rg_step 4 (G' := fun f => if inb x3 16 = true then evT f 189 91 [oR 138 0, oI x1, oI x2, oI x3, nn, nn] [vI (s1.1 180 (ix x3))] s1 else none) (fun _ => rfl) (rg_gd h fun h => ?_)
  refine rg_step 1 (G' := fun f => if (s1.1 180 (ix x3)) = 0 then evT f 189 96 [oR 138 0, oI x1, oI x2, oI x3, nn, nn] [] s1 else evT f 189 94 [oR 138 0, oI x1, oI x2, oI x3, nn, nn] [] s1) (fun _ => rfl) (rg_if h (fun h => ?_) fun h => ?_)
  · exact rg_step 2 (G' := fun f => evT f 189 2 [oR 138 0, oI x1, oI x2, oI (x3 + cI 1), nn, nn] [] s1) (fun _ => rfl) (hk2 h)
  · exact rg_end 2 (fun _ => rfl) (by cases h; rfl)
theorem t_fRounds_binReached_b63 {k2 : ev_M → Int32 → Int32 → Int32 → Option (ev_M × Int32)} (hk2 : ∀ {s : ev_M} {x1 : Int32} {x2 : Int32} {x3 : Int32} {j4 : Option ev_V} {j5 : Option ev_V} {q : ev_M × Int32}, k2 s x1 x2 x3 = some q → RR 189 2 [oR 138 0, oI x1, oI x2, oI x3, j4, j5] [] s (cvI q)) {s : ev_M} {x1 : Int32} {x2 : Int32} {x3 : Int32} {x4 : Int32} {y0 : Int32} {j5 : Option ev_V} {q : ev_M × Int32} (h : fRounds_binReached_b63 k2 s x1 x2 x3 x4 y0 = some q) : RR 189 63 [oR 138 0, oI x1, oI x2, oI x3, oI x4, j5] [vI y0] s (cvI q) := by
  refine rg_step 3 (G' := fun f => if y0 = 0 then evT f 189 78 [oR 138 0, oI x1, oI x2, oI x3, oI x4, oI y0] [] s else evT f 189 70 [oR 138 0, oI x1, oI x2, oI x3, oI x4, oI y0] [] s) (fun _ => rfl) (rg_if h (fun h => ?_) fun h => ?_)
  · exact (t_fRounds_binReached_b78 hk2) h
  · refine rg_step 5 (G' := fun f => if inb x3 16 = true then evT f 189 78 [oR 138 0, oI x1, oI x2, oI x3, oI x4, oI y0] [] (wI s 180 (ix x3) (x4 &&& 1)) else none) (fun _ => rfl) (rg_gd h fun h => rg_ltM h fun s2 h => ?_)
    exact (t_fRounds_binReached_b78 hk2) h
theorem t_fRounds_binReached_b58 {k2 : ev_M → Int32 → Int32 → Int32 → Option (ev_M × Int32)} (hk2 : ∀ {s : ev_M} {x1 : Int32} {x2 : Int32} {x3 : Int32} {j4 : Option ev_V} {j5 : Option ev_V} {q : ev_M × Int32}, k2 s x1 x2 x3 = some q → RR 189 2 [oR 138 0, oI x1, oI x2, oI x3, j4, j5] [] s (cvI q)) {s : ev_M} {x1 : Int32} {x2 : Int32} {x3 : Int32} {x4 : Int32} {j5 : Option ev_V} {q : ev_M × Int32} (h : fRounds_binReached_b58 k2 s x1 x2 x3 x4 = some q) : RR 189 58 [oR 138 0, oI x1, oI x2, oI x3, oI x4, j5] [] s (cvI q) := by
  exact rg_step 2 (G' := fun f => evT f 189 63 [oR 138 0, oI x1, oI x2, oI x3, oI x4, nn] [vI (cI 1)] s) (fun _ => rfl) ((t_fRounds_binReached_b63 hk2) h)
theorem t_fRounds_binReached_b22 {k2 : ev_M → Int32 → Int32 → Int32 → Option (ev_M × Int32)} (hk2 : ∀ {s : ev_M} {x1 : Int32} {x2 : Int32} {x3 : Int32} {j4 : Option ev_V} {j5 : Option ev_V} {q : ev_M × Int32}, k2 s x1 x2 x3 = some q → RR 189 2 [oR 138 0, oI x1, oI x2, oI x3, j4, j5] [] s (cvI q)) {s : ev_M} {x1 : Int32} {x2 : Int32} {x3 : Int32} {y0 : Int32} {j4 : Option ev_V} {j5 : Option ev_V} {q : ev_M × Int32} (h : fRounds_binReached_b22 k2 s x1 x2 x3 y0 = some q) : RR 189 22 [oR 138 0, oI x1, oI x2, oI x3, j4, j5] [vI y0] s (cvI q) := by
  refine rg_step 5 (G' := fun f => if inb x3 16 = true then evT f 189 30 [oR 138 0, oI x1, oI x2, oI x3, oI y0, nn] [vI (s.1 181 (ix x3))] s else none) (fun _ => rfl) (rg_gd h fun h => ?_)
  refine rg_step 2 (G' := fun f => if (s.1 181 (ix x3)) = (cI (-1)) then evT f 189 58 [oR 138 0, oI x1, oI x2, oI x3, oI y0, nn] [] s else evT f 189 34 [oR 138 0, oI x1, oI x2, oI x3, oI y0, nn] [] s) (fun _ => rfl) (rg_if h (fun h => ?_) fun h => ?_)
  · exact (t_fRounds_binReached_b58 hk2) h
  · refine rg_step 5 (G' := fun f => if inb x3 16 = true then evT f 189 41 [oR 138 0, oI x1, oI x2, oI x3, oI y0, nn] [vI (s.1 181 (ix x3)), vI x1] s else none) (fun _ => rfl) (rg_gd h fun h => ?_)
    refine rg_step 11 (G' := fun f => if ((x1 - (s.1 181 (ix x3))) * (s.1 172 (ix (cI 1)))) < (s.1 172 (ix (cI 3))) then evT f 189 62 [oR 138 0, oI x1, oI x2, oI x3, oI y0, nn] [] s else evT f 189 58 [oR 138 0, oI x1, oI x2, oI x3, oI y0, nn] [] s) (fun _ => rfl) (rg_if h (fun h => ?_) fun h => ?_)
    · exact rg_step 1 (G' := fun f => evT f 189 63 [oR 138 0, oI x1, oI x2, oI x3, oI y0, nn] [vI (cI 0)] s) (fun _ => rfl) ((t_fRounds_binReached_b63 hk2) h)
    · exact (t_fRounds_binReached_b58 hk2) h
theorem ti_fRounds_binReached_h2 : ∀ (n : Nat) (s : ev_M) (x1 : Int32) (x2 : Int32) (x3 : Int32) (j4 : Option ev_V) (j5 : Option ev_V) (q : ev_M × Int32), fRounds_binReached_h2 n s x1 x2 x3 = some q → RR 189 2 [oR 138 0, oI x1, oI x2, oI x3, j4, j5] [] s (cvI q) := by
  intro n
  induction n with
  | zero => intro s x1 x2 x3 j4 j5 q h; cases h
  | succ n ih =>
    have hk2 : ∀ {s : ev_M} {x1 : Int32} {x2 : Int32} {x3 : Int32} {j4 : Option ev_V} {j5 : Option ev_V} {q : ev_M × Int32}, fRounds_binReached_h2 n s x1 x2 x3 = some q → RR 189 2 [oR 138 0, oI x1, oI x2, oI x3, j4, j5] [] s (cvI q) := fun h => ih _ _ _ _ _ _ _ h
    intro s x1 x2 x3 j4 j5 q h
    refine rg_step 6 (G' := fun f => if x3 < (s.1 172 (ix (cI 0))) then evT f 189 12 [oR 138 0, oI x1, oI x2, oI x3, nn, nn] [] s else evT f 189 102 [oR 138 0, oI x1, oI x2, oI x3, nn, nn] [] s) (fun _ => rfl) (rg_if h (fun h => ?_) fun h => ?_)
    · refine rg_step 3 (G' := fun f => if x3 = x2 then evT f 189 17 [oR 138 0, oI x1, oI x2, oI x3, nn, nn] [] s else evT f 189 21 [oR 138 0, oI x1, oI x2, oI x3, nn, nn] [] s) (fun _ => rfl) (rg_if h (fun h => ?_) fun h => ?_)
      · exact rg_step 2 (G' := fun f => evT f 189 22 [oR 138 0, oI x1, oI x2, oI x3, nn, nn] [vI (cI 1)] s) (fun _ => rfl) ((t_fRounds_binReached_b22 hk2) h)
      · exact rg_step 1 (G' := fun f => evT f 189 22 [oR 138 0, oI x1, oI x2, oI x3, nn, nn] [vI (cI 0)] s) (fun _ => rfl) ((t_fRounds_binReached_b22 hk2) h)
    · exact rg_end 5 (fun _ => rfl) (by cases h; rfl)
theorem t_fRounds_binReached_h2 {n : Nat} {s : ev_M} {x1 : Int32} {x2 : Int32} {x3 : Int32} {j4 : Option ev_V} {j5 : Option ev_V} {q : ev_M × Int32} (h : fRounds_binReached_h2 n s x1 x2 x3 = some q) : RR 189 2 [oR 138 0, oI x1, oI x2, oI x3, j4, j5] [] s (cvI q) := ti_fRounds_binReached_h2 n s x1 x2 x3 j4 j5 q h
theorem T_fRounds_binReached {s : ev_M} {a1 : Int32} {a2 : Int32} {q : ev_M × Int32} (h : fRounds_binReached s a1 a2 = some q) : RR 189 0 [oR 138 0, oI a1, oI a2, nn, nn, nn] [] s (cvI q) := by
  exact rg_step 2 (G' := fun f => evT f 189 2 [oR 138 0, oI a1, oI a2, oI (cI 0), nn, nn] [] s) (fun _ => rfl) ((t_fRounds_binReached_h2) h)
theorem t_fRounds_feedPass_b118 {k47 : ev_M → Int32 → Int32 → Int32 → Option ev_M} (hk47 : ∀ {s : ev_M} {x1 : Int32} {x2 : Int32} {x3 : Int32} {j4 : Option ev_V} {j5 : Option ev_V} {q : ev_M}, k47 s x1 x2 x3 = some q → RR 188 47 [oR 138 0, oI x1, oI x2, oI x3, j4, j5] [] s (cvV q)) {s : ev_M} {x1 : Int32} {x2 : Int32} {x3 : Int32} {j4 : Option ev_V} {j5 : Option ev_V} {q : ev_M} (h : fRounds_feedPass_b118 k47 s x1 x2 x3 = some q) : RR 188 118 [oR 138 0, oI x1, oI x2, oI x3, j4, j5] [] s (cvV q) := by
  exact rg_step 2 (G' := fun f => evT f 188 47 [oR 138 0, oI x1, oI x2, oI (x3 + cI 1), nn, nn] [] s) (fun _ => rfl) (hk47 h)
theorem t_fRounds_feedPass_b182 {k129 : ev_M → Int32 → Int32 → Int32 → Option ev_M} {k138 : ev_M → Int32 → Int32 → Int32 → Int32 → Option ev_M} (hk129 : ∀ {s : ev_M} {x2 : Int32} {x3 : Int32} {x4 : Int32} {j1 : Option ev_V} {j5 : Option ev_V} {q : ev_M}, k129 s x2 x3 x4 = some q → RR 188 129 [oR 138 0, j1, oI x2, oI x3, oI x4, j5] [] s (cvV q)) (hk138 : ∀ {s : ev_M} {x2 : Int32} {x3 : Int32} {x4 : Int32} {x5 : Int32} {j1 : Option ev_V} {q : ev_M}, k138 s x2 x3 x4 x5 = some q → RR 188 138 [oR 138 0, j1, oI x2, oI x3, oI x4, oI x5] [] s (cvV q)) {s : ev_M} {x2 : Int32} {x3 : Int32} {x4 : Int32} {x5 : Int32} {j1 : Option ev_V} {q : ev_M} (h : fRounds_feedPass_b182 k129 k138 s x2 x3 x4 x5 = some q) : RR 188 182 [oR 138 0, j1, oI x2, oI x3, oI x4, oI x5] [] s (cvV q) := by
  exact rg_step 2 (G' := fun f => evT f 188 138 [oR 138 0, nn, oI x2, oI x3, oI x4, oI (x5 + cI 1)] [] s) (fun _ => rfl) (hk138 h)
theorem ti_fRounds_feedPass_h138 {k129 : ev_M → Int32 → Int32 → Int32 → Option ev_M} (hk129 : ∀ {s : ev_M} {x2 : Int32} {x3 : Int32} {x4 : Int32} {j1 : Option ev_V} {j5 : Option ev_V} {q : ev_M}, k129 s x2 x3 x4 = some q → RR 188 129 [oR 138 0, j1, oI x2, oI x3, oI x4, j5] [] s (cvV q)) : ∀ (n : Nat) (s : ev_M) (x2 : Int32) (x3 : Int32) (x4 : Int32) (x5 : Int32) (j1 : Option ev_V) (q : ev_M), fRounds_feedPass_h138 k129 n s x2 x3 x4 x5 = some q → RR 188 138 [oR 138 0, j1, oI x2, oI x3, oI x4, oI x5] [] s (cvV q) := by
  intro n
  induction n with
  | zero => intro s x2 x3 x4 x5 j1 q h; cases h
  | succ n ih =>
    have hk138 : ∀ {s : ev_M} {x2 : Int32} {x3 : Int32} {x4 : Int32} {x5 : Int32} {j1 : Option ev_V} {q : ev_M}, fRounds_feedPass_h138 k129 n s x2 x3 x4 x5 = some q → RR 188 138 [oR 138 0, j1, oI x2, oI x3, oI x4, oI x5] [] s (cvV q) := fun h => ih _ _ _ _ _ _ _ h
    intro s x2 x3 x4 x5 j1 q h
    refine rg_step 4 (G' := fun f => if x5 < (s.1 138 12) then evT f 188 147 [oR 138 0, nn, oI x2, oI x3, oI x4, oI x5] [] s else evT f 188 188 [oR 138 0, nn, oI x2, oI x3, oI x4, oI x5] [] s) (fun _ => rfl) (rg_if h (fun h => ?_) fun h => ?_)
    · refine rg_step 8 (G' := fun f => if inb x5 300 = true then evT f 188 160 [oR 138 0, nn, oI x2, oI x3, oI x4, oI x5] [vI (s.1 174 (ix x5)), vR 177 (ix (cI 1))] s else none) (fun _ => rfl) (rg_gd h fun h => ?_)
      refine rg_step 1 (G' := fun f => if inb (s.1 174 (ix x5)) 300 = true then evT f 188 161 [oR 138 0, nn, oI x2, oI x3, oI x4, oI x5] [vI (s.1 (177 + (ix (cI 1))) (ix (s.1 174 (ix x5))))] s else none) (fun _ => rfl) (rg_gd h fun h => ?_)
      refine rg_step 2 (G' := fun f => if (s.1 (177 + (ix (cI 1))) (ix (s.1 174 (ix x5)))) = x4 then evT f 188 166 [oR 138 0, nn, oI x2, oI x3, oI x4, oI x5] [] s else evT f 188 182 [oR 138 0, nn, oI x2, oI x3, oI x4, oI x5] [] s) (fun _ => rfl) (rg_if h (fun h => ?_) fun h => ?_)
      · refine rg_step 8 (G' := fun f => if inb x5 300 = true then evT f 188 181 [oR 138 0, nn, oI x2, oI (x3 + cI 1), oI x4, oI x5] [vI (s.1 174 (ix x5)), vI x3, vR 175 0] s else none) (fun _ => rfl) (rg_gd h fun h => ?_)
        refine rg_step 1 (G' := fun f => if inb x3 300 = true then evT f 188 182 [oR 138 0, nn, oI x2, oI (x3 + cI 1), oI x4, oI x5] [] (wI s 175 (ix x3) (s.1 174 (ix x5))) else none) (fun _ => rfl) (rg_gd h fun h => rg_ltM h fun s1 h => ?_)
        exact (t_fRounds_feedPass_b182 hk129 hk138) h
      · exact (t_fRounds_feedPass_b182 hk129 hk138) h
    · exact rg_step 2 (G' := fun f => evT f 188 129 [oR 138 0, nn, oI x2, oI x3, oI (x4 + cI 1), oI x5] [] s) (fun _ => rfl) (hk129 h)
theorem t_fRounds_feedPass_h138 {k129 : ev_M → Int32 → Int32 → Int32 → Option ev_M} (hk129 : ∀ {s : ev_M} {x2 : Int32} {x3 : Int32} {x4 : Int32} {j1 : Option ev_V} {j5 : Option ev_V} {q : ev_M}, k129 s x2 x3 x4 = some q → RR 188 129 [oR 138 0, j1, oI x2, oI x3, oI x4, j5] [] s (cvV q)) {n : Nat} {s : ev_M} {x2 : Int32} {x3 : Int32} {x4 : Int32} {x5 : Int32} {j1 : Option ev_V} {q : ev_M} (h : fRounds_feedPass_h138 k129 n s x2 x3 x4 x5 = some q) : RR 188 138 [oR 138 0, j1, oI x2, oI x3, oI x4, oI x5] [] s (cvV q) := ti_fRounds_feedPass_h138 hk129 n s x2 x3 x4 x5 j1 q h
theorem ti_fRounds_feedPass_h129 : ∀ (n : Nat) (s : ev_M) (x2 : Int32) (x3 : Int32) (x4 : Int32) (j1 : Option ev_V) (j5 : Option ev_V) (q : ev_M), fRounds_feedPass_h129 n s x2 x3 x4 = some q → RR 188 129 [oR 138 0, j1, oI x2, oI x3, oI x4, j5] [] s (cvV q) := by
  intro n
  induction n with
  | zero => intro s x2 x3 x4 j1 j5 q h; cases h
  | succ n ih =>
    have hk129 : ∀ {s : ev_M} {x2 : Int32} {x3 : Int32} {x4 : Int32} {j1 : Option ev_V} {j5 : Option ev_V} {q : ev_M}, fRounds_feedPass_h129 n s x2 x3 x4 = some q → RR 188 129 [oR 138 0, j1, oI x2, oI x3, oI x4, j5] [] s (cvV q) := fun h => ih _ _ _ _ _ _ _ h
    intro s x2 x3 x4 j1 j5 q h
    refine rg_step 3 (G' := fun f => if x4 ≤ x2 then evT f 188 135 [oR 138 0, nn, oI x2, oI x3, oI x4, nn] [] s else evT f 188 194 [oR 138 0, nn, oI x2, oI x3, oI x4, nn] [] s) (fun _ => rfl) (rg_if h (fun h => ?_) fun h => ?_)
    · exact rg_step 2 (G' := fun f => evT f 188 138 [oR 138 0, nn, oI x2, oI x3, oI x4, oI (cI 0)] [] s) (fun _ => rfl) ((t_fRounds_feedPass_h138 hk129) h)
    · refine rg_step 9 (G' := fun f => ev_after ((fACP s 300 300 175 174 (cI 0) (cI 0) (s.1 138 12)).map cvV) (fun q => evT f 188 211 [oR 138 0, nn, oI x2, oI x3, oI x4, nn] (q.2 ++ []) q.1)) (fun _ => rfl) (rg_bd1 h fun s2 hc h => rg_prm (q := cvV s2) (by rw [hc]; rfl) ?_)
      exact rg_end 1 (fun _ => rfl) (by cases h; rfl)
theorem t_fRounds_feedPass_h129 {n : Nat} {s : ev_M} {x2 : Int32} {x3 : Int32} {x4 : Int32} {j1 : Option ev_V} {j5 : Option ev_V} {q : ev_M} (h : fRounds_feedPass_h129 n s x2 x3 x4 = some q) : RR 188 129 [oR 138 0, j1, oI x2, oI x3, oI x4, j5] [] s (cvV q) := ti_fRounds_feedPass_h129 n s x2 x3 x4 j1 j5 q h
theorem ti_fRounds_feedPass_h47 : ∀ (n : Nat) (s : ev_M) (x1 : Int32) (x2 : Int32) (x3 : Int32) (j4 : Option ev_V) (j5 : Option ev_V) (q : ev_M), fRounds_feedPass_h47 n s x1 x2 x3 = some q → RR 188 47 [oR 138 0, oI x1, oI x2, oI x3, j4, j5] [] s (cvV q) := by
  intro n
  induction n with
  | zero => intro s x1 x2 x3 j4 j5 q h; cases h
  | succ n ih =>
    have hk47 : ∀ {s : ev_M} {x1 : Int32} {x2 : Int32} {x3 : Int32} {j4 : Option ev_V} {j5 : Option ev_V} {q : ev_M}, fRounds_feedPass_h47 n s x1 x2 x3 = some q → RR 188 47 [oR 138 0, oI x1, oI x2, oI x3, j4, j5] [] s (cvV q) := fun h => ih _ _ _ _ _ _ _ h
    intro s x1 x2 x3 j4 j5 q h
    refine rg_step 4 (G' := fun f => if x3 < (s.1 138 12) then evT f 188 55 [oR 138 0, oI x1, oI x2, oI x3, nn, nn] [] s else evT f 188 124 [oR 138 0, oI x1, oI x2, oI x3, nn, nn] [] s) (fun _ => rfl) (rg_if h (fun h => ?_) fun h => ?_)
    · refine rg_step 4 (G' := fun f => if inb x3 300 = true then evT f 188 61 [oR 138 0, oI x1, oI x2, oI x3, nn, nn] [vI (s.1 174 (ix x3))] s else none) (fun _ => rfl) (rg_gd h fun h => ?_)
      refine rg_step 1 (G' := fun f => evT f 188 63 [oR 138 0, oI x1, oI x2, oI x3, oI (s.1 174 (ix x3)), nn] [] s) (fun _ => rfl) (rg_ltI (P := fun v3 => RG (fun f => evT f 188 63 [oR 138 0, oI x1, oI x2, oI x3, oI v3, nn] [] s) (cvV q)) h fun v3 h => ?_)
      refine rg_step 6 (G' := fun f => if inb v3 300 = true then evT f 188 72 [oR 138 0, oI x1, oI x2, oI x3, oI v3, nn] [vI (s.1 (177 + (ix (cI 0))) (ix v3))] s else none) (fun _ => rfl) (rg_gd h fun h => ?_)
      refine rg_step 2 (G' := fun f => if x1 = 0 then none else evT f 188 74 [oR 138 0, oI x1, oI x2, oI x3, oI v3, nn] [vI ((s.1 (177 + (ix (cI 0))) (ix v3)) / x1)] s) (fun _ => rfl) (rg_dv h fun h => ?_)
      refine rg_step 2 (G' := fun f => if x2 = 0 then none else evT f 188 76 [oR 138 0, oI x1, oI x2, oI x3, oI v3, nn] [vI (irem ((s.1 (177 + (ix (cI 0))) (ix v3)) / x1) x2)] s) (fun _ => rfl) (rg_dv h fun h => ?_)
      refine rg_step 1 (G' := fun f => evT f 188 78 [oR 138 0, oI x1, oI x2, oI x3, oI v3, oI (irem ((s.1 (177 + (ix (cI 0))) (ix v3)) / x1) x2)] [] s) (fun _ => rfl) (rg_ltI (P := fun v4 => RG (fun f => evT f 188 78 [oR 138 0, oI x1, oI x2, oI x3, oI v3, oI v4] [] s) (cvV q)) h fun v4 h => ?_)
      refine rg_step 9 (G' := fun f => ev_after (evT f 189 0 [oR 138 0, oI x3, oI v4, nn, nn, nn] [] s) (fun q => evT f 188 93 [oR 138 0, oI x1, oI x2, oI x3, oI v3, oI v4] (q.2 ++ [vI v3, vR 177 (ix (cI 1))]) q.1)) (fun _ => rfl) (rg_bd2 h fun s5 v6 hc h => rg_call (q := cvI (s5, v6)) (T_fRounds_binReached hc) ?_)
      refine rg_step 1 (G' := fun f => if inb v3 300 = true then evT f 188 94 [oR 138 0, oI x1, oI x2, oI x3, oI v3, oI v4] [] (wI s5 (177 + (ix (cI 1))) (ix v3) v6) else none) (fun _ => rfl) (rg_gd h fun h => rg_ltM h fun s7 h => ?_)
      refine rg_step 6 (G' := fun f => if inb v3 300 = true then evT f 188 103 [oR 138 0, oI x1, oI x2, oI x3, oI v3, oI v4] [vI (s7.1 (177 + (ix (cI 1))) (ix v3))] s7 else none) (fun _ => rfl) (rg_gd h fun h => ?_)
      refine rg_step 2 (G' := fun f => if (s7.1 (177 + (ix (cI 1))) (ix v3)) = v4 then evT f 188 118 [oR 138 0, oI x1, oI x2, oI x3, oI v3, oI v4] [] s7 else evT f 188 108 [oR 138 0, oI x1, oI x2, oI x3, oI v3, oI v4] [] s7) (fun _ => rfl) (rg_if h (fun h => ?_) fun h => ?_)
      · exact (t_fRounds_feedPass_b118 hk47) h
      · refine rg_step 7 (G' := fun f => if inb v3 300 = true then evT f 188 118 [oR 138 0, oI x1, oI x2, oI x3, oI v3, oI v4] [] (wI s7 (177 + (ix (cI 2))) (ix v3) (cI 1)) else none) (fun _ => rfl) (rg_gd h fun h => rg_ltM h fun s8 h => ?_)
        exact (t_fRounds_feedPass_b118 hk47) h
    · exact rg_step 4 (G' := fun f => evT f 188 129 [oR 138 0, oI x1, oI x2, oI (cI 0), oI (cI 0), nn] [] s) (fun _ => rfl) ((t_fRounds_feedPass_h129) h)
theorem t_fRounds_feedPass_h47 {n : Nat} {s : ev_M} {x1 : Int32} {x2 : Int32} {x3 : Int32} {j4 : Option ev_V} {j5 : Option ev_V} {q : ev_M} (h : fRounds_feedPass_h47 n s x1 x2 x3 = some q) : RR 188 47 [oR 138 0, oI x1, oI x2, oI x3, j4, j5] [] s (cvV q) := ti_fRounds_feedPass_h47 n s x1 x2 x3 j4 j5 q h
theorem ti_fRounds_feedPass_h20 : ∀ (n : Nat) (s : ev_M) (x1 : Int32) (x2 : Int32) (x3 : Int32) (j4 : Option ev_V) (j5 : Option ev_V) (q : ev_M), fRounds_feedPass_h20 n s x1 x2 x3 = some q → RR 188 20 [oR 138 0, oI x1, oI x2, oI x3, j4, j5] [] s (cvV q) := by
  intro n
  induction n with
  | zero => intro s x1 x2 x3 j4 j5 q h; cases h
  | succ n ih =>
    have hk20 : ∀ {s : ev_M} {x1 : Int32} {x2 : Int32} {x3 : Int32} {j4 : Option ev_V} {j5 : Option ev_V} {q : ev_M}, fRounds_feedPass_h20 n s x1 x2 x3 = some q → RR 188 20 [oR 138 0, oI x1, oI x2, oI x3, j4, j5] [] s (cvV q) := fun h => ih _ _ _ _ _ _ _ h
    intro s x1 x2 x3 j4 j5 q h
    refine rg_step 3 (G' := fun f => if x3 < x2 then evT f 188 25 [oR 138 0, oI x1, oI x2, oI x3, nn, nn] [] s else evT f 188 45 [oR 138 0, oI x1, oI x2, oI x3, nn, nn] [] s) (fun _ => rfl) (rg_if h (fun h => ?_) fun h => ?_)
    · refine rg_step 5 (G' := fun f => if inb x3 16 = true then evT f 188 32 [oR 138 0, oI x1, oI x2, oI x3, nn, nn] [] (wI s 180 (ix x3) ((cI 0) &&& 1)) else none) (fun _ => rfl) (rg_gd h fun h => rg_ltM h fun s9 h => ?_)
      refine rg_step 5 (G' := fun f => if inb x3 16 = true then evT f 188 39 [oR 138 0, oI x1, oI x2, oI x3, nn, nn] [] (wI s9 181 (ix x3) (cI (-1))) else none) (fun _ => rfl) (rg_gd h fun h => rg_ltM h fun s10 h => ?_)
      exact rg_step 2 (G' := fun f => evT f 188 20 [oR 138 0, oI x1, oI x2, oI (x3 + cI 1), nn, nn] [] s10) (fun _ => rfl) (hk20 h)
    · exact rg_step 2 (G' := fun f => evT f 188 47 [oR 138 0, oI x1, oI x2, oI (cI 0), nn, nn] [] s) (fun _ => rfl) ((t_fRounds_feedPass_h47) h)
theorem t_fRounds_feedPass_h20 {n : Nat} {s : ev_M} {x1 : Int32} {x2 : Int32} {x3 : Int32} {j4 : Option ev_V} {j5 : Option ev_V} {q : ev_M} (h : fRounds_feedPass_h20 n s x1 x2 x3 = some q) : RR 188 20 [oR 138 0, oI x1, oI x2, oI x3, j4, j5] [] s (cvV q) := ti_fRounds_feedPass_h20 n s x1 x2 x3 j4 j5 q h
theorem T_fRounds_feedPass {s : ev_M} {a1 : Int32} {q : ev_M} (h : fRounds_feedPass s a1 = some q) : RR 188 0 [oR 138 0, oI a1, nn, nn, nn, nn] [] s (cvV q) := by
  refine rg_step 5 (G' := fun f => evT f 188 7 [oR 138 0, oI a1, oI (s.1 172 (ix (cI 0))), nn, nn, nn] [] s) (fun _ => rfl) (rg_ltI (P := fun v11 => RG (fun f => evT f 188 7 [oR 138 0, oI a1, oI v11, nn, nn, nn] [] s) (cvV q)) h fun v11 h => ?_)
  refine rg_step 3 (G' := fun f => if a1 < (cI 1) then evT f 188 17 [oR 138 0, oI a1, oI v11, nn, nn, nn] [] s else evT f 188 12 [oR 138 0, oI a1, oI v11, nn, nn, nn] [] s) (fun _ => rfl) (rg_if h (fun h => ?_) fun h => ?_)
  · exact rg_end 1 (fun _ => rfl) (by cases h; rfl)
  · refine rg_step 3 (G' := fun f => if v11 < (cI 2) then evT f 188 17 [oR 138 0, oI a1, oI v11, nn, nn, nn] [] s else evT f 188 18 [oR 138 0, oI a1, oI v11, nn, nn, nn] [] s) (fun _ => rfl) (rg_if h (fun h => ?_) fun h => ?_)
    · exact rg_end 1 (fun _ => rfl) (by cases h; rfl)
    · exact rg_step 2 (G' := fun f => evT f 188 20 [oR 138 0, oI a1, oI v11, oI (cI 0), nn, nn] [] s) (fun _ => rfl) ((t_fRounds_feedPass_h20) h)
theorem T_fRounds_cameAfter {s : ev_M} {a1 : Int32} {a2 : Int32} {q : Int32} (h : fRounds_cameAfter s a1 a2 = some q) : RR 185 0 [oR 138 0, oI a1, oI a2] [] s (cvP s q) := by
  refine rg_step 7 (G' := fun f => if inb a1 300 = true then evT f 185 12 [oR 138 0, oI a1, oI a2] [vI (s.1 (102 + (ix (cI 17))) (ix a1))] s else none) (fun _ => rfl) (rg_gd h fun h => ?_)
  refine rg_step 7 (G' := fun f => if inb a2 300 = true then evT f 185 24 [oR 138 0, oI a1, oI a2] [vI (s.1 (102 + (ix (cI 17))) (ix a2)), vI (s.1 (102 + (ix (cI 17))) (ix a1))] s else none) (fun _ => rfl) (rg_gd h fun h => ?_)
  refine rg_step 1 (G' := fun f => if (s.1 (102 + (ix (cI 17))) (ix a1)) ≤ (s.1 (102 + (ix (cI 17))) (ix a2)) then evT f 185 31 [oR 138 0, oI a1, oI a2] [] s else evT f 185 27 [oR 138 0, oI a1, oI a2] [] s) (fun _ => rfl) (rg_if h (fun h => ?_) fun h => ?_)
  · exact rg_end 2 (fun _ => rfl) (by cases h; rfl)
  · exact rg_end 3 (fun _ => rfl) (by cases h; rfl)
theorem T_fMoney_homeOf {s : ev_M} {a1 : Int32} {q : Int32} (h : fMoney_homeOf s a1 = some q) : RR 149 0 [oR 78 0, oI a1] [] s (cvP s q) := by
  refine rg_step 4 (G' := fun f => if inb a1 34 = true then evT f 149 6 [oR 78 0, oI a1] [vI (s.1 79 (ix a1))] s else none) (fun _ => rfl) (rg_gd h fun h => ?_)
  exact rg_end 1 (fun _ => rfl) (by cases h; rfl)
theorem t_fBook_orderFor_b87 {s : ev_M} {k16 : Int32 → Int32 → Int32 → Int32 → Option Int32} (hk16 : ∀ {x1 : Int32} {x2 : Int32} {x3 : Int32} {x4 : Int32} {j5 : Option ev_V} {q : Int32}, k16 x1 x2 x3 x4 = some q → RR 38 16 [oR 30 0, oI x1, oI x2, oI x3, oI x4, j5] [] s (cvP s q)) {x1 : Int32} {x2 : Int32} {x3 : Int32} {x4 : Int32} {j5 : Option ev_V} {q : Int32} (h : fBook_orderFor_b87 s k16 x1 x2 x3 x4 = some q) : RR 38 87 [oR 30 0, oI x1, oI x2, oI x3, oI x4, j5] [] s (cvP s q) := by
  exact rg_step 2 (G' := fun f => evT f 38 16 [oR 30 0, oI x1, oI x2, oI x3, oI (x4 + cI (-1)), nn] [] s) (fun f => Eq.trans (b := evT (f + 1 + 1) 38 87 [oR 30 0, oI x1, oI x2, oI x3, oI x4, j5] [] s) rfl ((ev_inc (f := f + 1) (M := 38) (pc := 87) (i := 4) (n := 3) (c := (-1)) (r := 0) (dl := [5]) (L := [oR 30 0, oI x1, oI x2, oI x3, oI x4, j5]) (L' := [oR 30 0, oI x1, oI x2, oI x3, oI (x4 + cI (-1)), nn]) (s := s) (y := x4) rfl rfl rfl).trans rfl)) (hk16 h)
theorem t_fBook_orderFor_b51 {s : ev_M} {k16 : Int32 → Int32 → Int32 → Int32 → Option Int32} (hk16 : ∀ {x1 : Int32} {x2 : Int32} {x3 : Int32} {x4 : Int32} {j5 : Option ev_V} {q : Int32}, k16 x1 x2 x3 x4 = some q → RR 38 16 [oR 30 0, oI x1, oI x2, oI x3, oI x4, j5] [] s (cvP s q)) {x1 : Int32} {x2 : Int32} {x3 : Int32} {x4 : Int32} {y0 : Int32} {j5 : Option ev_V} {q : Int32} (h : fBook_orderFor_b51 s k16 x1 x2 x3 x4 y0 = some q) : RR 38 51 [oR 30 0, oI x1, oI x2, oI x3, oI x4, j5] [vI y0] s (cvP s q) := by
  refine rg_step 7 (G' := fun f => if inb x4 60 = true then evT f 38 62 [oR 30 0, oI x1, oI x2, oI x3, oI x4, oI y0] [vI (s.1 (47 + (ix (cI 0))) (ix x4))] s else none) (fun _ => rfl) (rg_gd h fun h => ?_)
  refine rg_step 2 (G' := fun f => if (s.1 (47 + (ix (cI 0))) (ix x4)) = x1 then evT f 38 66 [oR 30 0, oI x1, oI x2, oI x3, oI x4, oI y0] [] s else evT f 38 87 [oR 30 0, oI x1, oI x2, oI x3, oI x4, oI y0] [] s) (fun _ => rfl) (rg_if h (fun h => ?_) fun h => ?_)
  · refine rg_step 2 (G' := fun f => if y0 = 0 then evT f 38 87 [oR 30 0, oI x1, oI x2, oI x3, oI x4, oI y0] [] s else evT f 38 71 [oR 30 0, oI x1, oI x2, oI x3, oI x4, oI y0] [] s) (fun _ => rfl) (rg_if h (fun h => ?_) fun h => ?_)
    · exact (t_fBook_orderFor_b87 hk16) h
    · refine rg_step 7 (G' := fun f => if inb x4 60 = true then evT f 38 81 [oR 30 0, oI x1, oI x2, oI x3, oI x4, oI y0] [vI (s.1 (47 + (ix (cI 3))) (ix x4)), vI x3] s else none) (fun _ => rfl) (rg_gd h fun h => ?_)
      refine rg_step 1 (G' := fun f => if x3 < (s.1 (47 + (ix (cI 3))) (ix x4)) then evT f 38 84 [oR 30 0, oI x1, oI x2, oI x3, oI x4, oI y0] [] s else evT f 38 87 [oR 30 0, oI x1, oI x2, oI x3, oI x4, oI y0] [] s) (fun _ => rfl) (rg_if h (fun h => ?_) fun h => ?_)
      · exact rg_end 2 (fun _ => rfl) (by cases h; rfl)
      · exact (t_fBook_orderFor_b87 hk16) h
  · exact (t_fBook_orderFor_b87 hk16) h
theorem t_fBook_orderFor_b46 {s : ev_M} {k16 : Int32 → Int32 → Int32 → Int32 → Option Int32} (hk16 : ∀ {x1 : Int32} {x2 : Int32} {x3 : Int32} {x4 : Int32} {j5 : Option ev_V} {q : Int32}, k16 x1 x2 x3 x4 = some q → RR 38 16 [oR 30 0, oI x1, oI x2, oI x3, oI x4, j5] [] s (cvP s q)) {x1 : Int32} {x2 : Int32} {x3 : Int32} {x4 : Int32} {j5 : Option ev_V} {q : Int32} (h : fBook_orderFor_b46 s k16 x1 x2 x3 x4 = some q) : RR 38 46 [oR 30 0, oI x1, oI x2, oI x3, oI x4, j5] [] s (cvP s q) := by
  exact rg_step 2 (G' := fun f => evT f 38 51 [oR 30 0, oI x1, oI x2, oI x3, oI x4, nn] [vI (cI 1)] s) (fun _ => rfl) ((t_fBook_orderFor_b51 hk16) h)
theorem ti_fBook_orderFor_h16 {s : ev_M} : ∀ (n : Nat) (x1 : Int32) (x2 : Int32) (x3 : Int32) (x4 : Int32) (j5 : Option ev_V) (q : Int32), fBook_orderFor_h16 s n x1 x2 x3 x4 = some q → RR 38 16 [oR 30 0, oI x1, oI x2, oI x3, oI x4, j5] [] s (cvP s q) := by
  intro n
  induction n with
  | zero => intro x1 x2 x3 x4 j5 q h; cases h
  | succ n ih =>
    have hk16 : ∀ {x1 : Int32} {x2 : Int32} {x3 : Int32} {x4 : Int32} {j5 : Option ev_V} {q : Int32}, fBook_orderFor_h16 s n x1 x2 x3 x4 = some q → RR 38 16 [oR 30 0, oI x1, oI x2, oI x3, oI x4, j5] [] s (cvP s q) := fun h => ih _ _ _ _ _ _ h
    intro x1 x2 x3 x4 j5 q h
    refine rg_step 2 (G' := fun f => if x4 < 0 then evT f 38 93 [oR 30 0, oI x1, oI x2, oI x3, oI x4, nn] [] s else evT f 38 21 [oR 30 0, oI x1, oI x2, oI x3, oI x4, nn] [] s) (fun _ => rfl) (rg_if h (fun h => ?_) fun h => ?_)
    · exact rg_end 2 (fun _ => rfl) (by cases h; rfl)
    · refine rg_step 6 (G' := fun f => if inb x4 60 = true then evT f 38 30 [oR 30 0, oI x1, oI x2, oI x3, oI x4, nn] [vI (s.1 (47 + (ix (cI 1))) (ix x4))] s else none) (fun _ => rfl) (rg_gd h fun h => ?_)
      refine rg_step 2 (G' := fun f => if (s.1 (47 + (ix (cI 1))) (ix x4)) = x2 then evT f 38 46 [oR 30 0, oI x1, oI x2, oI x3, oI x4, nn] [] s else evT f 38 34 [oR 30 0, oI x1, oI x2, oI x3, oI x4, nn] [] s) (fun _ => rfl) (rg_if h (fun h => ?_) fun h => ?_)
      · exact (t_fBook_orderFor_b46 hk16) h
      · refine rg_step 6 (G' := fun f => if inb x4 60 = true then evT f 38 43 [oR 30 0, oI x1, oI x2, oI x3, oI x4, nn] [vI (s.1 (47 + (ix (cI 1))) (ix x4))] s else none) (fun _ => rfl) (rg_gd h fun h => ?_)
        refine rg_step 1 (G' := fun f => if (s.1 (47 + (ix (cI 1))) (ix x4)) = 0 then evT f 38 46 [oR 30 0, oI x1, oI x2, oI x3, oI x4, nn] [] s else evT f 38 50 [oR 30 0, oI x1, oI x2, oI x3, oI x4, nn] [] s) (fun _ => rfl) (rg_if h (fun h => ?_) fun h => ?_)
        · exact (t_fBook_orderFor_b46 hk16) h
        · exact rg_step 1 (G' := fun f => evT f 38 51 [oR 30 0, oI x1, oI x2, oI x3, oI x4, nn] [vI (cI 0)] s) (fun _ => rfl) ((t_fBook_orderFor_b51 hk16) h)
theorem t_fBook_orderFor_h16 {s : ev_M} {n : Nat} {x1 : Int32} {x2 : Int32} {x3 : Int32} {x4 : Int32} {j5 : Option ev_V} {q : Int32} (h : fBook_orderFor_h16 s n x1 x2 x3 x4 = some q) : RR 38 16 [oR 30 0, oI x1, oI x2, oI x3, oI x4, j5] [] s (cvP s q) := ti_fBook_orderFor_h16 n x1 x2 x3 x4 j5 q h
theorem T_fBook_orderFor {s : ev_M} {a1 : Int32} {a2 : Int32} {q : Int32} (h : fBook_orderFor s a1 a2 = some q) : RR 38 0 [oR 30 0, oI a1, oI a2, nn, nn, nn] [] s (cvP s q) := by
  refine rg_step 3 (G' := fun f => ev_after (evT f 41 0 [oR 15 0] [] s) (fun q => evT f 38 7 [oR 30 0, oI a1, oI a2, nn, nn, nn] (q.2 ++ []) q.1)) (fun _ => rfl) (rg_bd1 h fun v1 hc h => rg_call (q := cvP s v1) (T_fChron_today hc) ?_)
  refine rg_step 6 (G' := fun f => evT f 38 16 [oR 30 0, oI a1, oI a2, oI v1, oI ((s.1 30 11) - (cI 1)), nn] [] s) (fun _ => rfl) (rg_ltI (P := fun v2 => RG (fun f => evT f 38 16 [oR 30 0, oI a1, oI a2, oI v1, oI v2, nn] [] s) (cvP s q)) h fun v2 h => ?_)
  exact (t_fBook_orderFor_h16) h
theorem ti_fBook_goalFor_h17 : ∀ (n : Nat) (s : ev_M) (x2 : Int32) (x3 : Int32) (j1 : Option ev_V) (j4 : Option ev_V) (j5 : Option ev_V) (q : ev_M × Int32), fBook_goalFor_h17 n s x2 x3 = some q → RR 37 17 [oR 30 0, j1, oI x2, oI x3, j4, j5] [] s (cvI q) := by
  intro n
  induction n with
  | zero => intro s x2 x3 j1 j4 j5 q h; cases h
  | succ n ih =>
    have hk17 : ∀ {s : ev_M} {x2 : Int32} {x3 : Int32} {j1 : Option ev_V} {j4 : Option ev_V} {j5 : Option ev_V} {q : ev_M × Int32}, fBook_goalFor_h17 n s x2 x3 = some q → RR 37 17 [oR 30 0, j1, oI x2, oI x3, j4, j5] [] s (cvI q) := fun h => ih _ _ _ _ _ _ _ h
    intro s x2 x3 j1 j4 j5 q h
    refine rg_step 3 (G' := fun f => if x3 < (cI 120) then evT f 37 23 [oR 30 0, nn, oI x2, oI x3, nn, nn] [] s else evT f 37 107 [oR 30 0, nn, oI x2, oI x3, nn, nn] [] s) (fun _ => rfl) (rg_if h (fun h => ?_) fun h => ?_)
    · refine rg_step 7 (G' := fun f => if inb (s.1 30 15) 120 = true then evT f 37 36 [oR 30 0, nn, oI x2, oI x3, nn, nn] [] (wI s 51 (ix (s.1 30 15)) (s.1 30 14)) else none) (fun _ => rfl) (rg_gd h fun h => rg_ltM h fun s1 h => ?_)
      refine rg_step 5 (G' := fun f => ev_after (evT f 38 0 [oR 30 0, oI (s1.1 30 15), oI x2, nn, nn, nn] [] s1) (fun q => evT f 37 45 [oR 30 0, nn, oI x2, oI x3, nn, nn] (q.2 ++ []) q.1)) (fun _ => rfl) (rg_bd1 h fun v2 hc h => rg_call (q := cvP s1 v2) (T_fBook_orderFor hc) ?_)
      refine rg_step 4 (G' := fun f => if v2 = (cI (-1)) then evT f 37 53 [oR 30 0, nn, oI x2, oI x3, oI v2, nn] [] s1 else evT f 37 58 [oR 30 0, nn, oI x2, oI x3, oI v2, nn] [] s1) (fun _ => rfl) (rg_if h (fun h => ?_) fun h => ?_)
      · exact rg_end 3 (fun _ => rfl) (by cases h; rfl)
      · refine rg_step 6 (G' := fun f => if inb v2 60 = true then evT f 37 67 [oR 30 0, nn, oI x2, oI x3, oI v2, nn] [vI (s1.1 (47 + (ix (cI 2))) (ix v2))] s1 else none) (fun _ => rfl) (rg_gd h fun h => ?_)
        refine rg_step 1 (G' := fun f => evT f 37 69 [oR 30 0, nn, oI x2, oI x3, oI v2, oI (s1.1 (47 + (ix (cI 2))) (ix v2))] [] s1) (fun _ => rfl) (rg_ltI (P := fun v3 => RG (fun f => evT f 37 69 [oR 30 0, nn, oI x2, oI x3, oI v2, oI v3] [] s1) (cvI q)) h fun v3 h => ?_)
        refine rg_step 3 (G' := fun f => if v3 = (cI (-1)) then evT f 37 75 [oR 30 0, nn, oI x2, oI x3, oI v2, oI v3] [] s1 else evT f 37 78 [oR 30 0, nn, oI x2, oI x3, oI v2, oI v3] [] s1) (fun _ => rfl) (rg_if h (fun h => ?_) fun h => ?_)
        · exact rg_end 2 (fun _ => rfl) (by cases h; rfl)
        · refine rg_step 4 (G' := fun f => if inb v3 120 = true then evT f 37 85 [oR 30 0, nn, oI x2, oI x3, oI v2, oI v3] [vI (s1.1 51 (ix v3))] s1 else none) (fun _ => rfl) (rg_gd h fun h => ?_)
          refine rg_step 3 (G' := fun f => if (s1.1 51 (ix v3)) = (s1.1 30 14) then evT f 37 92 [oR 30 0, nn, oI x2, oI x3, oI v2, oI v3] [] s1 else evT f 37 95 [oR 30 0, nn, oI x2, oI x3, oI v2, oI v3] [] s1) (fun _ => rfl) (rg_if h (fun h => ?_) fun h => ?_)
          · exact rg_end 2 (fun _ => rfl) (by cases h; rfl)
          · refine rg_step 3 (G' := fun f => evT f 37 101 [oR 30 0, nn, oI x2, oI x3, oI v2, oI v3] [] (wI s1 30 15 v3)) (fun _ => rfl) (rg_ltM h fun s4 h => ?_)
            exact rg_step 2 (G' := fun f => evT f 37 17 [oR 30 0, nn, oI x2, oI (x3 + cI 1), oI v2, oI v3] [] s4) (fun _ => rfl) (hk17 h)
    · exact rg_end 2 (fun _ => rfl) (by cases h; rfl)
theorem t_fBook_goalFor_h17 {n : Nat} {s : ev_M} {x2 : Int32} {x3 : Int32} {j1 : Option ev_V} {j4 : Option ev_V} {j5 : Option ev_V} {q : ev_M × Int32} (h : fBook_goalFor_h17 n s x2 x3 = some q) : RR 37 17 [oR 30 0, j1, oI x2, oI x3, j4, j5] [] s (cvI q) := ti_fBook_goalFor_h17 n s x2 x3 j1 j4 j5 q h
theorem T_fBook_goalFor {s : ev_M} {a1 : Int32} {a2 : Int32} {q : ev_M × Int32} (h : fBook_goalFor s a1 a2 = some q) : RR 37 0 [oR 30 0, oI a1, oI a2, nn, nn, nn] [] s (cvI q) := by
  refine rg_step 6 (G' := fun f => evT f 37 10 [oR 30 0, oI a1, oI a2, nn, nn, nn] [] (wI s 30 14 ((s.1 30 14) + (cI 1)))) (fun _ => rfl) (rg_ltM h fun s5 h => ?_)
  refine rg_step 3 (G' := fun f => evT f 37 15 [oR 30 0, oI a1, oI a2, nn, nn, nn] [] (wI s5 30 15 a1)) (fun _ => rfl) (rg_ltM h fun s6 h => ?_)
  exact rg_step 2 (G' := fun f => evT f 37 17 [oR 30 0, oI a1, oI a2, oI (cI 0), nn, nn] [] s6) (fun _ => rfl) ((t_fBook_goalFor_h17) h)
theorem T_fItems_goalOf {s : ev_M} {a1 : Int32} {q : ev_M × Int32} (h : fItems_goalOf s a1 = some q) : RR 69 0 [oR 100 0, oI a1, nn] [] s (cvI q) := by
  refine rg_step 6 (G' := fun f => if inb a1 300 = true then evT f 69 9 [oR 100 0, oI a1, nn] [vI (s.1 (102 + (ix (cI 10))) (ix a1))] s else none) (fun _ => rfl) (rg_gd h fun h => ?_)
  refine rg_step 2 (G' := fun f => if (s.1 (102 + (ix (cI 10))) (ix a1)) = (cI 1) then evT f 69 13 [oR 100 0, oI a1, nn] [] s else evT f 69 29 [oR 100 0, oI a1, nn] [] s) (fun _ => rfl) (rg_if h (fun h => ?_) fun h => ?_)
  · refine rg_step 8 (G' := fun f => if inb a1 300 = true then evT f 69 25 [oR 100 0, oI a1, nn] [vI (s.1 (102 + (ix (cI 4))) (ix a1)), vR 78 0] s else none) (fun _ => rfl) (rg_gd h fun h => ?_)
    refine rg_step 1 (G' := fun f => ev_after (evT f 149 0 [oR 78 0, oI (s.1 (102 + (ix (cI 4))) (ix a1))] [] s) (fun q => evT f 69 28 [oR 100 0, oI a1, nn] (q.2 ++ []) q.1)) (fun _ => rfl) (rg_bd1 h fun v1 hc h => rg_call (q := cvP s v1) (T_fMoney_homeOf hc) ?_)
    exact rg_end 1 (fun _ => rfl) (by cases h; rfl)
  · refine rg_step 6 (G' := fun f => if inb a1 300 = true then evT f 69 38 [oR 100 0, oI a1, nn] [vI (s.1 (102 + (ix (cI 7))) (ix a1))] s else none) (fun _ => rfl) (rg_gd h fun h => ?_)
    refine rg_step 1 (G' := fun f => evT f 69 39 [oR 100 0, oI a1, oI (s.1 (102 + (ix (cI 7))) (ix a1))] [] s) (fun _ => rfl) (rg_ltI (P := fun v2 => RG (fun f => evT f 69 39 [oR 100 0, oI a1, oI v2] [] s) (cvI q)) h fun v2 h => ?_)
    refine rg_step 3 (G' := fun f => if v2 = (cI (-1)) then evT f 69 44 [oR 100 0, oI a1, oI v2] [] s else evT f 69 48 [oR 100 0, oI a1, oI v2] [] s) (fun _ => rfl) (rg_if h (fun h => ?_) fun h => ?_)
    · exact rg_end 3 (fun _ => rfl) (by cases h; rfl)
    · refine rg_step 9 (G' := fun f => if inb a1 300 = true then evT f 69 61 [oR 100 0, oI a1, oI v2] [vI (s.1 (102 + (ix (cI 5))) (ix a1)), vI v2, vR 30 0] s else none) (fun _ => rfl) (rg_gd h fun h => ?_)
      refine rg_step 1 (G' := fun f => ev_after (evT f 37 0 [oR 30 0, oI v2, oI (s.1 (102 + (ix (cI 5))) (ix a1)), nn, nn, nn] [] s) (fun q => evT f 69 64 [oR 100 0, oI a1, oI v2] (q.2 ++ []) q.1)) (fun _ => rfl) (rg_bd2 h fun s3 v4 hc h => rg_call (q := cvI (s3, v4)) (T_fBook_goalFor hc) ?_)
      exact rg_end 1 (fun _ => rfl) (by cases h; rfl)
theorem ti_fRounds_placeAmong_h2 {s : ev_M} : ∀ (n : Nat) (x1 : Int32) (x2 : Int32) (x3 : Int32) (q : Int32), fRounds_placeAmong_h2 s n x1 x2 x3 = some q → RR 186 2 [oR 138 0, oI x1, oI x2, oI x3] [] s (cvP s q) := by
  intro n
  induction n with
  | zero => intro x1 x2 x3 q h; cases h
  | succ n ih =>
    have hk2 : ∀ {x1 : Int32} {x2 : Int32} {x3 : Int32} {q : Int32}, fRounds_placeAmong_h2 s n x1 x2 x3 = some q → RR 186 2 [oR 138 0, oI x1, oI x2, oI x3] [] s (cvP s q) := fun h => ih _ _ _ _ h
    intro x1 x2 x3 q h
    refine rg_step 7 (G' := fun f => if inb x1 12 = true then evT f 186 11 [oR 138 0, oI x1, oI x2, oI x3] [vI (s.1 (140 + (ix (cI 3))) (ix x1)), vI x3] s else none) (fun _ => rfl) (rg_gd h fun h => ?_)
    refine rg_step 1 (G' := fun f => if x3 < (s.1 (140 + (ix (cI 3))) (ix x1)) then evT f 186 14 [oR 138 0, oI x1, oI x2, oI x3] [] s else evT f 186 34 [oR 138 0, oI x1, oI x2, oI x3] [] s) (fun _ => rfl) (rg_if h (fun h => ?_) fun h => ?_)
    · refine rg_step 4 (G' := fun f => if inb x1 12 = true then evT f 186 20 [oR 138 0, oI x1, oI x2, oI x3] [vR 146 (ix x1)] s else none) (fun _ => rfl) (rg_gd h fun h => ?_)
      refine rg_step 2 (G' := fun f => if inb x3 20 = true then evT f 186 22 [oR 138 0, oI x1, oI x2, oI x3] [vI (s.1 (146 + (ix x1)) (ix x3))] s else none) (fun _ => rfl) (rg_gd h fun h => ?_)
      refine rg_step 2 (G' := fun f => if (s.1 (146 + (ix x1)) (ix x3)) = x2 then evT f 186 26 [oR 138 0, oI x1, oI x2, oI x3] [] s else evT f 186 28 [oR 138 0, oI x1, oI x2, oI x3] [] s) (fun _ => rfl) (rg_if h (fun h => ?_) fun h => ?_)
      · exact rg_end 2 (fun _ => rfl) (by cases h; rfl)
      · exact rg_step 2 (G' := fun f => evT f 186 2 [oR 138 0, oI x1, oI x2, oI (x3 + cI 1)] [] s) (fun _ => rfl) (hk2 h)
    · exact rg_end 2 (fun _ => rfl) (by cases h; rfl)
theorem t_fRounds_placeAmong_h2 {s : ev_M} {n : Nat} {x1 : Int32} {x2 : Int32} {x3 : Int32} {q : Int32} (h : fRounds_placeAmong_h2 s n x1 x2 x3 = some q) : RR 186 2 [oR 138 0, oI x1, oI x2, oI x3] [] s (cvP s q) := ti_fRounds_placeAmong_h2 n x1 x2 x3 q h
theorem T_fRounds_placeAmong {s : ev_M} {a1 : Int32} {a2 : Int32} {q : Int32} (h : fRounds_placeAmong s a1 a2 = some q) : RR 186 0 [oR 138 0, oI a1, oI a2, nn] [] s (cvP s q) := by
  exact rg_step 2 (G' := fun f => evT f 186 2 [oR 138 0, oI a1, oI a2, oI (cI 0)] [] s) (fun _ => rfl) ((t_fRounds_placeAmong_h2) h)
theorem t_fRounds_gather_b177 {k7 : ev_M → Int32 → Int32 → Option ev_M} (hk7 : ∀ {s : ev_M} {x1 : Int32} {x2 : Int32} {j3 : Option ev_V} {j4 : Option ev_V} {q : ev_M}, k7 s x1 x2 = some q → RR 184 7 [oR 138 0, oI x1, oI x2, j3, j4] [] s (cvV q)) {s : ev_M} {x1 : Int32} {x2 : Int32} {j3 : Option ev_V} {j4 : Option ev_V} {q : ev_M} (h : fRounds_gather_b177 k7 s x1 x2 = some q) : RR 184 177 [oR 138 0, oI x1, oI x2, j3, j4] [] s (cvV q) := by
  exact rg_step 2 (G' := fun f => evT f 184 7 [oR 138 0, oI x1, oI (x2 + cI 1), nn, nn] [] s) (fun _ => rfl) (hk7 h)
theorem t_fRounds_gather_b169 {k7 : ev_M → Int32 → Int32 → Option ev_M} (hk7 : ∀ {s : ev_M} {x1 : Int32} {x2 : Int32} {j3 : Option ev_V} {j4 : Option ev_V} {q : ev_M}, k7 s x1 x2 = some q → RR 184 7 [oR 138 0, oI x1, oI x2, j3, j4] [] s (cvV q)) {s : ev_M} {x1 : Int32} {x2 : Int32} {x4 : Int32} {j3 : Option ev_V} {q : ev_M} (h : fRounds_gather_b169 k7 s x1 x2 x4 = some q) : RR 184 169 [oR 138 0, oI x1, oI x2, j3, oI x4] [] s (cvV q) := by
  refine rg_step 5 (G' := fun f => if inb x4 300 = true then evT f 184 177 [oR 138 0, oI x1, oI x2, nn, oI x4] [] (wI s 174 (ix x4) x2) else none) (fun _ => rfl) (rg_gd h fun h => rg_ltM h fun s1 h => ?_)
  exact (t_fRounds_gather_b177 hk7) h
theorem ti_fRounds_gather_h125 {k7 : ev_M → Int32 → Int32 → Option ev_M} (hk7 : ∀ {s : ev_M} {x1 : Int32} {x2 : Int32} {j3 : Option ev_V} {j4 : Option ev_V} {q : ev_M}, k7 s x1 x2 = some q → RR 184 7 [oR 138 0, oI x1, oI x2, j3, j4] [] s (cvV q)) : ∀ (n : Nat) (s : ev_M) (x1 : Int32) (x2 : Int32) (x4 : Int32) (j3 : Option ev_V) (q : ev_M), fRounds_gather_h125 k7 n s x1 x2 x4 = some q → RR 184 125 [oR 138 0, oI x1, oI x2, j3, oI x4] [] s (cvV q) := by
  intro n
  induction n with
  | zero => intro s x1 x2 x4 j3 q h; cases h
  | succ n ih =>
    have hk125 : ∀ {s : ev_M} {x1 : Int32} {x2 : Int32} {x4 : Int32} {j3 : Option ev_V} {q : ev_M}, fRounds_gather_h125 k7 n s x1 x2 x4 = some q → RR 184 125 [oR 138 0, oI x1, oI x2, j3, oI x4] [] s (cvV q) := fun h => ih _ _ _ _ _ _ h
    intro s x1 x2 x4 j3 q h
    refine rg_step 2 (G' := fun f => if x4 ≤ 0 then evT f 184 169 [oR 138 0, oI x1, oI x2, nn, oI x4] [] s else evT f 184 130 [oR 138 0, oI x1, oI x2, nn, oI x4] [] s) (fun _ => rfl) (rg_if h (fun h => ?_) fun h => ?_)
    · exact (t_fRounds_gather_b169 hk7) h
    · refine rg_step 7 (G' := fun f => if inb (x4 - (cI 1)) 300 = true then evT f 184 140 [oR 138 0, oI x1, oI x2, nn, oI x4] [vI (s.1 174 (ix (x4 - (cI 1)))), vR 138 0] s else none) (fun _ => rfl) (rg_gd h fun h => ?_)
      refine rg_step 2 (G' := fun f => ev_after (evT f 185 0 [oR 138 0, oI (s.1 174 (ix (x4 - (cI 1)))), oI x2] [] s) (fun q => evT f 184 144 [oR 138 0, oI x1, oI x2, nn, oI x4] (q.2 ++ []) q.1)) (fun _ => rfl) (rg_bd1 h fun v2 hc h => rg_call (q := cvP s v2) (T_fRounds_cameAfter hc) ?_)
      refine rg_step 1 (G' := fun f => if v2 = 0 then evT f 184 169 [oR 138 0, oI x1, oI x2, nn, oI x4] [] s else evT f 184 147 [oR 138 0, oI x1, oI x2, nn, oI x4] [] s) (fun _ => rfl) (rg_if h (fun h => ?_) fun h => ?_)
      · exact (t_fRounds_gather_b169 hk7) h
      · refine rg_step 9 (G' := fun f => if inb (x4 - (cI 1)) 300 = true then evT f 184 162 [oR 138 0, oI x1, oI x2, nn, oI x4] [vI (s.1 174 (ix (x4 - (cI 1)))), vI x4, vR 174 0] s else none) (fun _ => rfl) (rg_gd h fun h => ?_)
        refine rg_step 1 (G' := fun f => if inb x4 300 = true then evT f 184 163 [oR 138 0, oI x1, oI x2, nn, oI x4] [] (wI s 174 (ix x4) (s.1 174 (ix (x4 - (cI 1))))) else none) (fun _ => rfl) (rg_gd h fun h => rg_ltM h fun s3 h => ?_)
        exact rg_step 2 (G' := fun f => evT f 184 125 [oR 138 0, oI x1, oI x2, nn, oI (x4 + cI (-1))] [] s3) (fun f => Eq.trans (b := evT (f + 1 + 1) 184 163 [oR 138 0, oI x1, oI x2, nn, oI x4] [] s3) rfl ((ev_inc (f := f + 1) (M := 184) (pc := 163) (i := 4) (n := 3) (c := (-1)) (r := 0) (dl := []) (L := [oR 138 0, oI x1, oI x2, nn, oI x4]) (L' := [oR 138 0, oI x1, oI x2, nn, oI (x4 + cI (-1))]) (s := s3) (y := x4) rfl rfl rfl).trans rfl)) (hk125 h)
theorem t_fRounds_gather_h125 {k7 : ev_M → Int32 → Int32 → Option ev_M} (hk7 : ∀ {s : ev_M} {x1 : Int32} {x2 : Int32} {j3 : Option ev_V} {j4 : Option ev_V} {q : ev_M}, k7 s x1 x2 = some q → RR 184 7 [oR 138 0, oI x1, oI x2, j3, j4] [] s (cvV q)) {n : Nat} {s : ev_M} {x1 : Int32} {x2 : Int32} {x4 : Int32} {j3 : Option ev_V} {q : ev_M} (h : fRounds_gather_h125 k7 n s x1 x2 x4 = some q) : RR 184 125 [oR 138 0, oI x1, oI x2, j3, oI x4] [] s (cvV q) := ti_fRounds_gather_h125 hk7 n s x1 x2 x4 j3 q h
theorem ti_fRounds_gather_h7 : ∀ (n : Nat) (s : ev_M) (x1 : Int32) (x2 : Int32) (j3 : Option ev_V) (j4 : Option ev_V) (q : ev_M), fRounds_gather_h7 n s x1 x2 = some q → RR 184 7 [oR 138 0, oI x1, oI x2, j3, j4] [] s (cvV q) := by
  intro n
  induction n with
  | zero => intro s x1 x2 j3 j4 q h; cases h
  | succ n ih =>
    have hk7 : ∀ {s : ev_M} {x1 : Int32} {x2 : Int32} {j3 : Option ev_V} {j4 : Option ev_V} {q : ev_M}, fRounds_gather_h7 n s x1 x2 = some q → RR 184 7 [oR 138 0, oI x1, oI x2, j3, j4] [] s (cvV q) := fun h => ih _ _ _ _ _ _ h
    intro s x1 x2 j3 j4 q h
    refine rg_step 5 (G' := fun f => if x2 < (s.1 100 5) then evT f 184 18 [oR 138 0, oI x1, oI x2, nn, nn] [] s else evT f 184 183 [oR 138 0, oI x1, oI x2, nn, nn] [] s) (fun _ => rfl) (rg_if h (fun h => ?_) fun h => ?_)
    · refine rg_step 5 (G' := fun f => ev_after (evT f 52 0 [oR 100 0, oI x2, oI (cI 1)] [] s) (fun q => evT f 184 27 [oR 138 0, oI x1, oI x2, nn, nn] (q.2 ++ []) q.1)) (fun _ => rfl) (rg_bd1 h fun v4 hc h => rg_call (q := cvP s v4) (T_fItems_is hc) ?_)
      refine rg_step 1 (G' := fun f => if v4 = 0 then evT f 184 177 [oR 138 0, oI x1, oI x2, nn, nn] [] s else evT f 184 30 [oR 138 0, oI x1, oI x2, nn, nn] [] s) (fun _ => rfl) (rg_if h (fun h => ?_) fun h => ?_)
      · exact (t_fRounds_gather_b177 hk7) h
      · refine rg_step 7 (G' := fun f => if inb x2 300 = true then evT f 184 42 [oR 138 0, oI x1, oI x2, nn, nn] [vI (s.1 (102 + (ix (cI 8))) (ix x2))] s else none) (fun _ => rfl) (rg_gd h fun h => ?_)
        refine rg_step 6 (G' := fun f => if inb x1 12 = true then evT f 184 50 [oR 138 0, oI x1, oI x2, nn, nn] [vI (s.1 (140 + (ix (cI 0))) (ix x1)), vI (s.1 (102 + (ix (cI 8))) (ix x2))] s else none) (fun _ => rfl) (rg_gd h fun h => ?_)
        refine rg_step 1 (G' := fun f => if (s.1 (102 + (ix (cI 8))) (ix x2)) = (s.1 (140 + (ix (cI 0))) (ix x1)) then evT f 184 56 [oR 138 0, oI x1, oI x2, nn, nn] [] s else evT f 184 53 [oR 138 0, oI x1, oI x2, nn, nn] [] s) (fun _ => rfl) (rg_if h (fun h => ?_) fun h => ?_)
        · refine rg_step 4 (G' := fun f => ev_after (evT f 69 0 [oR 100 0, oI x2, nn] [] s) (fun q => evT f 184 64 [oR 138 0, oI x1, oI x2, nn, nn] (q.2 ++ []) q.1)) (fun _ => rfl) (rg_bd2 h fun s5 v6 hc h => rg_call (q := cvI (s5, v6)) (T_fItems_goalOf hc) ?_)
          refine rg_step 5 (G' := fun f => ev_after (evT f 28 0 [oR 30 0, oI v6] [] s5) (fun q => evT f 184 73 [oR 138 0, oI x1, oI x2, oI v6, nn] (q.2 ++ []) q.1)) (fun _ => rfl) (rg_bd1 h fun v7 hc h => rg_call (q := cvP s5 v7) (T_fBook_hasPoint hc) ?_)
          refine rg_step 1 (G' := fun f => if v7 = 0 then evT f 184 177 [oR 138 0, oI x1, oI x2, oI v6, nn] [] s5 else evT f 184 76 [oR 138 0, oI x1, oI x2, oI v6, nn] [] s5) (fun _ => rfl) (rg_if h (fun h => ?_) fun h => ?_)
          · exact (t_fRounds_gather_b177 hk7) h
          · refine rg_step 4 (G' := fun f => if inb v6 120 = true then evT f 184 82 [oR 138 0, oI x1, oI x2, oI v6, nn] [vI (s5.1 158 (ix v6))] s5 else none) (fun _ => rfl) (rg_gd h fun h => ?_)
            refine rg_step 2 (G' := fun f => if (s5.1 158 (ix v6)) = x1 then evT f 184 89 [oR 138 0, oI x1, oI x2, oI v6, nn] [] s5 else evT f 184 86 [oR 138 0, oI x1, oI x2, oI v6, nn] [] s5) (fun _ => rfl) (rg_if h (fun h => ?_) fun h => ?_)
            · refine rg_step 9 (G' := fun f => ev_after (evT f 186 0 [oR 138 0, oI x1, oI v6, nn] [] s5) (fun q => evT f 184 102 [oR 138 0, oI x1, oI x2, oI v6, nn] (q.2 ++ [vI x2, vR 177 (ix (cI 0))]) q.1)) (fun _ => rfl) (rg_bd1 h fun v8 hc h => rg_call (q := cvP s5 v8) (T_fRounds_placeAmong hc) ?_)
              refine rg_step 1 (G' := fun f => if inb x2 300 = true then evT f 184 103 [oR 138 0, oI x1, oI x2, oI v6, nn] [] (wI s5 (177 + (ix (cI 0))) (ix x2) v8) else none) (fun _ => rfl) (rg_gd h fun h => rg_ltM h fun s9 h => ?_)
              refine rg_step 7 (G' := fun f => if inb x2 300 = true then evT f 184 112 [oR 138 0, oI x1, oI x2, oI v6, nn] [] (wI s9 (177 + (ix (cI 2))) (ix x2) (cI 0)) else none) (fun _ => rfl) (rg_gd h fun h => rg_ltM h fun s10 h => ?_)
              refine rg_step 7 (G' := fun f => evT f 184 123 [oR 138 0, oI x1, oI x2, oI v6, nn] [vI (s10.1 138 12)] (wI s10 138 12 ((s10.1 138 12) + (cI 1)))) (fun _ => rfl) (rg_ltM h fun s11 h => ?_)
              refine rg_step 1 (G' := fun f => evT f 184 125 [oR 138 0, oI x1, oI x2, oI v6, oI (s10.1 138 12)] [] s11) (fun _ => rfl) (rg_ltI (P := fun v12 => RG (fun f => evT f 184 125 [oR 138 0, oI x1, oI x2, oI v6, oI v12] [] s11) (cvV q)) h fun v12 h => ?_)
              exact (t_fRounds_gather_h125 hk7) h
            · exact rg_step 1 (G' := fun f => evT f 184 177 [oR 138 0, oI x1, oI x2, oI v6, nn] [] s5) (fun _ => rfl) ((t_fRounds_gather_b177 hk7) h)
        · exact rg_step 1 (G' := fun f => evT f 184 177 [oR 138 0, oI x1, oI x2, nn, nn] [] s) (fun _ => rfl) ((t_fRounds_gather_b177 hk7) h)
    · exact rg_end 1 (fun _ => rfl) (by cases h; rfl)
theorem t_fRounds_gather_h7 {n : Nat} {s : ev_M} {x1 : Int32} {x2 : Int32} {j3 : Option ev_V} {j4 : Option ev_V} {q : ev_M} (h : fRounds_gather_h7 n s x1 x2 = some q) : RR 184 7 [oR 138 0, oI x1, oI x2, j3, j4] [] s (cvV q) := ti_fRounds_gather_h7 n s x1 x2 j3 j4 q h
