/-! ===== the interpreter does what the functions say, 5 ===== -/
theorem ev_ldcs {f M pc : Nat} {L : ev_L} {st : List ev_V} {s : ev_M} {idx : Nat} {r : Int} (h : ev_fnd2 (codT M) pc = some (.ldc idx, (2, (r, [])))) (hs : ev_str r = false) : evT (f + 1) M pc L st s = evT f M (pc + 2) L (vI (cI r) :: st) s := by
  rw [ev_step f M pc L _ s h]
  show (bif ev_str r then _ else _) = _
  rw [hs]
  rfl
theorem ev_mul1 {f M pc : Nat} {L : ev_L} {st : List ev_V} {s : ev_M} {x y : Int32} (h : ev_fnd2 (codT M) pc = some (.imul, (1, (0, [])))) : evT (f + 1) M pc L (vI y :: vI x :: st) s = evT f M (pc + 1) L (vI (x * y) :: st) s := by
  rw [ev_step f M pc L _ s h]
  rfl
theorem T_fRounds_gather {s : ev_M} {a1 : Int32} {q : ev_M} (h : fRounds_gather s a1 = some q) : RR 184 0 [oR 138 0, oI a1, nn, nn, nn] [] s (cvV q) := by
  refine rg_step 3 (G' := fun f => evT f 184 5 [oR 138 0, oI a1, nn, nn, nn] [] (wI s 138 12 (cI 0))) (fun _ => rfl) (rg_ltM h fun s13 h => ?_)
  exact rg_step 2 (G' := fun f => evT f 184 7 [oR 138 0, oI a1, oI (cI 0), nn, nn] [] s13) (fun _ => rfl) ((t_fRounds_gather_h7) h)
theorem t_fRounds_rank_b64 {k9 : ev_M → Nat → Int32 → Option ev_M} (hk9 : ∀ {s : ev_M} {i1 : Nat} {x2 : Int32} {j3 : Option ev_V} {q : ev_M}, k9 s i1 x2 = some q → RR 187 9 [oR 138 0, oR 177 i1, oI x2, j3] [] s (cvV q)) {s : ev_M} {i1 : Nat} {x2 : Int32} {x3 : Int32} {q : ev_M} (h : fRounds_rank_b64 k9 s i1 x2 x3 = some q) : RR 187 64 [oR 138 0, oR 177 i1, oI x2, oI x3] [] s (cvV q) := by
  refine rg_step 7 (G' := fun f => if inb x2 300 = true then evT f 187 75 [oR 138 0, oR 177 i1, oI x2, oI x3] [vI (s.1 174 (ix x2)), vI x3, vR 175 0] s else none) (fun _ => rfl) (rg_gd h fun h => ?_)
  refine rg_step 1 (G' := fun f => if inb x3 300 = true then evT f 187 76 [oR 138 0, oR 177 i1, oI x2, oI x3] [] (wI s 175 (ix x3) (s.1 174 (ix x2))) else none) (fun _ => rfl) (rg_gd h fun h => rg_ltM h fun s1 h => ?_)
  exact rg_step 2 (G' := fun f => evT f 187 9 [oR 138 0, oR 177 i1, oI (x2 + cI 1), oI x3] [] s1) (fun _ => rfl) (hk9 h)
theorem ti_fRounds_rank_h19 {k9 : ev_M → Nat → Int32 → Option ev_M} (hk9 : ∀ {s : ev_M} {i1 : Nat} {x2 : Int32} {j3 : Option ev_V} {q : ev_M}, k9 s i1 x2 = some q → RR 187 9 [oR 138 0, oR 177 i1, oI x2, j3] [] s (cvV q)) : ∀ (n : Nat) (s : ev_M) (i1 : Nat) (x2 : Int32) (x3 : Int32) (q : ev_M), fRounds_rank_h19 k9 n s i1 x2 x3 = some q → RR 187 19 [oR 138 0, oR 177 i1, oI x2, oI x3] [] s (cvV q) := by
  intro n
  induction n with
  | zero => intro s i1 x2 x3 q h; cases h
  | succ n ih =>
    have hk19 : ∀ {s : ev_M} {i1 : Nat} {x2 : Int32} {x3 : Int32} {q : ev_M}, fRounds_rank_h19 k9 n s i1 x2 x3 = some q → RR 187 19 [oR 138 0, oR 177 i1, oI x2, oI x3] [] s (cvV q) := fun h => ih _ _ _ _ _ h
    intro s i1 x2 x3 q h
    refine rg_step 2 (G' := fun f => if x3 ≤ 0 then evT f 187 64 [oR 138 0, oR 177 i1, oI x2, oI x3] [] s else evT f 187 23 [oR 138 0, oR 177 i1, oI x2, oI x3] [] s) (fun _ => rfl) (rg_if h (fun h => ?_) fun h => ?_)
    · exact (t_fRounds_rank_b64 hk9) h
    · refine rg_step 7 (G' := fun f => if inb (x3 - (cI 1)) 300 = true then evT f 187 32 [oR 138 0, oR 177 i1, oI x2, oI x3] [vI (s.1 175 (ix (x3 - (cI 1)))), vR 177 i1] s else none) (fun _ => rfl) (rg_gd h fun h => ?_)
      refine rg_step 1 (G' := fun f => if inb (s.1 175 (ix (x3 - (cI 1)))) 300 = true then evT f 187 33 [oR 138 0, oR 177 i1, oI x2, oI x3] [vI (s.1 (177 + i1) (ix (s.1 175 (ix (x3 - (cI 1))))))] s else none) (fun _ => rfl) (rg_gd h fun h => ?_)
      refine rg_step 5 (G' := fun f => if inb x2 300 = true then evT f 187 40 [oR 138 0, oR 177 i1, oI x2, oI x3] [vI (s.1 174 (ix x2)), vR 177 i1, vI (s.1 (177 + i1) (ix (s.1 175 (ix (x3 - (cI 1))))))] s else none) (fun _ => rfl) (rg_gd h fun h => ?_)
      refine rg_step 1 (G' := fun f => if inb (s.1 174 (ix x2)) 300 = true then evT f 187 41 [oR 138 0, oR 177 i1, oI x2, oI x3] [vI (s.1 (177 + i1) (ix (s.1 174 (ix x2)))), vI (s.1 (177 + i1) (ix (s.1 175 (ix (x3 - (cI 1))))))] s else none) (fun _ => rfl) (rg_gd h fun h => ?_)
      refine rg_step 1 (G' := fun f => if (s.1 (177 + i1) (ix (s.1 175 (ix (x3 - (cI 1)))))) ≤ (s.1 (177 + i1) (ix (s.1 174 (ix x2)))) then evT f 187 64 [oR 138 0, oR 177 i1, oI x2, oI x3] [] s else evT f 187 44 [oR 138 0, oR 177 i1, oI x2, oI x3] [] s) (fun _ => rfl) (rg_if h (fun h => ?_) fun h => ?_)
      · exact (t_fRounds_rank_b64 hk9) h
      · refine rg_step 9 (G' := fun f => if inb (x3 - (cI 1)) 300 = true then evT f 187 57 [oR 138 0, oR 177 i1, oI x2, oI x3] [vI (s.1 175 (ix (x3 - (cI 1)))), vI x3, vR 175 0] s else none) (fun _ => rfl) (rg_gd h fun h => ?_)
        refine rg_step 1 (G' := fun f => if inb x3 300 = true then evT f 187 58 [oR 138 0, oR 177 i1, oI x2, oI x3] [] (wI s 175 (ix x3) (s.1 175 (ix (x3 - (cI 1))))) else none) (fun _ => rfl) (rg_gd h fun h => rg_ltM h fun s2 h => ?_)
        exact rg_step 2 (G' := fun f => evT f 187 19 [oR 138 0, oR 177 i1, oI x2, oI (x3 + cI (-1))] [] s2) (fun f => Eq.trans (b := evT (f + 1 + 1) 187 58 [oR 138 0, oR 177 i1, oI x2, oI x3] [] s2) rfl ((ev_inc (f := f + 1) (M := 187) (pc := 58) (i := 3) (n := 3) (c := (-1)) (r := 0) (dl := []) (L := [oR 138 0, oR 177 i1, oI x2, oI x3]) (L' := [oR 138 0, oR 177 i1, oI x2, oI (x3 + cI (-1))]) (s := s2) (y := x3) rfl rfl rfl).trans rfl)) (hk19 h)
theorem t_fRounds_rank_h19 {k9 : ev_M → Nat → Int32 → Option ev_M} (hk9 : ∀ {s : ev_M} {i1 : Nat} {x2 : Int32} {j3 : Option ev_V} {q : ev_M}, k9 s i1 x2 = some q → RR 187 9 [oR 138 0, oR 177 i1, oI x2, j3] [] s (cvV q)) {n : Nat} {s : ev_M} {i1 : Nat} {x2 : Int32} {x3 : Int32} {q : ev_M} (h : fRounds_rank_h19 k9 n s i1 x2 x3 = some q) : RR 187 19 [oR 138 0, oR 177 i1, oI x2, oI x3] [] s (cvV q) := ti_fRounds_rank_h19 hk9 n s i1 x2 x3 q h
theorem ti_fRounds_rank_h84 : ∀ (n : Nat) (s : ev_M) (i1 : Nat) (x2 : Int32) (j3 : Option ev_V) (q : ev_M), fRounds_rank_h84 n s i1 x2 = some q → RR 187 84 [oR 138 0, oR 177 i1, oI x2, j3] [] s (cvV q) := by
  intro n
  induction n with
  | zero => intro s i1 x2 j3 q h; cases h
  | succ n ih =>
    have hk84 : ∀ {s : ev_M} {i1 : Nat} {x2 : Int32} {j3 : Option ev_V} {q : ev_M}, fRounds_rank_h84 n s i1 x2 = some q → RR 187 84 [oR 138 0, oR 177 i1, oI x2, j3] [] s (cvV q) := fun h => ih _ _ _ _ _ h
    intro s i1 x2 j3 q h
    refine rg_step 4 (G' := fun f => if x2 < (s.1 138 12) then evT f 187 92 [oR 138 0, oR 177 i1, oI x2, nn] [] s else evT f 187 107 [oR 138 0, oR 177 i1, oI x2, nn] [] s) (fun _ => rfl) (rg_if h (fun h => ?_) fun h => ?_)
    · refine rg_step 5 (G' := fun f => if inb x2 300 = true then evT f 187 99 [oR 138 0, oR 177 i1, oI x2, nn] [vI (s.1 175 (ix x2)), vR 177 i1] s else none) (fun _ => rfl) (rg_gd h fun h => ?_)
      refine rg_step 2 (G' := fun f => if inb (s.1 175 (ix x2)) 300 = true then evT f 187 101 [oR 138 0, oR 177 i1, oI x2, nn] [] (wI s (177 + i1) (ix (s.1 175 (ix x2))) x2) else none) (fun _ => rfl) (rg_gd h fun h => rg_ltM h fun s3 h => ?_)
      exact rg_step 2 (G' := fun f => evT f 187 84 [oR 138 0, oR 177 i1, oI (x2 + cI 1), nn] [] s3) (fun _ => rfl) (hk84 h)
    · exact rg_end 1 (fun _ => rfl) (by cases h; rfl)
theorem t_fRounds_rank_h84 {n : Nat} {s : ev_M} {i1 : Nat} {x2 : Int32} {j3 : Option ev_V} {q : ev_M} (h : fRounds_rank_h84 n s i1 x2 = some q) : RR 187 84 [oR 138 0, oR 177 i1, oI x2, j3] [] s (cvV q) := ti_fRounds_rank_h84 n s i1 x2 j3 q h
theorem ti_fRounds_rank_h9 : ∀ (n : Nat) (s : ev_M) (i1 : Nat) (x2 : Int32) (j3 : Option ev_V) (q : ev_M), fRounds_rank_h9 n s i1 x2 = some q → RR 187 9 [oR 138 0, oR 177 i1, oI x2, j3] [] s (cvV q) := by
  intro n
  induction n with
  | zero => intro s i1 x2 j3 q h; cases h
  | succ n ih =>
    have hk9 : ∀ {s : ev_M} {i1 : Nat} {x2 : Int32} {j3 : Option ev_V} {q : ev_M}, fRounds_rank_h9 n s i1 x2 = some q → RR 187 9 [oR 138 0, oR 177 i1, oI x2, j3] [] s (cvV q) := fun h => ih _ _ _ _ _ h
    intro s i1 x2 j3 q h
    refine rg_step 4 (G' := fun f => if x2 < (s.1 138 12) then evT f 187 17 [oR 138 0, oR 177 i1, oI x2, nn] [] s else evT f 187 82 [oR 138 0, oR 177 i1, oI x2, nn] [] s) (fun _ => rfl) (rg_if h (fun h => ?_) fun h => ?_)
    · exact rg_step 2 (G' := fun f => evT f 187 19 [oR 138 0, oR 177 i1, oI x2, oI x2] [] s) (fun _ => rfl) ((t_fRounds_rank_h19 hk9) h)
    · exact rg_step 2 (G' := fun f => evT f 187 84 [oR 138 0, oR 177 i1, oI (cI 0), nn] [] s) (fun _ => rfl) ((t_fRounds_rank_h84) h)
theorem t_fRounds_rank_h9 {n : Nat} {s : ev_M} {i1 : Nat} {x2 : Int32} {j3 : Option ev_V} {q : ev_M} (h : fRounds_rank_h9 n s i1 x2 = some q) : RR 187 9 [oR 138 0, oR 177 i1, oI x2, j3] [] s (cvV q) := ti_fRounds_rank_h9 n s i1 x2 j3 q h
theorem T_fRounds_rank {s : ev_M} {q : ev_M} (h : fRounds_rank s = some q) : RR 187 0 [oR 138 0, nn, nn, nn] [] s (cvV q) := by
  exact rg_step 7 (G' := fun f => evT f 187 9 [oR 138 0, oR 177 (ix (cI 0)), oI (cI 0), nn] [] s) (fun _ => rfl) ((t_fRounds_rank_h9) h)
theorem t_fRounds_sortItems_b111 {s : ev_M} {x1 : Int32} {j2 : Option ev_V} {j3 : Option ev_V} {q : ev_M × Int32} (h : fRounds_sortItems_b111 s x1 = some q) : RR 183 111 [oR 138 0, oI x1, j2, j3] [] s (cvI q) := by
  refine rg_step 3 (G' := fun f => ev_after (evT f 190 0 [oR 138 0, oI x1, nn, nn] [] s) (fun q => evT f 183 116 [oR 138 0, oI x1, nn, nn] (q.2 ++ []) q.1)) (fun _ => rfl) (rg_bd1 h fun s1 hc h => rg_call (q := cvV s1) (T_fRounds_keepSorted hc) ?_)
  refine rg_step 6 (G' := fun f => if inb x1 12 = true then evT f 183 124 [oR 138 0, oI x1, nn, nn] [vI (s1.1 (140 + (ix (cI 4))) (ix x1))] s1 else none) (fun _ => rfl) (rg_gd h fun h => ?_)
  exact rg_end 1 (fun _ => rfl) (by cases h; rfl)
theorem t_fRounds_sortItems_b74 {k56 : ev_M → Int32 → Int32 → Int32 → Option (ev_M × Int32)} (hk56 : ∀ {s : ev_M} {x1 : Int32} {x2 : Int32} {x3 : Int32} {q : ev_M × Int32}, k56 s x1 x2 x3 = some q → RR 183 56 [oR 138 0, oI x1, oI x2, oI x3] [] s (cvI q)) {s : ev_M} {x1 : Int32} {x2 : Int32} {x3 : Int32} {q : ev_M × Int32} (h : fRounds_sortItems_b74 k56 s x1 x2 x3 = some q) : RR 183 74 [oR 138 0, oI x1, oI x2, oI x3] [] s (cvI q) := by
  refine rg_step 3 (G' := fun f => if (s.1 138 12) ≤ 0 then evT f 183 111 [oR 138 0, oI x1, oI x2, oI x3] [] s else evT f 183 81 [oR 138 0, oI x1, oI x2, oI x3] [] s) (fun _ => rfl) (rg_if h (fun h => ?_) fun h => ?_)
  · exact (t_fRounds_sortItems_b111) h
  · refine rg_step 3 (G' := fun f => ev_after (evT f 188 0 [oR 138 0, oI x2, nn, nn, nn, nn] [] s) (fun q => evT f 183 86 [oR 138 0, oI x1, oI x2, oI x3] (q.2 ++ []) q.1)) (fun _ => rfl) (rg_bd1 h fun s2 hc h => rg_call (q := cvV s2) (T_fRounds_feedPass hc) ?_)
    refine rg_step 7 (G' := fun f => evT f 183 95 [oR 138 0, oI x1, oI (x2 * (s2.1 172 (ix (cI 0)))), oI x3] [] s2) (fun _ => rfl) (rg_ltI (P := fun v3 => RG (fun f => evT f 183 95 [oR 138 0, oI x1, oI v3, oI x3] [] s2) (cvI q)) h fun v3 h => ?_)
    refine rg_step 6 (G' := fun f => evT f 183 105 [oR 138 0, oI x1, oI v3, oI x3] [] (wI s2 138 9 ((s2.1 138 9) + (cI 1)))) (fun _ => rfl) (rg_ltM h fun s4 h => ?_)
    exact rg_step 2 (G' := fun f => evT f 183 56 [oR 138 0, oI x1, oI v3, oI (x3 + cI 1)] [] s4) (fun _ => rfl) (hk56 h)
theorem ti_fRounds_sortItems_h56 : ∀ (n : Nat) (s : ev_M) (x1 : Int32) (x2 : Int32) (x3 : Int32) (q : ev_M × Int32), fRounds_sortItems_h56 n s x1 x2 x3 = some q → RR 183 56 [oR 138 0, oI x1, oI x2, oI x3] [] s (cvI q) := by
  intro n
  induction n with
  | zero => intro s x1 x2 x3 q h; cases h
  | succ n ih =>
    have hk56 : ∀ {s : ev_M} {x1 : Int32} {x2 : Int32} {x3 : Int32} {q : ev_M × Int32}, fRounds_sortItems_h56 n s x1 x2 x3 = some q → RR 183 56 [oR 138 0, oI x1, oI x2, oI x3] [] s (cvI q) := fun h => ih _ _ _ _ _ h
    intro s x1 x2 x3 q h
    refine rg_step 3 (G' := fun f => if x3 < (cI 10) then evT f 183 62 [oR 138 0, oI x1, oI x2, oI x3] [] s else evT f 183 111 [oR 138 0, oI x1, oI x2, oI x3] [] s) (fun _ => rfl) (rg_if h (fun h => ?_) fun h => ?_)
    · refine rg_step 2 (G' := fun f => if x3 = 0 then evT f 183 74 [oR 138 0, oI x1, oI x2, oI x3] [] s else evT f 183 66 [oR 138 0, oI x1, oI x2, oI x3] [] s) (fun _ => rfl) (rg_if h (fun h => ?_) fun h => ?_)
      · exact (t_fRounds_sortItems_b74 hk56) h
      · refine rg_step 4 (G' := fun f => if x2 < (s.1 138 12) then evT f 183 74 [oR 138 0, oI x1, oI x2, oI x3] [] s else evT f 183 111 [oR 138 0, oI x1, oI x2, oI x3] [] s) (fun _ => rfl) (rg_if h (fun h => ?_) fun h => ?_)
        · exact (t_fRounds_sortItems_b74 hk56) h
        · exact (t_fRounds_sortItems_b111) h
    · exact (t_fRounds_sortItems_b111) h
theorem t_fRounds_sortItems_h56 {n : Nat} {s : ev_M} {x1 : Int32} {x2 : Int32} {x3 : Int32} {q : ev_M × Int32} (h : fRounds_sortItems_h56 n s x1 x2 x3 = some q) : RR 183 56 [oR 138 0, oI x1, oI x2, oI x3] [] s (cvI q) := ti_fRounds_sortItems_h56 n s x1 x2 x3 q h
theorem T_fRounds_sortItems {s : ev_M} {a1 : Int32} {q : ev_M × Int32} (h : fRounds_sortItems s a1 = some q) : RR 183 0 [oR 138 0, oI a1, nn, nn] [] s (cvI q) := by
  refine rg_step 3 (G' := fun f => ev_after (evT f 168 0 [oR 138 0, oI a1] [] s) (fun q => evT f 183 5 [oR 138 0, oI a1, nn, nn] (q.2 ++ []) q.1)) (fun _ => rfl) (rg_bd1 h fun v5 hc h => rg_call (q := cvP s v5) (T_fRounds_has hc) ?_)
  refine rg_step 1 (G' := fun f => if v5 = 0 then evT f 183 8 [oR 138 0, oI a1, nn, nn] [] s else evT f 183 11 [oR 138 0, oI a1, nn, nn] [] s) (fun _ => rfl) (rg_if h (fun h => ?_) fun h => ?_)
  · exact rg_end 2 (fun _ => rfl) (by cases h; rfl)
  · refine rg_step 6 (G' := fun f => if inb a1 12 = true then evT f 183 19 [oR 138 0, oI a1, nn, nn] [vI (s.1 (140 + (ix (cI 4))) (ix a1))] s else none) (fun _ => rfl) (rg_gd h fun h => ?_)
    refine rg_step 1 (G' := fun f => if (s.1 (140 + (ix (cI 4))) (ix a1)) ≤ 0 then evT f 183 25 [oR 138 0, oI a1, nn, nn] [] s else evT f 183 22 [oR 138 0, oI a1, nn, nn] [] s) (fun _ => rfl) (rg_if h (fun h => ?_) fun h => ?_)
    · refine rg_step 3 (G' := fun f => ev_after (evT f 123 0 [oR 9 0, nn] [] s) (fun q => evT f 183 32 [oR 138 0, oI a1, nn, nn] (q.2 ++ []) q.1)) (fun _ => rfl) (rg_bd2 h fun s6 v7 hc h => rg_call (q := cvI (s6, v7)) (T_fLog_admits hc) ?_)
      refine rg_step 1 (G' := fun f => if v7 = 0 then evT f 183 35 [oR 138 0, oI a1, nn, nn] [] s6 else evT f 183 38 [oR 138 0, oI a1, nn, nn] [] s6) (fun _ => rfl) (rg_if h (fun h => ?_) fun h => ?_)
      · exact rg_end 2 (fun _ => rfl) (by cases h; rfl)
      · refine rg_step 3 (G' := fun f => ev_after (evT f 184 0 [oR 138 0, oI a1, nn, nn, nn] [] s6) (fun q => evT f 183 43 [oR 138 0, oI a1, nn, nn] (q.2 ++ []) q.1)) (fun _ => rfl) (rg_bd1 h fun s8 hc h => rg_call (q := cvV s8) (T_fRounds_gather hc) ?_)
        refine rg_step 2 (G' := fun f => ev_after (evT f 187 0 [oR 138 0, nn, nn, nn] [] s8) (fun q => evT f 183 47 [oR 138 0, oI a1, nn, nn] (q.2 ++ []) q.1)) (fun _ => rfl) (rg_bd1 h fun s9 hc h => rg_call (q := cvV s9) (T_fRounds_rank hc) ?_)
        refine rg_step 3 (G' := fun f => evT f 183 52 [oR 138 0, oI a1, nn, nn] [] (wI s9 138 9 (cI 0))) (fun _ => rfl) (rg_ltM h fun s10 h => ?_)
        exact rg_step 4 (G' := fun f => evT f 183 56 [oR 138 0, oI a1, oI (cI 1), oI (cI 0)] [] s10) (fun _ => rfl) ((t_fRounds_sortItems_h56) h)
    · exact rg_end 2 (fun _ => rfl) (by cases h; rfl)
theorem ti_fRounds_sendOut_h42 : ∀ (n : Nat) (s : ev_M) (x1 : Int32) (x2 : Int32) (x3 : Int32) (q : ev_M × Int32), fRounds_sendOut_h42 n s x1 x2 x3 = some q → RR 192 42 [oR 138 0, oI x1, oI x2, oI x3] [] s (cvI q) := by
  intro n
  induction n with
  | zero => intro s x1 x2 x3 q h; cases h
  | succ n ih =>
    have hk42 : ∀ {s : ev_M} {x1 : Int32} {x2 : Int32} {x3 : Int32} {q : ev_M × Int32}, fRounds_sendOut_h42 n s x1 x2 x3 = some q → RR 192 42 [oR 138 0, oI x1, oI x2, oI x3] [] s (cvI q) := fun h => ih _ _ _ _ _ h
    intro s x1 x2 x3 q h
    refine rg_step 3 (G' := fun f => if x3 < x2 then evT f 192 47 [oR 138 0, oI x1, oI x2, oI x3] [] s else evT f 192 69 [oR 138 0, oI x1, oI x2, oI x3] [] s) (fun _ => rfl) (rg_if h (fun h => ?_) fun h => ?_)
    · refine rg_step 6 (G' := fun f => if inb x1 12 = true then evT f 192 57 [oR 138 0, oI x1, oI x2, oI x3] [vR 160 (ix x1), vR 100 0] s else none) (fun _ => rfl) (rg_gd h fun h => ?_)
      refine rg_step 2 (G' := fun f => if inb x3 300 = true then evT f 192 59 [oR 138 0, oI x1, oI x2, oI x3] [vI (s.1 (160 + (ix x1)) (ix x3)), vR 100 0] s else none) (fun _ => rfl) (rg_gd h fun h => ?_)
      refine rg_step 2 (G' := fun f => ev_after (evT f 55 0 [oR 100 0, oI (s.1 (160 + (ix x1)) (ix x3)), oI (cI 4)] [] s) (fun q => evT f 192 63 [oR 138 0, oI x1, oI x2, oI x3] (q.2 ++ []) q.1)) (fun _ => rfl) (rg_bd1 h fun s1 hc h => rg_call (q := cvV s1) (T_fItems_come hc) ?_)
      exact rg_step 2 (G' := fun f => evT f 192 42 [oR 138 0, oI x1, oI x2, oI (x3 + cI 1)] [] s1) (fun _ => rfl) (hk42 h)
    · refine rg_step 7 (G' := fun f => if inb x1 12 = true then evT f 192 78 [oR 138 0, oI x1, oI x2, oI x3] [] (wI s (140 + (ix (cI 4))) (ix x1) (cI 0)) else none) (fun _ => rfl) (rg_gd h fun h => rg_ltM h fun s2 h => ?_)
      exact rg_end 2 (fun _ => rfl) (by cases h; rfl)
theorem t_fRounds_sendOut_h42 {n : Nat} {s : ev_M} {x1 : Int32} {x2 : Int32} {x3 : Int32} {q : ev_M × Int32} (h : fRounds_sendOut_h42 n s x1 x2 x3 = some q) : RR 192 42 [oR 138 0, oI x1, oI x2, oI x3] [] s (cvI q) := ti_fRounds_sendOut_h42 n s x1 x2 x3 q h
theorem T_fRounds_sendOut {s : ev_M} {a1 : Int32} {q : ev_M × Int32} (h : fRounds_sendOut s a1 = some q) : RR 192 0 [oR 138 0, oI a1, nn, nn] [] s (cvI q) := by
  refine rg_step 3 (G' := fun f => ev_after (evT f 168 0 [oR 138 0, oI a1] [] s) (fun q => evT f 192 5 [oR 138 0, oI a1, nn, nn] (q.2 ++ []) q.1)) (fun _ => rfl) (rg_bd1 h fun v3 hc h => rg_call (q := cvP s v3) (T_fRounds_has hc) ?_)
  refine rg_step 1 (G' := fun f => if v3 = 0 then evT f 192 8 [oR 138 0, oI a1, nn, nn] [] s else evT f 192 11 [oR 138 0, oI a1, nn, nn] [] s) (fun _ => rfl) (rg_if h (fun h => ?_) fun h => ?_)
  · exact rg_end 2 (fun _ => rfl) (by cases h; rfl)
  · refine rg_step 6 (G' := fun f => if inb a1 12 = true then evT f 192 19 [oR 138 0, oI a1, nn, nn] [vI (s.1 (140 + (ix (cI 4))) (ix a1))] s else none) (fun _ => rfl) (rg_gd h fun h => ?_)
    refine rg_step 1 (G' := fun f => evT f 192 20 [oR 138 0, oI a1, oI (s.1 (140 + (ix (cI 4))) (ix a1)), nn] [] s) (fun _ => rfl) (rg_ltI (P := fun v4 => RG (fun f => evT f 192 20 [oR 138 0, oI a1, oI v4, nn] [] s) (cvI q)) h fun v4 h => ?_)
    refine rg_step 2 (G' := fun f => if v4 = 0 then evT f 192 24 [oR 138 0, oI a1, oI v4, nn] [] s else evT f 192 27 [oR 138 0, oI a1, oI v4, nn] [] s) (fun _ => rfl) (rg_if h (fun h => ?_) fun h => ?_)
    · exact rg_end 2 (fun _ => rfl) (by cases h; rfl)
    · refine rg_step 3 (G' := fun f => ev_after (evT f 123 0 [oR 9 0, nn] [] s) (fun q => evT f 192 34 [oR 138 0, oI a1, oI v4, nn] (q.2 ++ []) q.1)) (fun _ => rfl) (rg_bd2 h fun s5 v6 hc h => rg_call (q := cvI (s5, v6)) (T_fLog_admits hc) ?_)
      refine rg_step 1 (G' := fun f => if v6 = 0 then evT f 192 37 [oR 138 0, oI a1, oI v4, nn] [] s5 else evT f 192 40 [oR 138 0, oI a1, oI v4, nn] [] s5) (fun _ => rfl) (rg_if h (fun h => ?_) fun h => ?_)
      · exact rg_end 2 (fun _ => rfl) (by cases h; rfl)
      · exact rg_step 2 (G' := fun f => evT f 192 42 [oR 138 0, oI a1, oI v4, oI (cI 0)] [] s5) (fun _ => rfl) ((t_fRounds_sendOut_h42) h)
theorem T_fLines_firstFrom {s : ev_M} {a1 : Int32} {a2 : Int32} {q : Int32} (h : fLines_firstFrom s a1 a2 = some q) : RR 90 0 [oR 449 0, oI a1, oI a2] [] s (cvP s q) := by
  refine rg_step 7 (G' := fun f => if inb a1 20 = true then evT f 90 9 [oR 449 0, oI a1, oI a2] [vI (s.1 (451 + (ix (cI 2))) (ix a1)), vI a2] s else none) (fun _ => rfl) (rg_gd h fun h => ?_)
  refine rg_step 5 (G' := fun f => if (cI 1440) = 0 then none else evT f 90 18 [oR 449 0, oI a1, oI a2] [vI (irem a2 (cI 1440)), vI ((s.1 (451 + (ix (cI 2))) (ix a1)) + (cI 1440)), vI a2] s) (fun _ => rfl) (rg_dv h fun h => ?_)
  refine rg_step 3 (G' := fun f => if (cI 1440) = 0 then none else evT f 90 23 [oR 449 0, oI a1, oI a2] [vI (irem (((s.1 (451 + (ix (cI 2))) (ix a1)) + (cI 1440)) - (irem a2 (cI 1440))) (cI 1440)), vI a2] s) (fun _ => rfl) (rg_dv h fun h => ?_)
  exact rg_end 2 (fun _ => rfl) (congrArg (cvP s) (Option.some.inj h))
theorem T_fLines_setNext {s : ev_M} {a1 : Int32} {q : ev_M} (h : fLines_setNext s a1 = some q) : RR 89 0 [oR 449 0, oI a1] [] s (cvV q) := by
  refine rg_step 13 (G' := fun f => ev_after (evT f 90 0 [oR 449 0, oI a1, oI ((s.1 15 1) + (cI 1))] [] s) (fun q => evT f 89 21 [oR 449 0, oI a1] (q.2 ++ [vI a1, vR 451 (ix (cI 5))]) q.1)) (fun _ => rfl) (rg_bd1 h fun v1 hc h => rg_call (q := cvP s v1) (T_fLines_firstFrom hc) ?_)
  refine rg_step 1 (G' := fun f => if inb a1 20 = true then evT f 89 22 [oR 449 0, oI a1] [] (wI s (451 + (ix (cI 5))) (ix a1) v1) else none) (fun _ => rfl) (rg_gd h fun h => rg_ltM h fun s2 h => ?_)
  refine rg_step 7 (G' := fun f => if inb a1 20 = true then evT f 89 32 [oR 449 0, oI a1] [] (wI s2 (451 + (ix (cI 6))) (ix a1) (cI 0)) else none) (fun _ => rfl) (rg_gd h fun h => rg_ltM h fun s3 h => ?_)
  exact rg_end 1 (fun _ => rfl) (by cases h; rfl)
theorem T_fLines_make {s : ev_M} {a1 : Int32} {a2 : Int32} {a3 : Int32} {a4 : Int32} {a5 : Int32} {q : ev_M × Int32} (h : fLines_make s a1 a2 a3 a4 a5 = some q) : RR 88 0 [oR 449 0, oI a1, oI a2, oI a3, oI a4, oI a5] [] s (cvI q) := by
  refine rg_step 4 (G' := fun f => ev_after (evT f 27 0 [oR 30 0, oI a1] [] s) (fun q => evT f 88 8 [oR 449 0, oI a1, oI a2, oI a3, oI a4, oI a5] (q.2 ++ []) q.1)) (fun _ => rfl) (rg_bd1 h fun v1 hc h => rg_call (q := cvP s v1) (T_fBook_hasPlace hc) ?_)
  refine rg_step 1 (G' := fun f => if v1 = 0 then evT f 88 22 [oR 449 0, oI a1, oI a2, oI a3, oI a4, oI a5] [] s else evT f 88 11 [oR 449 0, oI a1, oI a2, oI a3, oI a4, oI a5] [] s) (fun _ => rfl) (rg_if h (fun h => ?_) fun h => ?_)
  · exact rg_end 2 (fun _ => rfl) (by cases h; rfl)
  · refine rg_step 4 (G' := fun f => ev_after (evT f 27 0 [oR 30 0, oI a2] [] s) (fun q => evT f 88 19 [oR 449 0, oI a1, oI a2, oI a3, oI a4, oI a5] (q.2 ++ []) q.1)) (fun _ => rfl) (rg_bd1 h fun v2 hc h => rg_call (q := cvP s v2) (T_fBook_hasPlace hc) ?_)
    refine rg_step 1 (G' := fun f => if v2 = 0 then evT f 88 22 [oR 449 0, oI a1, oI a2, oI a3, oI a4, oI a5] [] s else evT f 88 25 [oR 449 0, oI a1, oI a2, oI a3, oI a4, oI a5] [] s) (fun _ => rfl) (rg_if h (fun h => ?_) fun h => ?_)
    · exact rg_end 2 (fun _ => rfl) (by cases h; rfl)
    · refine rg_step 3 (G' := fun f => if a1 = a2 then evT f 88 64 [oR 449 0, oI a1, oI a2, oI a3, oI a4, oI a5] [] s else evT f 88 30 [oR 449 0, oI a1, oI a2, oI a3, oI a4, oI a5] [] s) (fun _ => rfl) (rg_if h (fun h => ?_) fun h => ?_)
      · exact rg_end 2 (fun _ => rfl) (by cases h; rfl)
      · refine rg_step 4 (G' := fun f => ev_after (evT f 308 0 [oI a3, oI (cI 0), oI (cI 1439)] [] s) (fun q => evT f 88 38 [oR 449 0, oI a1, oI a2, oI a3, oI a4, oI a5] (q.2 ++ []) q.1)) (fun _ => rfl) (rg_bd1 h fun v3 hc h => rg_call (q := cvP s v3) (T_fPH_outside hc) ?_)
        refine rg_step 1 (G' := fun f => if v3 = 0 then evT f 88 41 [oR 449 0, oI a1, oI a2, oI a3, oI a4, oI a5] [] s else evT f 88 64 [oR 449 0, oI a1, oI a2, oI a3, oI a4, oI a5] [] s) (fun _ => rfl) (rg_if h (fun h => ?_) fun h => ?_)
        · refine rg_step 4 (G' := fun f => ev_after (evT f 308 0 [oI a4, oI (cI 1), oI (cI 3000)] [] s) (fun q => evT f 88 50 [oR 449 0, oI a1, oI a2, oI a3, oI a4, oI a5] (q.2 ++ []) q.1)) (fun _ => rfl) (rg_bd1 h fun v4 hc h => rg_call (q := cvP s v4) (T_fPH_outside hc) ?_)
          refine rg_step 1 (G' := fun f => if v4 = 0 then evT f 88 53 [oR 449 0, oI a1, oI a2, oI a3, oI a4, oI a5] [] s else evT f 88 64 [oR 449 0, oI a1, oI a2, oI a3, oI a4, oI a5] [] s) (fun _ => rfl) (rg_if h (fun h => ?_) fun h => ?_)
          · refine rg_step 4 (G' := fun f => ev_after (evT f 308 0 [oI a5, oI (cI 1), oI (cI 20)] [] s) (fun q => evT f 88 61 [oR 449 0, oI a1, oI a2, oI a3, oI a4, oI a5] (q.2 ++ []) q.1)) (fun _ => rfl) (rg_bd1 h fun v5 hc h => rg_call (q := cvP s v5) (T_fPH_outside hc) ?_)
            refine rg_step 1 (G' := fun f => if v5 = 0 then evT f 88 67 [oR 449 0, oI a1, oI a2, oI a3, oI a4, oI a5] [] s else evT f 88 64 [oR 449 0, oI a1, oI a2, oI a3, oI a4, oI a5] [] s) (fun _ => rfl) (rg_if h (fun h => ?_) fun h => ?_)
            · refine rg_step 4 (G' := fun f => if (s.1 449 4) < (cI 20) then evT f 88 76 [oR 449 0, oI a1, oI a2, oI a3, oI a4, oI a5] [] s else evT f 88 86 [oR 449 0, oI a1, oI a2, oI a3, oI a4, oI a5] [] s) (fun _ => rfl) (rg_if h (fun h => ?_) fun h => ?_)
              · refine rg_step 3 (G' := fun f => ev_after (evT f 123 0 [oR 9 0, nn] [] s) (fun q => evT f 88 83 [oR 449 0, oI a1, oI a2, oI a3, oI a4, oI a5] (q.2 ++ []) q.1)) (fun _ => rfl) (rg_bd2 h fun s6 v7 hc h => rg_call (q := cvI (s6, v7)) (T_fLog_admits hc) ?_)
                refine rg_step 1 (G' := fun f => if v7 = 0 then evT f 88 86 [oR 449 0, oI a1, oI a2, oI a3, oI a4, oI a5] [] s6 else evT f 88 89 [oR 449 0, oI a1, oI a2, oI a3, oI a4, oI a5] [] s6) (fun _ => rfl) (rg_if h (fun h => ?_) fun h => ?_)
                · exact rg_end 2 (fun _ => rfl) (by cases h; rfl)
                · refine rg_step 8 (G' := fun f => if inb (s6.1 449 4) 20 = true then evT f 88 101 [oR 449 0, oI a1, oI a2, oI a3, oI a4, oI a5] [] (wI s6 (451 + (ix (cI 0))) (ix (s6.1 449 4)) a1) else none) (fun _ => rfl) (rg_gd h fun h => rg_ltM h fun s8 h => ?_)
                  refine rg_step 8 (G' := fun f => if inb (s8.1 449 4) 20 = true then evT f 88 113 [oR 449 0, oI a1, oI a2, oI a3, oI a4, oI a5] [] (wI s8 (451 + (ix (cI 1))) (ix (s8.1 449 4)) a2) else none) (fun _ => rfl) (rg_gd h fun h => rg_ltM h fun s9 h => ?_)
                  refine rg_step 8 (G' := fun f => if inb (s9.1 449 4) 20 = true then evT f 88 125 [oR 449 0, oI a1, oI a2, oI a3, oI a4, oI a5] [] (wI s9 (451 + (ix (cI 2))) (ix (s9.1 449 4)) a3) else none) (fun _ => rfl) (rg_gd h fun h => rg_ltM h fun s10 h => ?_)
                  refine rg_step 8 (G' := fun f => if inb (s10.1 449 4) 20 = true then evT f 88 138 [oR 449 0, oI a1, oI a2, oI a3, oI a4, oI a5] [] (wI s10 (451 + (ix (cI 3))) (ix (s10.1 449 4)) a4) else none) (fun _ => rfl) (rg_gd h fun h => rg_ltM h fun s11 h => ?_)
                  refine rg_step 8 (G' := fun f => if inb (s11.1 449 4) 20 = true then evT f 88 151 [oR 449 0, oI a1, oI a2, oI a3, oI a4, oI a5] [] (wI s11 (451 + (ix (cI 4))) (ix (s11.1 449 4)) a5) else none) (fun _ => rfl) (rg_gd h fun h => rg_ltM h fun s12 h => ?_)
                  refine rg_step 4 (G' := fun f => ev_after (evT f 89 0 [oR 449 0, oI (s12.1 449 4)] [] s12) (fun q => evT f 88 159 [oR 449 0, oI a1, oI a2, oI a3, oI a4, oI a5] (q.2 ++ []) q.1)) (fun _ => rfl) (rg_bd1 h fun s13 hc h => rg_call (q := cvV s13) (T_fLines_setNext hc) ?_)
                  refine rg_step 7 (G' := fun f => evT f 88 170 [oR 449 0, oI a1, oI a2, oI a3, oI a4, oI a5] [vI (s13.1 449 4)] (wI s13 449 4 ((s13.1 449 4) + (cI 1)))) (fun _ => rfl) (rg_ltM h fun s14 h => ?_)
                  exact rg_end 1 (fun _ => rfl) (by cases h; rfl)
              · exact rg_end 2 (fun _ => rfl) (by cases h; rfl)
            · exact rg_end 2 (fun _ => rfl) (by cases h; rfl)
          · exact rg_end 2 (fun _ => rfl) (by cases h; rfl)
        · exact rg_end 2 (fun _ => rfl) (by cases h; rfl)
theorem T_fLines_has {s : ev_M} {a1 : Int32} {q : Int32} (h : fLines_has s a1 = some q) : RR 86 0 [oR 449 0, oI a1] [] s (cvP s q) := by
  refine rg_step 7 (G' := fun f => ev_after (evT f 308 0 [oI a1, oI (cI 0), oI ((s.1 449 4) - (cI 1))] [] s) (fun q => evT f 86 11 [oR 449 0, oI a1] (q.2 ++ []) q.1)) (fun _ => rfl) (rg_bd1 h fun v1 hc h => rg_call (q := cvP s v1) (T_fPH_outside hc) ?_)
  refine rg_step 1 (G' := fun f => if v1 = 0 then evT f 86 14 [oR 449 0, oI a1] [] s else evT f 86 18 [oR 449 0, oI a1] [] s) (fun _ => rfl) (rg_if h (fun h => ?_) fun h => ?_)
  · exact rg_end 3 (fun _ => rfl) (by cases h; rfl)
  · exact rg_end 2 (fun _ => rfl) (by cases h; rfl)
theorem T_fLines_delay {s : ev_M} {a1 : Int32} {a2 : Int32} {q : ev_M × Int32} (h : fLines_delay s a1 a2 = some q) : RR 91 0 [oR 449 0, oI a1, oI a2] [] s (cvI q) := by
  refine rg_step 3 (G' := fun f => ev_after (evT f 86 0 [oR 449 0, oI a1] [] s) (fun q => evT f 91 5 [oR 449 0, oI a1, oI a2] (q.2 ++ []) q.1)) (fun _ => rfl) (rg_bd1 h fun v1 hc h => rg_call (q := cvP s v1) (T_fLines_has hc) ?_)
  refine rg_step 1 (G' := fun f => if v1 = 0 then evT f 91 8 [oR 449 0, oI a1, oI a2] [] s else evT f 91 11 [oR 449 0, oI a1, oI a2] [] s) (fun _ => rfl) (rg_if h (fun h => ?_) fun h => ?_)
  · exact rg_end 2 (fun _ => rfl) (by cases h; rfl)
  · refine rg_step 4 (G' := fun f => ev_after (evT f 308 0 [oI a2, oI (cI 1), oI (cI 600)] [] s) (fun q => evT f 91 19 [oR 449 0, oI a1, oI a2] (q.2 ++ []) q.1)) (fun _ => rfl) (rg_bd1 h fun v2 hc h => rg_call (q := cvP s v2) (T_fPH_outside hc) ?_)
    refine rg_step 1 (G' := fun f => if v2 = 0 then evT f 91 25 [oR 449 0, oI a1, oI a2] [] s else evT f 91 22 [oR 449 0, oI a1, oI a2] [] s) (fun _ => rfl) (rg_if h (fun h => ?_) fun h => ?_)
    · refine rg_step 3 (G' := fun f => ev_after (evT f 123 0 [oR 9 0, nn] [] s) (fun q => evT f 91 32 [oR 449 0, oI a1, oI a2] (q.2 ++ []) q.1)) (fun _ => rfl) (rg_bd2 h fun s3 v4 hc h => rg_call (q := cvI (s3, v4)) (T_fLog_admits hc) ?_)
      refine rg_step 1 (G' := fun f => if v4 = 0 then evT f 91 35 [oR 449 0, oI a1, oI a2] [] s3 else evT f 91 38 [oR 449 0, oI a1, oI a2] [] s3) (fun _ => rfl) (rg_if h (fun h => ?_) fun h => ?_)
      · exact rg_end 2 (fun _ => rfl) (by cases h; rfl)
      · refine rg_step 7 (G' := fun f => if inb a1 20 = true then evT f 91 47 [oR 449 0, oI a1, oI a2] [vI (s3.1 (451 + (ix (cI 5))) (ix a1)), vI a1, vR 451 (ix (cI 5))] s3 else none) (fun _ => rfl) (rg_gd h fun h => ?_)
        refine rg_step 3 (G' := fun f => if inb a1 20 = true then evT f 91 50 [oR 449 0, oI a1, oI a2] [] (wI s3 (451 + (ix (cI 5))) (ix a1) ((s3.1 (451 + (ix (cI 5))) (ix a1)) + a2)) else none) (fun _ => rfl) (rg_gd h fun h => rg_ltM h fun s5 h => ?_)
        refine rg_step 7 (G' := fun f => if inb a1 20 = true then evT f 91 60 [oR 449 0, oI a1, oI a2] [vI (s5.1 (451 + (ix (cI 6))) (ix a1)), vI a1, vR 451 (ix (cI 6))] s5 else none) (fun _ => rfl) (rg_gd h fun h => ?_)
        refine rg_step 3 (G' := fun f => if inb a1 20 = true then evT f 91 63 [oR 449 0, oI a1, oI a2] [] (wI s5 (451 + (ix (cI 6))) (ix a1) ((s5.1 (451 + (ix (cI 6))) (ix a1)) + a2)) else none) (fun _ => rfl) (rg_gd h fun h => rg_ltM h fun s6 h => ?_)
        refine rg_step 6 (G' := fun f => if inb a1 20 = true then evT f 91 72 [oR 449 0, oI a1, oI a2] [vI (s6.1 (451 + (ix (cI 6))) (ix a1))] s6 else none) (fun _ => rfl) (rg_gd h fun h => ?_)
        exact rg_end 1 (fun _ => rfl) (by cases h; rfl)
    · exact rg_end 2 (fun _ => rfl) (by cases h; rfl)
theorem T_fLines_makeBag {s : ev_M} {a1 : Int32} {a2 : Int32} {q : ev_M × Int32} (h : fLines_makeBag s a1 a2 = some q) : RR 92 0 [oR 449 0, oI a1, oI a2] [] s (cvI q) := by
  refine rg_step 4 (G' := fun f => ev_after (evT f 27 0 [oR 30 0, oI a1] [] s) (fun q => evT f 92 8 [oR 449 0, oI a1, oI a2] (q.2 ++ []) q.1)) (fun _ => rfl) (rg_bd1 h fun v1 hc h => rg_call (q := cvP s v1) (T_fBook_hasPlace hc) ?_)
  refine rg_step 1 (G' := fun f => if v1 = 0 then evT f 92 22 [oR 449 0, oI a1, oI a2] [] s else evT f 92 11 [oR 449 0, oI a1, oI a2] [] s) (fun _ => rfl) (rg_if h (fun h => ?_) fun h => ?_)
  · exact rg_end 2 (fun _ => rfl) (by cases h; rfl)
  · refine rg_step 4 (G' := fun f => ev_after (evT f 27 0 [oR 30 0, oI a2] [] s) (fun q => evT f 92 19 [oR 449 0, oI a1, oI a2] (q.2 ++ []) q.1)) (fun _ => rfl) (rg_bd1 h fun v2 hc h => rg_call (q := cvP s v2) (T_fBook_hasPlace hc) ?_)
    refine rg_step 1 (G' := fun f => if v2 = 0 then evT f 92 22 [oR 449 0, oI a1, oI a2] [] s else evT f 92 25 [oR 449 0, oI a1, oI a2] [] s) (fun _ => rfl) (rg_if h (fun h => ?_) fun h => ?_)
    · exact rg_end 2 (fun _ => rfl) (by cases h; rfl)
    · refine rg_step 3 (G' := fun f => if a1 = a2 then evT f 92 30 [oR 449 0, oI a1, oI a2] [] s else evT f 92 33 [oR 449 0, oI a1, oI a2] [] s) (fun _ => rfl) (rg_if h (fun h => ?_) fun h => ?_)
      · exact rg_end 2 (fun _ => rfl) (by cases h; rfl)
      · refine rg_step 4 (G' := fun f => if (s.1 449 6) < (cI 80) then evT f 92 42 [oR 449 0, oI a1, oI a2] [] s else evT f 92 52 [oR 449 0, oI a1, oI a2] [] s) (fun _ => rfl) (rg_if h (fun h => ?_) fun h => ?_)
        · refine rg_step 3 (G' := fun f => ev_after (evT f 123 0 [oR 9 0, nn] [] s) (fun q => evT f 92 49 [oR 449 0, oI a1, oI a2] (q.2 ++ []) q.1)) (fun _ => rfl) (rg_bd2 h fun s3 v4 hc h => rg_call (q := cvI (s3, v4)) (T_fLog_admits hc) ?_)
          refine rg_step 1 (G' := fun f => if v4 = 0 then evT f 92 52 [oR 449 0, oI a1, oI a2] [] s3 else evT f 92 55 [oR 449 0, oI a1, oI a2] [] s3) (fun _ => rfl) (rg_if h (fun h => ?_) fun h => ?_)
          · exact rg_end 2 (fun _ => rfl) (by cases h; rfl)
          · refine rg_step 8 (G' := fun f => if inb (s3.1 449 6) 80 = true then evT f 92 67 [oR 449 0, oI a1, oI a2] [] (wI s3 (459 + (ix (cI 0))) (ix (s3.1 449 6)) (cI 0)) else none) (fun _ => rfl) (rg_gd h fun h => rg_ltM h fun s5 h => ?_)
            refine rg_step 8 (G' := fun f => if inb (s5.1 449 6) 80 = true then evT f 92 79 [oR 449 0, oI a1, oI a2] [] (wI s5 (459 + (ix (cI 1))) (ix (s5.1 449 6)) a1) else none) (fun _ => rfl) (rg_gd h fun h => rg_ltM h fun s6 h => ?_)
            refine rg_step 8 (G' := fun f => if inb (s6.1 449 6) 80 = true then evT f 92 91 [oR 449 0, oI a1, oI a2] [] (wI s6 (459 + (ix (cI 2))) (ix (s6.1 449 6)) a2) else none) (fun _ => rfl) (rg_gd h fun h => rg_ltM h fun s7 h => ?_)
            refine rg_step 8 (G' := fun f => if inb (s7.1 449 6) 80 = true then evT f 92 103 [oR 449 0, oI a1, oI a2] [] (wI s7 (459 + (ix (cI 3))) (ix (s7.1 449 6)) (cI 0)) else none) (fun _ => rfl) (rg_gd h fun h => rg_ltM h fun s8 h => ?_)
            refine rg_step 8 (G' := fun f => if inb (s8.1 449 6) 80 = true then evT f 92 115 [oR 449 0, oI a1, oI a2] [] (wI s8 (459 + (ix (cI 4))) (ix (s8.1 449 6)) (cI (-1))) else none) (fun _ => rfl) (rg_gd h fun h => rg_ltM h fun s9 h => ?_)
            refine rg_step 8 (G' := fun f => if inb (s9.1 449 6) 80 = true then evT f 92 127 [oR 449 0, oI a1, oI a2] [] (wI s9 (459 + (ix (cI 5))) (ix (s9.1 449 6)) (cI (-1))) else none) (fun _ => rfl) (rg_gd h fun h => rg_ltM h fun s10 h => ?_)
            refine rg_step 7 (G' := fun f => evT f 92 138 [oR 449 0, oI a1, oI a2] [vI (s10.1 449 6)] (wI s10 449 6 ((s10.1 449 6) + (cI 1)))) (fun _ => rfl) (rg_ltM h fun s11 h => ?_)
            exact rg_end 1 (fun _ => rfl) (by cases h; rfl)
        · exact rg_end 2 (fun _ => rfl) (by cases h; rfl)
theorem t_fItems_goalPlaceOf_b40 {s : ev_M} {y1 : Int32} {j0 : Option ev_V} {j1 : Option ev_V} {j2 : Option ev_V} {q : ev_M × Int32} (h : fItems_goalPlaceOf_b40 s y1 = some q) : RR 70 40 [j0, j1, j2] [vI y1, vR 30 0] s (cvI q) := by
  refine rg_step 1 (G' := fun f => ev_after (evT f 30 0 [oR 30 0, oI y1] [] s) (fun q => evT f 70 43 [nn, nn, nn] (q.2 ++ []) q.1)) (fun _ => rfl) (rg_bd1 h fun v1 hc h => rg_call (q := cvP s v1) (T_fBook_placeOfPoint hc) ?_)
  exact rg_end 1 (fun _ => rfl) (by cases h; rfl)
theorem t_fItems_goalPlaceOf_b29 {s : ev_M} {j1 : Option ev_V} {j2 : Option ev_V} {q : ev_M × Int32} (h : fItems_goalPlaceOf_b29 s = some q) : RR 70 29 [oR 100 0, j1, j2] [vR 30 0] s (cvI q) := by
  exact rg_step 4 (G' := fun f => evT f 70 40 [oR 100 0, nn, nn] [vI (s.1 30 15), vR 30 0] s) (fun _ => rfl) ((t_fItems_goalPlaceOf_b40) h)
theorem T_fItems_goalPlaceOf {s : ev_M} {a1 : Int32} {q : ev_M × Int32} (h : fItems_goalPlaceOf s a1 = some q) : RR 70 0 [oR 100 0, oI a1, nn] [] s (cvI q) := by
  refine rg_step 3 (G' := fun f => ev_after (evT f 69 0 [oR 100 0, oI a1, nn] [] s) (fun q => evT f 70 5 [oR 100 0, oI a1, nn] (q.2 ++ []) q.1)) (fun _ => rfl) (rg_bd2 h fun s2 v3 hc h => rg_call (q := cvI (s2, v3)) (T_fItems_goalOf hc) ?_)
  refine rg_step 4 (G' := fun f => if v3 = (cI (-1)) then evT f 70 11 [oR 100 0, oI a1, oI v3] [] s2 else evT f 70 13 [oR 100 0, oI a1, oI v3] [] s2) (fun _ => rfl) (rg_if h (fun h => ?_) fun h => ?_)
  · exact rg_end 2 (fun _ => rfl) (by cases h; rfl)
  · refine rg_step 5 (G' := fun f => if v3 = (cI (-110)) then evT f 70 29 [oR 100 0, oI a1, oI v3] [vR 30 0] s2 else evT f 70 23 [oR 100 0, oI a1, oI v3] [vR 30 0] s2) (fun _ => rfl) (rg_if h (fun h => ?_) fun h => ?_)
    · exact (t_fItems_goalPlaceOf_b29) h
    · refine rg_step 3 (G' := fun f => if v3 = (cI (-111)) then evT f 70 29 [oR 100 0, oI a1, oI v3] [vR 30 0] s2 else evT f 70 39 [oR 100 0, oI a1, oI v3] [vR 30 0] s2) (fun _ => rfl) (rg_if h (fun h => ?_) fun h => ?_)
      · exact (t_fItems_goalPlaceOf_b29) h
      · exact rg_step 1 (G' := fun f => evT f 70 40 [oR 100 0, oI a1, oI v3] [vI v3, vR 30 0] s2) (fun _ => rfl) ((t_fItems_goalPlaceOf_b40) h)
theorem T_fLines_hasBag {s : ev_M} {a1 : Int32} {q : Int32} (h : fLines_hasBag s a1 = some q) : RR 87 0 [oR 449 0, oI a1] [] s (cvP s q) := by
  refine rg_step 7 (G' := fun f => ev_after (evT f 308 0 [oI a1, oI (cI 0), oI ((s.1 449 6) - (cI 1))] [] s) (fun q => evT f 87 11 [oR 449 0, oI a1] (q.2 ++ []) q.1)) (fun _ => rfl) (rg_bd1 h fun v1 hc h => rg_call (q := cvP s v1) (T_fPH_outside hc) ?_)
  refine rg_step 1 (G' := fun f => if v1 = 0 then evT f 87 14 [oR 449 0, oI a1] [] s else evT f 87 18 [oR 449 0, oI a1] [] s) (fun _ => rfl) (rg_if h (fun h => ?_) fun h => ?_)
  · exact rg_end 3 (fun _ => rfl) (by cases h; rfl)
  · exact rg_end 2 (fun _ => rfl) (by cases h; rfl)
theorem t_fLines_fillBag_b62 {s : ev_M} {x1 : Int32} {x2 : Int32} {y0 : Int32} {j3 : Option ev_V} {q : ev_M × Int32} (h : fLines_fillBag_b62 s x1 x2 y0 = some q) : RR 93 62 [oR 449 0, oI x1, oI x2, j3] [vI y0] s (cvI q) := by
  refine rg_step 7 (G' := fun f => if inb x1 80 = true then evT f 93 71 [oR 449 0, oI x1, oI x2, oI y0] [vI (s.1 (459 + (ix (cI 0))) (ix x1))] s else none) (fun _ => rfl) (rg_gd h fun h => ?_)
  refine rg_step 1 (G' := fun f => if (s.1 (459 + (ix (cI 0))) (ix x1)) = 0 then evT f 93 74 [oR 449 0, oI x1, oI x2, oI y0] [] s else evT f 93 97 [oR 449 0, oI x1, oI x2, oI y0] [] s) (fun _ => rfl) (rg_if h (fun h => ?_) fun h => ?_)
  · refine rg_step 2 (G' := fun f => if y0 = 0 then evT f 93 97 [oR 449 0, oI x1, oI x2, oI y0] [] s else evT f 93 78 [oR 449 0, oI x1, oI x2, oI y0] [] s) (fun _ => rfl) (rg_if h (fun h => ?_) fun h => ?_)
    · exact rg_end 2 (fun _ => rfl) (by cases h; rfl)
    · refine rg_step 4 (G' := fun f => ev_after (evT f 70 0 [oR 100 0, oI x2, nn] [] s) (fun q => evT f 93 86 [oR 449 0, oI x1, oI x2, oI y0] (q.2 ++ []) q.1)) (fun _ => rfl) (rg_bd2 h fun s1 v2 hc h => rg_call (q := cvI (s1, v2)) (T_fItems_goalPlaceOf hc) ?_)
      refine rg_step 6 (G' := fun f => if inb x1 80 = true then evT f 93 94 [oR 449 0, oI x1, oI x2, oI y0] [vI (s1.1 (459 + (ix (cI 2))) (ix x1)), vI v2] s1 else none) (fun _ => rfl) (rg_gd h fun h => ?_)
      refine rg_step 1 (G' := fun f => if v2 = (s1.1 (459 + (ix (cI 2))) (ix x1)) then evT f 93 100 [oR 449 0, oI x1, oI x2, oI y0] [] s1 else evT f 93 97 [oR 449 0, oI x1, oI x2, oI y0] [] s1) (fun _ => rfl) (rg_if h (fun h => ?_) fun h => ?_)
      · refine rg_step 6 (G' := fun f => if inb x1 80 = true then evT f 93 108 [oR 449 0, oI x1, oI x2, oI y0] [vI (s1.1 (459 + (ix (cI 3))) (ix x1))] s1 else none) (fun _ => rfl) (rg_gd h fun h => ?_)
        refine rg_step 2 (G' := fun f => if (s1.1 (459 + (ix (cI 3))) (ix x1)) < (cI 40) then evT f 93 113 [oR 449 0, oI x1, oI x2, oI y0] [] s1 else evT f 93 123 [oR 449 0, oI x1, oI x2, oI y0] [] s1) (fun _ => rfl) (rg_if h (fun h => ?_) fun h => ?_)
        · refine rg_step 3 (G' := fun f => ev_after (evT f 123 0 [oR 9 0, nn] [] s1) (fun q => evT f 93 120 [oR 449 0, oI x1, oI x2, oI y0] (q.2 ++ []) q.1)) (fun _ => rfl) (rg_bd2 h fun s3 v4 hc h => rg_call (q := cvI (s3, v4)) (T_fLog_admits hc) ?_)
          refine rg_step 1 (G' := fun f => if v4 = 0 then evT f 93 123 [oR 449 0, oI x1, oI x2, oI y0] [] s3 else evT f 93 126 [oR 449 0, oI x1, oI x2, oI y0] [] s3) (fun _ => rfl) (rg_if h (fun h => ?_) fun h => ?_)
          · exact rg_end 2 (fun _ => rfl) (by cases h; rfl)
          · refine rg_step 4 (G' := fun f => if inb x1 80 = true then evT f 93 132 [oR 449 0, oI x1, oI x2, oI y0] [vR 466 (ix x1)] s3 else none) (fun _ => rfl) (rg_gd h fun h => ?_)
            refine rg_step 7 (G' := fun f => if inb x1 80 = true then evT f 93 141 [oR 449 0, oI x1, oI x2, oI y0] [vI (s3.1 (459 + (ix (cI 3))) (ix x1)), vI x1, vR 459 (ix (cI 3)), vR 466 (ix x1)] s3 else none) (fun _ => rfl) (rg_gd h fun h => ?_)
            refine rg_step 4 (G' := fun f => if inb x1 80 = true then evT f 93 145 [oR 449 0, oI x1, oI x2, oI y0] [vI (s3.1 (459 + (ix (cI 3))) (ix x1)), vR 466 (ix x1)] (wI s3 (459 + (ix (cI 3))) (ix x1) ((s3.1 (459 + (ix (cI 3))) (ix x1)) + (cI 1))) else none) (fun _ => rfl) (rg_gd h fun h => rg_ltM h fun s5 h => ?_)
            refine rg_step 2 (G' := fun f => if inb (s3.1 (459 + (ix (cI 3))) (ix x1)) 40 = true then evT f 93 147 [oR 449 0, oI x1, oI x2, oI y0] [] (wI s5 (466 + (ix x1)) (ix (s3.1 (459 + (ix (cI 3))) (ix x1))) x2) else none) (fun _ => rfl) (rg_gd h fun h => rg_ltM h fun s6 h => ?_)
            refine rg_step 5 (G' := fun f => ev_after (evT f 55 0 [oR 100 0, oI x2, oI (cI 2)] [] s6) (fun q => evT f 93 156 [oR 449 0, oI x1, oI x2, oI y0] (q.2 ++ []) q.1)) (fun _ => rfl) (rg_bd1 h fun s7 hc h => rg_call (q := cvV s7) (T_fItems_come hc) ?_)
            refine rg_step 8 (G' := fun f => if inb x2 300 = true then evT f 93 169 [oR 449 0, oI x1, oI x2, oI y0] [] (wI s7 (102 + (ix (cI 9))) (ix x2) x1) else none) (fun _ => rfl) (rg_gd h fun h => rg_ltM h fun s8 h => ?_)
            refine rg_step 6 (G' := fun f => if inb x1 80 = true then evT f 93 177 [oR 449 0, oI x1, oI x2, oI y0] [vI (s8.1 (459 + (ix (cI 3))) (ix x1))] s8 else none) (fun _ => rfl) (rg_gd h fun h => ?_)
            exact rg_end 1 (fun _ => rfl) (by cases h; rfl)
        · exact rg_end 2 (fun _ => rfl) (by cases h; rfl)
      · exact rg_end 2 (fun _ => rfl) (by cases h; rfl)
  · exact rg_end 2 (fun _ => rfl) (by cases h; rfl)
theorem t_fLines_fillBag_b61 {s : ev_M} {x1 : Int32} {x2 : Int32} {j3 : Option ev_V} {q : ev_M × Int32} (h : fLines_fillBag_b61 s x1 x2 = some q) : RR 93 61 [oR 449 0, oI x1, oI x2, j3] [] s (cvI q) := by
  exact rg_step 1 (G' := fun f => evT f 93 62 [oR 449 0, oI x1, oI x2, nn] [vI (cI 0)] s) (fun _ => rfl) ((t_fLines_fillBag_b62) h)
theorem T_fLines_fillBag {s : ev_M} {a1 : Int32} {a2 : Int32} {q : ev_M × Int32} (h : fLines_fillBag s a1 a2 = some q) : RR 93 0 [oR 449 0, oI a1, oI a2, nn] [] s (cvI q) := by
  refine rg_step 3 (G' := fun f => ev_after (evT f 87 0 [oR 449 0, oI a1] [] s) (fun q => evT f 93 5 [oR 449 0, oI a1, oI a2, nn] (q.2 ++ []) q.1)) (fun _ => rfl) (rg_bd1 h fun v9 hc h => rg_call (q := cvP s v9) (T_fLines_hasBag hc) ?_)
  refine rg_step 1 (G' := fun f => if v9 = 0 then evT f 93 19 [oR 449 0, oI a1, oI a2, nn] [] s else evT f 93 8 [oR 449 0, oI a1, oI a2, nn] [] s) (fun _ => rfl) (rg_if h (fun h => ?_) fun h => ?_)
  · exact rg_end 2 (fun _ => rfl) (by cases h; rfl)
  · refine rg_step 4 (G' := fun f => ev_after (evT f 51 0 [oR 100 0, oI a2] [] s) (fun q => evT f 93 16 [oR 449 0, oI a1, oI a2, nn] (q.2 ++ []) q.1)) (fun _ => rfl) (rg_bd1 h fun v10 hc h => rg_call (q := cvP s v10) (T_fItems_has hc) ?_)
    refine rg_step 1 (G' := fun f => if v10 = 0 then evT f 93 19 [oR 449 0, oI a1, oI a2, nn] [] s else evT f 93 22 [oR 449 0, oI a1, oI a2, nn] [] s) (fun _ => rfl) (rg_if h (fun h => ?_) fun h => ?_)
    · exact rg_end 2 (fun _ => rfl) (by cases h; rfl)
    · refine rg_step 5 (G' := fun f => ev_after (evT f 52 0 [oR 100 0, oI a2, oI (cI 1)] [] s) (fun q => evT f 93 31 [oR 449 0, oI a1, oI a2, nn] (q.2 ++ []) q.1)) (fun _ => rfl) (rg_bd1 h fun v11 hc h => rg_call (q := cvP s v11) (T_fItems_is hc) ?_)
      refine rg_step 1 (G' := fun f => if v11 = 0 then evT f 93 61 [oR 449 0, oI a1, oI a2, nn] [] s else evT f 93 34 [oR 449 0, oI a1, oI a2, nn] [] s) (fun _ => rfl) (rg_if h (fun h => ?_) fun h => ?_)
      · exact (t_fLines_fillBag_b61) h
      · refine rg_step 7 (G' := fun f => if inb a2 300 = true then evT f 93 46 [oR 449 0, oI a1, oI a2, nn] [vI (s.1 (102 + (ix (cI 8))) (ix a2))] s else none) (fun _ => rfl) (rg_gd h fun h => ?_)
        refine rg_step 6 (G' := fun f => if inb a1 80 = true then evT f 93 54 [oR 449 0, oI a1, oI a2, nn] [vI (s.1 (459 + (ix (cI 1))) (ix a1)), vI (s.1 (102 + (ix (cI 8))) (ix a2))] s else none) (fun _ => rfl) (rg_gd h fun h => ?_)
        refine rg_step 1 (G' := fun f => if (s.1 (102 + (ix (cI 8))) (ix a2)) = (s.1 (459 + (ix (cI 1))) (ix a1)) then evT f 93 57 [oR 449 0, oI a1, oI a2, nn] [] s else evT f 93 61 [oR 449 0, oI a1, oI a2, nn] [] s) (fun _ => rfl) (rg_if h (fun h => ?_) fun h => ?_)
        · exact rg_step 2 (G' := fun f => evT f 93 62 [oR 449 0, oI a1, oI a2, nn] [vI (cI 1)] s) (fun _ => rfl) ((t_fLines_fillBag_b62) h)
        · exact (t_fLines_fillBag_b61) h
theorem T_fLines_shutBag {s : ev_M} {a1 : Int32} {q : ev_M × Int32} (h : fLines_shutBag s a1 = some q) : RR 94 0 [oR 449 0, oI a1] [] s (cvI q) := by
  refine rg_step 3 (G' := fun f => ev_after (evT f 87 0 [oR 449 0, oI a1] [] s) (fun q => evT f 94 5 [oR 449 0, oI a1] (q.2 ++ []) q.1)) (fun _ => rfl) (rg_bd1 h fun v1 hc h => rg_call (q := cvP s v1) (T_fLines_hasBag hc) ?_)
  refine rg_step 1 (G' := fun f => if v1 = 0 then evT f 94 8 [oR 449 0, oI a1] [] s else evT f 94 11 [oR 449 0, oI a1] [] s) (fun _ => rfl) (rg_if h (fun h => ?_) fun h => ?_)
  · exact rg_end 2 (fun _ => rfl) (by cases h; rfl)
  · refine rg_step 6 (G' := fun f => if inb a1 80 = true then evT f 94 19 [oR 449 0, oI a1] [vI (s.1 (459 + (ix (cI 0))) (ix a1))] s else none) (fun _ => rfl) (rg_gd h fun h => ?_)
    refine rg_step 1 (G' := fun f => if (s.1 (459 + (ix (cI 0))) (ix a1)) = 0 then evT f 94 25 [oR 449 0, oI a1] [] s else evT f 94 22 [oR 449 0, oI a1] [] s) (fun _ => rfl) (rg_if h (fun h => ?_) fun h => ?_)
    · refine rg_step 3 (G' := fun f => ev_after (evT f 123 0 [oR 9 0, nn] [] s) (fun q => evT f 94 32 [oR 449 0, oI a1] (q.2 ++ []) q.1)) (fun _ => rfl) (rg_bd2 h fun s2 v3 hc h => rg_call (q := cvI (s2, v3)) (T_fLog_admits hc) ?_)
      refine rg_step 1 (G' := fun f => if v3 = 0 then evT f 94 35 [oR 449 0, oI a1] [] s2 else evT f 94 38 [oR 449 0, oI a1] [] s2) (fun _ => rfl) (rg_if h (fun h => ?_) fun h => ?_)
      · exact rg_end 2 (fun _ => rfl) (by cases h; rfl)
      · refine rg_step 7 (G' := fun f => if inb a1 80 = true then evT f 94 47 [oR 449 0, oI a1] [] (wI s2 (459 + (ix (cI 0))) (ix a1) (cI 1)) else none) (fun _ => rfl) (rg_gd h fun h => rg_ltM h fun s4 h => ?_)
        refine rg_step 6 (G' := fun f => if inb a1 80 = true then evT f 94 55 [oR 449 0, oI a1] [vI (s4.1 (459 + (ix (cI 3))) (ix a1))] s4 else none) (fun _ => rfl) (rg_gd h fun h => ?_)
        exact rg_end 1 (fun _ => rfl) (by cases h; rfl)
    · exact rg_end 2 (fun _ => rfl) (by cases h; rfl)
theorem ti_fLines_emptyBag_h69 : ∀ (n : Nat) (s : ev_M) (x1 : Int32) (x2 : Int32) (x3 : Int32) (q : ev_M × Int32), fLines_emptyBag_h69 n s x1 x2 x3 = some q → RR 95 69 [oR 449 0, oI x1, oI x2, oI x3] [] s (cvI q) := by
  intro n
  induction n with
  | zero => intro s x1 x2 x3 q h; cases h
  | succ n ih =>
    have hk69 : ∀ {s : ev_M} {x1 : Int32} {x2 : Int32} {x3 : Int32} {q : ev_M × Int32}, fLines_emptyBag_h69 n s x1 x2 x3 = some q → RR 95 69 [oR 449 0, oI x1, oI x2, oI x3] [] s (cvI q) := fun h => ih _ _ _ _ _ h
    intro s x1 x2 x3 q h
    refine rg_step 3 (G' := fun f => if x3 < x2 then evT f 95 74 [oR 449 0, oI x1, oI x2, oI x3] [] s else evT f 95 103 [oR 449 0, oI x1, oI x2, oI x3] [] s) (fun _ => rfl) (rg_if h (fun h => ?_) fun h => ?_)
    · refine rg_step 6 (G' := fun f => if inb x1 80 = true then evT f 95 84 [oR 449 0, oI x1, oI x2, oI x3] [vR 466 (ix x1), vR 100 0] s else none) (fun _ => rfl) (rg_gd h fun h => ?_)
      refine rg_step 2 (G' := fun f => if inb x3 40 = true then evT f 95 86 [oR 449 0, oI x1, oI x2, oI x3] [vI (s.1 (466 + (ix x1)) (ix x3)), vR 100 0] s else none) (fun _ => rfl) (rg_gd h fun h => ?_)
      refine rg_step 6 (G' := fun f => if inb x1 80 = true then evT f 95 94 [oR 449 0, oI x1, oI x2, oI x3] [vI (s.1 (459 + (ix (cI 2))) (ix x1)), vI (s.1 (466 + (ix x1)) (ix x3)), vR 100 0] s else none) (fun _ => rfl) (rg_gd h fun h => ?_)
      refine rg_step 1 (G' := fun f => ev_after (evT f 56 0 [oR 100 0, oI (s.1 (466 + (ix x1)) (ix x3)), oI (s.1 (459 + (ix (cI 2))) (ix x1))] [] s) (fun q => evT f 95 97 [oR 449 0, oI x1, oI x2, oI x3] (q.2 ++ []) q.1)) (fun _ => rfl) (rg_bd1 h fun s1 hc h => rg_call (q := cvV s1) (T_fItems_comeInAt hc) ?_)
      exact rg_step 2 (G' := fun f => evT f 95 69 [oR 449 0, oI x1, oI x2, oI (x3 + cI 1)] [] s1) (fun _ => rfl) (hk69 h)
    · refine rg_step 7 (G' := fun f => if inb x1 80 = true then evT f 95 112 [oR 449 0, oI x1, oI x2, oI x3] [] (wI s (459 + (ix (cI 3))) (ix x1) (cI 0)) else none) (fun _ => rfl) (rg_gd h fun h => rg_ltM h fun s2 h => ?_)
      refine rg_step 7 (G' := fun f => if inb x1 80 = true then evT f 95 121 [oR 449 0, oI x1, oI x2, oI x3] [] (wI s2 (459 + (ix (cI 0))) (ix x1) (cI 3)) else none) (fun _ => rfl) (rg_gd h fun h => rg_ltM h fun s3 h => ?_)
      exact rg_end 2 (fun _ => rfl) (by cases h; rfl)
theorem t_fLines_emptyBag_h69 {n : Nat} {s : ev_M} {x1 : Int32} {x2 : Int32} {x3 : Int32} {q : ev_M × Int32} (h : fLines_emptyBag_h69 n s x1 x2 x3 = some q) : RR 95 69 [oR 449 0, oI x1, oI x2, oI x3] [] s (cvI q) := ti_fLines_emptyBag_h69 n s x1 x2 x3 q h
theorem T_fLines_emptyBag {s : ev_M} {a1 : Int32} {q : ev_M × Int32} (h : fLines_emptyBag s a1 = some q) : RR 95 0 [oR 449 0, oI a1, nn, nn] [] s (cvI q) := by
  refine rg_step 3 (G' := fun f => ev_after (evT f 87 0 [oR 449 0, oI a1] [] s) (fun q => evT f 95 5 [oR 449 0, oI a1, nn, nn] (q.2 ++ []) q.1)) (fun _ => rfl) (rg_bd1 h fun v4 hc h => rg_call (q := cvP s v4) (T_fLines_hasBag hc) ?_)
  refine rg_step 1 (G' := fun f => if v4 = 0 then evT f 95 8 [oR 449 0, oI a1, nn, nn] [] s else evT f 95 11 [oR 449 0, oI a1, nn, nn] [] s) (fun _ => rfl) (rg_if h (fun h => ?_) fun h => ?_)
  · exact rg_end 2 (fun _ => rfl) (by cases h; rfl)
  · refine rg_step 6 (G' := fun f => if inb a1 80 = true then evT f 95 19 [oR 449 0, oI a1, nn, nn] [vI (s.1 (459 + (ix (cI 0))) (ix a1))] s else none) (fun _ => rfl) (rg_gd h fun h => ?_)
    refine rg_step 2 (G' := fun f => if (s.1 (459 + (ix (cI 0))) (ix a1)) = (cI 1) then evT f 95 23 [oR 449 0, oI a1, nn, nn] [] s else evT f 95 42 [oR 449 0, oI a1, nn, nn] [] s) (fun _ => rfl) (rg_if h (fun h => ?_) fun h => ?_)
    · refine rg_step 6 (G' := fun f => if inb a1 80 = true then evT f 95 31 [oR 449 0, oI a1, nn, nn] [vI (s.1 (459 + (ix (cI 1))) (ix a1))] s else none) (fun _ => rfl) (rg_gd h fun h => ?_)
      refine rg_step 6 (G' := fun f => if inb a1 80 = true then evT f 95 39 [oR 449 0, oI a1, nn, nn] [vI (s.1 (459 + (ix (cI 2))) (ix a1)), vI (s.1 (459 + (ix (cI 1))) (ix a1))] s else none) (fun _ => rfl) (rg_gd h fun h => ?_)
      refine rg_step 1 (G' := fun f => if (s.1 (459 + (ix (cI 1))) (ix a1)) = (s.1 (459 + (ix (cI 2))) (ix a1)) then evT f 95 45 [oR 449 0, oI a1, nn, nn] [] s else evT f 95 42 [oR 449 0, oI a1, nn, nn] [] s) (fun _ => rfl) (rg_if h (fun h => ?_) fun h => ?_)
      · refine rg_step 3 (G' := fun f => ev_after (evT f 123 0 [oR 9 0, nn] [] s) (fun q => evT f 95 52 [oR 449 0, oI a1, nn, nn] (q.2 ++ []) q.1)) (fun _ => rfl) (rg_bd2 h fun s5 v6 hc h => rg_call (q := cvI (s5, v6)) (T_fLog_admits hc) ?_)
        refine rg_step 1 (G' := fun f => if v6 = 0 then evT f 95 55 [oR 449 0, oI a1, nn, nn] [] s5 else evT f 95 58 [oR 449 0, oI a1, nn, nn] [] s5) (fun _ => rfl) (rg_if h (fun h => ?_) fun h => ?_)
        · exact rg_end 2 (fun _ => rfl) (by cases h; rfl)
        · refine rg_step 6 (G' := fun f => if inb a1 80 = true then evT f 95 66 [oR 449 0, oI a1, nn, nn] [vI (s5.1 (459 + (ix (cI 3))) (ix a1))] s5 else none) (fun _ => rfl) (rg_gd h fun h => ?_)
          refine rg_step 1 (G' := fun f => evT f 95 67 [oR 449 0, oI a1, oI (s5.1 (459 + (ix (cI 3))) (ix a1)), nn] [] s5) (fun _ => rfl) (rg_ltI (P := fun v7 => RG (fun f => evT f 95 67 [oR 449 0, oI a1, oI v7, nn] [] s5) (cvI q)) h fun v7 h => ?_)
          exact rg_step 2 (G' := fun f => evT f 95 69 [oR 449 0, oI a1, oI v7, oI (cI 0)] [] s5) (fun _ => rfl) ((t_fLines_emptyBag_h69) h)
      · exact rg_end 2 (fun _ => rfl) (by cases h; rfl)
    · exact rg_end 2 (fun _ => rfl) (by cases h; rfl)
theorem T_fMoney_transfer {s : ev_M} {a1 : Int32} {a2 : Int32} {a3 : Int32} {a4 : Int32} {q : ev_M} (h : fMoney_transfer s a1 a2 a3 a4 = some q) : RR 153 0 [oR 78 0, oI a1, oI a2, oI a3, oI a4] [] s (cvV q) := by
  refine rg_step 2 (G' := fun f => if a3 = 0 then evT f 153 14 [oR 78 0, oI a1, oI a2, oI a3, oI a4] [] s else evT f 153 4 [oR 78 0, oI a1, oI a2, oI a3, oI a4] [] s) (fun _ => rfl) (rg_if h (fun h => ?_) fun h => ?_)
  · exact rg_end 1 (fun _ => rfl) (by cases h; rfl)
  · refine rg_step 4 (G' := fun f => if (s.1 78 6) < (cI 2000) then evT f 153 15 [oR 78 0, oI a1, oI a2, oI a3, oI a4] [] s else evT f 153 14 [oR 78 0, oI a1, oI a2, oI a3, oI a4] [] s) (fun _ => rfl) (rg_if h (fun h => ?_) fun h => ?_)
    · refine rg_step 5 (G' := fun f => if inb a1 34 = true then evT f 153 22 [oR 78 0, oI a1, oI a2, oI a3, oI a4] [vL (s.2.1 80 (ix a1)), vI a1, vR 80 0] s else none) (fun _ => rfl) (rg_gd h fun h => ?_)
      refine rg_step 4 (G' := fun f => if inb a1 34 = true then evT f 153 26 [oR 78 0, oI a1, oI a2, oI a3, oI a4] [] (wL s 80 (ix a1) ((s.2.1 80 (ix a1)) - (Int32.toInt64 a3))) else none) (fun _ => rfl) (rg_gd h fun h => rg_ltM h fun s1 h => ?_)
      refine rg_step 5 (G' := fun f => if inb a2 34 = true then evT f 153 33 [oR 78 0, oI a1, oI a2, oI a3, oI a4] [vL (s1.2.1 80 (ix a2)), vI a2, vR 80 0] s1 else none) (fun _ => rfl) (rg_gd h fun h => ?_)
      refine rg_step 4 (G' := fun f => if inb a2 34 = true then evT f 153 37 [oR 78 0, oI a1, oI a2, oI a3, oI a4] [] (wL s1 80 (ix a2) ((s1.2.1 80 (ix a2)) + (Int32.toInt64 a3))) else none) (fun _ => rfl) (rg_gd h fun h => rg_ltM h fun s2 h => ?_)
      refine rg_step 8 (G' := fun f => if inb (s2.1 78 6) 2000 = true then evT f 153 49 [oR 78 0, oI a1, oI a2, oI a3, oI a4] [] (wI s2 (82 + (ix (cI 0))) (ix (s2.1 78 6)) a1) else none) (fun _ => rfl) (rg_gd h fun h => rg_ltM h fun s3 h => ?_)
      refine rg_step 8 (G' := fun f => if inb (s3.1 78 6) 2000 = true then evT f 153 61 [oR 78 0, oI a1, oI a2, oI a3, oI a4] [] (wI s3 (82 + (ix (cI 1))) (ix (s3.1 78 6)) a2) else none) (fun _ => rfl) (rg_gd h fun h => rg_ltM h fun s4 h => ?_)
      refine rg_step 8 (G' := fun f => if inb (s4.1 78 6) 2000 = true then evT f 153 73 [oR 78 0, oI a1, oI a2, oI a3, oI a4] [] (wI s4 (82 + (ix (cI 2))) (ix (s4.1 78 6)) a3) else none) (fun _ => rfl) (rg_gd h fun h => rg_ltM h fun s5 h => ?_)
      refine rg_step 11 (G' := fun f => evT f 153 90 [oR 78 0, oI a1, oI a2, oI a3, oI a4] [vI (s5.1 78 6), vR 82 (ix (cI 3))] (wI s5 78 6 ((s5.1 78 6) + (cI 1)))) (fun _ => rfl) (rg_ltM h fun s6 h => ?_)
      refine rg_step 2 (G' := fun f => if inb (s5.1 78 6) 2000 = true then evT f 153 93 [oR 78 0, oI a1, oI a2, oI a3, oI a4] [] (wI s6 (82 + (ix (cI 3))) (ix (s5.1 78 6)) a4) else none) (fun _ => rfl) (rg_gd h fun h => rg_ltM h fun s7 h => ?_)
      exact rg_end 1 (fun _ => rfl) (by cases h; rfl)
    · exact rg_end 1 (fun _ => rfl) (by cases h; rfl)
theorem T_fMoney_hasRoomFor {s : ev_M} {a1 : Int32} {q : Int32} (h : fMoney_hasRoomFor s a1 = some q) : RR 152 0 [oR 78 0, oI a1] [] s (cvP s q) := by
  refine rg_step 9 (G' := fun f => if (((s.1 78 6) + a1) + (s.1 78 9)) ≤ (cI 2000) then evT f 152 17 [oR 78 0, oI a1] [] s else evT f 152 21 [oR 78 0, oI a1] [] s) (fun _ => rfl) (rg_if h (fun h => ?_) fun h => ?_)
  · exact rg_end 3 (fun _ => rfl) (by cases h; rfl)
  · exact rg_end 2 (fun _ => rfl) (by cases h; rfl)
theorem t_fMoney_priceFor_b105 {s : ev_M} {k9 : Int32 → Int32 → Int32 → Int32 → Int32 → Int32 → Option Int32} (hk9 : ∀ {x1 : Int32} {x2 : Int32} {x3 : Int32} {x4 : Int32} {x5 : Int32} {x6 : Int32} {q : Int32}, k9 x1 x2 x3 x4 x5 x6 = some q → RR 159 9 [oR 78 0, oI x1, oI x2, oI x3, oI x4, oI x5, oI x6] [] s (cvP s q)) {x1 : Int32} {x2 : Int32} {x3 : Int32} {x4 : Int32} {x5 : Int32} {x6 : Int32} {q : Int32} (h : fMoney_priceFor_b105 s k9 x1 x2 x3 x4 x5 x6 = some q) : RR 159 105 [oR 78 0, oI x1, oI x2, oI x3, oI x4, oI x5, oI x6] [] s (cvP s q) := by
  exact rg_step 2 (G' := fun f => evT f 159 9 [oR 78 0, oI x1, oI x2, oI x3, oI x4, oI x5, oI (x6 + cI 1)] [] s) (fun _ => rfl) (hk9 h)
theorem ti_fMoney_priceFor_h9 {s : ev_M} : ∀ (n : Nat) (x1 : Int32) (x2 : Int32) (x3 : Int32) (x4 : Int32) (x5 : Int32) (x6 : Int32) (q : Int32), fMoney_priceFor_h9 s n x1 x2 x3 x4 x5 x6 = some q → RR 159 9 [oR 78 0, oI x1, oI x2, oI x3, oI x4, oI x5, oI x6] [] s (cvP s q) := by
  intro n
  induction n with
  | zero => intro x1 x2 x3 x4 x5 x6 q h; cases h
  | succ n ih =>
    have hk9 : ∀ {x1 : Int32} {x2 : Int32} {x3 : Int32} {x4 : Int32} {x5 : Int32} {x6 : Int32} {q : Int32}, fMoney_priceFor_h9 s n x1 x2 x3 x4 x5 x6 = some q → RR 159 9 [oR 78 0, oI x1, oI x2, oI x3, oI x4, oI x5, oI x6] [] s (cvP s q) := fun h => ih _ _ _ _ _ _ _ h
    intro x1 x2 x3 x4 x5 x6 q h
    refine rg_step 4 (G' := fun f => if x6 < (s.1 78 11) then evT f 159 18 [oR 78 0, oI x1, oI x2, oI x3, oI x4, oI x5, oI x6] [] s else evT f 159 111 [oR 78 0, oI x1, oI x2, oI x3, oI x4, oI x5, oI x6] [] s) (fun _ => rfl) (rg_if h (fun h => ?_) fun h => ?_)
    · refine rg_step 6 (G' := fun f => if inb x6 40 = true then evT f 159 27 [oR 78 0, oI x1, oI x2, oI x3, oI x4, oI x5, oI x6] [vI (s.1 (93 + (ix (cI 0))) (ix x6))] s else none) (fun _ => rfl) (rg_gd h fun h => ?_)
      refine rg_step 2 (G' := fun f => if (s.1 (93 + (ix (cI 0))) (ix x6)) = (cI (-1)) then evT f 159 31 [oR 78 0, oI x1, oI x2, oI x3, oI x4, oI x5, oI x6] [] s else evT f 159 62 [oR 78 0, oI x1, oI x2, oI x3, oI x4, oI x5, oI x6] [] s) (fun _ => rfl) (rg_if h (fun h => ?_) fun h => ?_)
      · refine rg_step 6 (G' := fun f => if inb x6 40 = true then evT f 159 40 [oR 78 0, oI x1, oI x2, oI x3, oI x4, oI x5, oI x6] [vI (s.1 (93 + (ix (cI 1))) (ix x6))] s else none) (fun _ => rfl) (rg_gd h fun h => ?_)
        refine rg_step 3 (G' := fun f => if ((s.1 (93 + (ix (cI 1))) (ix x6)) &&& x3) = 0 then evT f 159 105 [oR 78 0, oI x1, oI x2, oI x3, oI x4, oI x5, oI x6] [] s else evT f 159 45 [oR 78 0, oI x1, oI x2, oI x3, oI x4, oI x5, oI x6] [] s) (fun _ => rfl) (rg_if h (fun h => ?_) fun h => ?_)
        · exact (t_fMoney_priceFor_b105 hk9) h
        · refine rg_step 7 (G' := fun f => if inb x6 40 = true then evT f 159 56 [oR 78 0, oI x1, oI x2, oI x3, oI x4, oI x5, oI x6] [vI (s.1 (93 + (ix (cI 2))) (ix x6)), vI x5] s else none) (fun _ => rfl) (rg_gd h fun h => ?_)
          refine rg_step 2 (G' := fun f => evT f 159 59 [oR 78 0, oI x1, oI x2, oI x3, oI x4, oI (x5 + (s.1 (93 + (ix (cI 2))) (ix x6))), oI x6] [] s) (fun _ => rfl) (rg_ltI (P := fun v1 => RG (fun f => evT f 159 59 [oR 78 0, oI x1, oI x2, oI x3, oI x4, oI v1, oI x6] [] s) (cvP s q)) h fun v1 h => ?_)
          exact rg_step 1 (G' := fun f => evT f 159 105 [oR 78 0, oI x1, oI x2, oI x3, oI x4, oI v1, oI x6] [] s) (fun _ => rfl) ((t_fMoney_priceFor_b105 hk9) h)
      · refine rg_step 6 (G' := fun f => if inb x6 40 = true then evT f 159 71 [oR 78 0, oI x1, oI x2, oI x3, oI x4, oI x5, oI x6] [vI (s.1 (93 + (ix (cI 0))) (ix x6))] s else none) (fun _ => rfl) (rg_gd h fun h => ?_)
        refine rg_step 2 (G' := fun f => if (s.1 (93 + (ix (cI 0))) (ix x6)) = x1 then evT f 159 75 [oR 78 0, oI x1, oI x2, oI x3, oI x4, oI x5, oI x6] [] s else evT f 159 105 [oR 78 0, oI x1, oI x2, oI x3, oI x4, oI x5, oI x6] [] s) (fun _ => rfl) (rg_if h (fun h => ?_) fun h => ?_)
        · refine rg_step 3 (G' := fun f => if x4 = (cI (-1)) then evT f 159 81 [oR 78 0, oI x1, oI x2, oI x3, oI x4, oI x5, oI x6] [] s else evT f 159 105 [oR 78 0, oI x1, oI x2, oI x3, oI x4, oI x5, oI x6] [] s) (fun _ => rfl) (rg_if h (fun h => ?_) fun h => ?_)
          · refine rg_step 7 (G' := fun f => if inb x6 40 = true then evT f 159 91 [oR 78 0, oI x1, oI x2, oI x3, oI x4, oI x5, oI x6] [vI (s.1 (93 + (ix (cI 1))) (ix x6)), vI x2] s else none) (fun _ => rfl) (rg_gd h fun h => ?_)
            refine rg_step 1 (G' := fun f => if x2 ≤ (s.1 (93 + (ix (cI 1))) (ix x6)) then evT f 159 94 [oR 78 0, oI x1, oI x2, oI x3, oI x4, oI x5, oI x6] [] s else evT f 159 105 [oR 78 0, oI x1, oI x2, oI x3, oI x4, oI x5, oI x6] [] s) (fun _ => rfl) (rg_if h (fun h => ?_) fun h => ?_)
            · refine rg_step 6 (G' := fun f => if inb x6 40 = true then evT f 159 103 [oR 78 0, oI x1, oI x2, oI x3, oI x4, oI x5, oI x6] [vI (s.1 (93 + (ix (cI 2))) (ix x6))] s else none) (fun _ => rfl) (rg_gd h fun h => ?_)
              refine rg_step 1 (G' := fun f => evT f 159 105 [oR 78 0, oI x1, oI x2, oI x3, oI (s.1 (93 + (ix (cI 2))) (ix x6)), oI x5, oI x6] [] s) (fun _ => rfl) (rg_ltI (P := fun v2 => RG (fun f => evT f 159 105 [oR 78 0, oI x1, oI x2, oI x3, oI v2, oI x5, oI x6] [] s) (cvP s q)) h fun v2 h => ?_)
              exact (t_fMoney_priceFor_b105 hk9) h
            · exact (t_fMoney_priceFor_b105 hk9) h
          · exact (t_fMoney_priceFor_b105 hk9) h
        · exact (t_fMoney_priceFor_b105 hk9) h
    · refine rg_step 3 (G' := fun f => if x4 = (cI (-1)) then evT f 159 117 [oR 78 0, oI x1, oI x2, oI x3, oI x4, oI x5, oI x6] [] s else evT f 159 121 [oR 78 0, oI x1, oI x2, oI x3, oI x4, oI x5, oI x6] [] s) (fun _ => rfl) (rg_if h (fun h => ?_) fun h => ?_)
      · exact rg_end 3 (fun _ => rfl) (by cases h; rfl)
      · exact rg_end 4 (fun _ => rfl) (by cases h; rfl)
theorem t_fMoney_priceFor_h9 {s : ev_M} {n : Nat} {x1 : Int32} {x2 : Int32} {x3 : Int32} {x4 : Int32} {x5 : Int32} {x6 : Int32} {q : Int32} (h : fMoney_priceFor_h9 s n x1 x2 x3 x4 x5 x6 = some q) : RR 159 9 [oR 78 0, oI x1, oI x2, oI x3, oI x4, oI x5, oI x6] [] s (cvP s q) := ti_fMoney_priceFor_h9 n x1 x2 x3 x4 x5 x6 q h
theorem T_fMoney_priceFor {s : ev_M} {a1 : Int32} {a2 : Int32} {a3 : Int32} {q : Int32} (h : fMoney_priceFor s a1 a2 a3 = some q) : RR 159 0 [oR 78 0, oI a1, oI a2, oI a3, nn, nn, nn] [] s (cvP s q) := by
  exact rg_step 6 (G' := fun f => evT f 159 9 [oR 78 0, oI a1, oI a2, oI a3, oI (cI (-1)), oI (cI 0), oI (cI 0)] [] s) (fun _ => rfl) ((t_fMoney_priceFor_h9) h)
theorem T_fItems_priceOf {s : ev_M} {a1 : Int32} {q : Int32} (h : fItems_priceOf s a1 = some q) : RR 71 0 [oR 100 0, oI a1] [] s (cvP s q) := by
  refine rg_step 8 (G' := fun f => if inb a1 300 = true then evT f 71 12 [oR 100 0, oI a1] [vI (s.1 (102 + (ix (cI 1))) (ix a1)), vR 78 0] s else none) (fun _ => rfl) (rg_gd h fun h => ?_)
  refine rg_step 6 (G' := fun f => if inb a1 300 = true then evT f 71 20 [oR 100 0, oI a1] [vI (s.1 (102 + (ix (cI 2))) (ix a1)), vI (s.1 (102 + (ix (cI 1))) (ix a1)), vR 78 0] s else none) (fun _ => rfl) (rg_gd h fun h => ?_)
  refine rg_step 6 (G' := fun f => if inb a1 300 = true then evT f 71 28 [oR 100 0, oI a1] [vI (s.1 (102 + (ix (cI 3))) (ix a1)), vI (s.1 (102 + (ix (cI 2))) (ix a1)), vI (s.1 (102 + (ix (cI 1))) (ix a1)), vR 78 0] s else none) (fun _ => rfl) (rg_gd h fun h => ?_)
  refine rg_step 1 (G' := fun f => ev_after (evT f 159 0 [oR 78 0, oI (s.1 (102 + (ix (cI 1))) (ix a1)), oI (s.1 (102 + (ix (cI 2))) (ix a1)), oI (s.1 (102 + (ix (cI 3))) (ix a1)), nn, nn, nn] [] s) (fun q => evT f 71 31 [oR 100 0, oI a1] (q.2 ++ []) q.1)) (fun _ => rfl) (rg_bd1 h fun v1 hc h => rg_call (q := cvP s v1) (T_fMoney_priceFor hc) ?_)
  exact rg_end 1 (fun _ => rfl) (by cases h; rfl)
theorem t_fItems_priceDue_b22 {s : ev_M} {y0 : Int32} {j0 : Option ev_V} {j1 : Option ev_V} {j2 : Option ev_V} {q : Int32} (h : fItems_priceDue_b22 s y0 = some q) : RR 72 22 [j0, j1, j2] [vI y0] s (cvP s q) := by
  refine rg_step 4 (G' := fun f => if y0 = (cI (-1)) then evT f 72 28 [nn, nn, oI y0] [] s else evT f 72 32 [nn, nn, oI y0] [] s) (fun _ => rfl) (rg_if h (fun h => ?_) fun h => ?_)
  · exact rg_end 3 (fun _ => rfl) (by cases h; rfl)
  · exact rg_end 4 (fun _ => rfl) (by cases h; rfl)
theorem T_fItems_priceDue {s : ev_M} {a1 : Int32} {q : Int32} (h : fItems_priceDue s a1 = some q) : RR 72 0 [oR 100 0, oI a1, nn] [] s (cvP s q) := by
  refine rg_step 6 (G' := fun f => if inb a1 300 = true then evT f 72 9 [oR 100 0, oI a1, nn] [vI (s.1 (102 + (ix (cI 11))) (ix a1))] s else none) (fun _ => rfl) (rg_gd h fun h => ?_)
  refine rg_step 2 (G' := fun f => if (s.1 (102 + (ix (cI 11))) (ix a1)) = (cI (-1)) then evT f 72 13 [oR 100 0, oI a1, nn] [] s else evT f 72 21 [oR 100 0, oI a1, nn] [] s) (fun _ => rfl) (rg_if h (fun h => ?_) fun h => ?_)
  · refine rg_step 3 (G' := fun f => ev_after (evT f 71 0 [oR 100 0, oI a1] [] s) (fun q => evT f 72 18 [oR 100 0, oI a1, nn] (q.2 ++ []) q.1)) (fun _ => rfl) (rg_bd1 h fun v1 hc h => rg_call (q := cvP s v1) (T_fItems_priceOf hc) ?_)
    exact rg_step 1 (G' := fun f => evT f 72 22 [oR 100 0, oI a1, nn] [vI v1] s) (fun _ => rfl) ((t_fItems_priceDue_b22) h)
  · exact rg_step 1 (G' := fun f => evT f 72 22 [oR 100 0, oI a1, nn] [vI (cI (-1))] s) (fun _ => rfl) ((t_fItems_priceDue_b22) h)
theorem T_fItems_centsDue {s : ev_M} {a1 : Int32} {q : Int32} (h : fItems_centsDue s a1 = some q) : RR 73 0 [oR 100 0, oI a1] [] s (cvP s q) := by
  refine rg_step 6 (G' := fun f => if inb a1 300 = true then evT f 73 9 [oR 100 0, oI a1] [vI (s.1 (102 + (ix (cI 10))) (ix a1))] s else none) (fun _ => rfl) (rg_gd h fun h => ?_)
  refine rg_step 2 (G' := fun f => if (s.1 (102 + (ix (cI 10))) (ix a1)) = (cI 1) then evT f 73 13 [oR 100 0, oI a1] [] s else evT f 73 17 [oR 100 0, oI a1] [] s) (fun _ => rfl) (rg_if h (fun h => ?_) fun h => ?_)
  · exact rg_end 3 (fun _ => rfl) (by cases h; rfl)
  · refine rg_step 6 (G' := fun f => if inb a1 300 = true then evT f 73 26 [oR 100 0, oI a1] [vI (s.1 (102 + (ix (cI 6))) (ix a1))] s else none) (fun _ => rfl) (rg_gd h fun h => ?_)
    exact rg_end 1 (fun _ => rfl) (by cases h; rfl)
theorem T_fItems_serves {s : ev_M} {a1 : Int32} {a2 : Int32} {q : Int32} (h : fItems_serves s a1 a2 = some q) : RR 53 0 [oR 100 0, oI a1, oI a2] [] s (cvP s q) := by
  refine rg_step 6 (G' := fun f => if inb a1 300 = true then evT f 53 8 [oR 100 0, oI a1, oI a2] [vI (s.1 (102 + (ix (cI 3))) (ix a1))] s else none) (fun _ => rfl) (rg_gd h fun h => ?_)
  refine rg_step 3 (G' := fun f => if ((s.1 (102 + (ix (cI 3))) (ix a1)) &&& a2) = 0 then evT f 53 17 [oR 100 0, oI a1, oI a2] [] s else evT f 53 13 [oR 100 0, oI a1, oI a2] [] s) (fun _ => rfl) (rg_if h (fun h => ?_) fun h => ?_)
  · exact rg_end 2 (fun _ => rfl) (by cases h; rfl)
  · exact rg_end 3 (fun _ => rfl) (by cases h; rfl)
theorem t_fItems_handOver_b173 {s : ev_M} {x1 : Int32} {x6 : Int32} {x7 : Int32} {j2 : Option ev_V} {j3 : Option ev_V} {j4 : Option ev_V} {j5 : Option ev_V} {j8 : Option ev_V} {q : ev_M × Int32} (h : fItems_handOver_b173 s x1 x6 x7 = some q) : RR 78 173 [oR 100 0, oI x1, j2, j3, j4, j5, oI x6, oI x7, j8] [] s (cvI q) := by
  refine rg_step 3 (G' := fun f => ev_after (evT f 123 0 [oR 9 0, nn] [] s) (fun q => evT f 78 180 [oR 100 0, oI x1, nn, nn, nn, nn, oI x6, oI x7, nn] (q.2 ++ []) q.1)) (fun _ => rfl) (rg_bd2 h fun s1 v2 hc h => rg_call (q := cvI (s1, v2)) (T_fLog_admits hc) ?_)
  refine rg_step 1 (G' := fun f => if v2 = 0 then evT f 78 183 [oR 100 0, oI x1, nn, nn, nn, nn, oI x6, oI x7, nn] [] s1 else evT f 78 186 [oR 100 0, oI x1, nn, nn, nn, nn, oI x6, oI x7, nn] [] s1) (fun _ => rfl) (rg_if h (fun h => ?_) fun h => ?_)
  · exact rg_end 2 (fun _ => rfl) (by cases h; rfl)
  · refine rg_step 4 (G' := fun f => ev_after (evT f 55 0 [oR 100 0, oI x1, oI (cI 5)] [] s1) (fun q => evT f 78 192 [oR 100 0, oI x1, nn, nn, nn, nn, oI x6, oI x7, nn] (q.2 ++ []) q.1)) (fun _ => rfl) (rg_bd1 h fun s3 hc h => rg_call (q := cvV s3) (T_fItems_come hc) ?_)
    refine rg_step 7 (G' := fun f => ev_after (evT f 153 0 [oR 78 0, oI (cI 1), oI (cI 0), oI x6, oI x1] [] s3) (fun q => evT f 78 204 [oR 100 0, oI x1, nn, nn, nn, nn, oI x6, oI x7, nn] (q.2 ++ []) q.1)) (fun _ => rfl) (rg_bd1 h fun s4 hc h => rg_call (q := cvV s4) (T_fMoney_transfer hc) ?_)
    refine rg_step 9 (G' := fun f => if inb x1 300 = true then evT f 78 217 [oR 100 0, oI x1, nn, nn, nn, nn, oI x6, oI x7, nn] [vI (s4.1 (102 + (ix (cI 4))) (ix x1)), vI (cI 1), vR 78 0] s4 else none) (fun _ => rfl) (rg_gd h fun h => ?_)
    refine rg_step 3 (G' := fun f => ev_after (evT f 153 0 [oR 78 0, oI (cI 1), oI (s4.1 (102 + (ix (cI 4))) (ix x1)), oI x7, oI x1] [] s4) (fun q => evT f 78 223 [oR 100 0, oI x1, nn, nn, nn, nn, oI x6, oI x7, nn] (q.2 ++ []) q.1)) (fun _ => rfl) (rg_bd1 h fun s5 hc h => rg_call (q := cvV s5) (T_fMoney_transfer hc) ?_)
    exact rg_end 2 (fun _ => rfl) (by cases h; rfl)
theorem t_fItems_handOver_b153 {s : ev_M} {x1 : Int32} {x6 : Int32} {x7 : Int32} {y0 : Int32} {y1 : Int32} {j2 : Option ev_V} {j3 : Option ev_V} {j4 : Option ev_V} {j5 : Option ev_V} {j8 : Option ev_V} {q : ev_M × Int32} (h : fItems_handOver_b153 s x1 x6 x7 y0 y1 = some q) : RR 78 153 [oR 100 0, oI x1, j2, j3, j4, j5, oI x6, oI x7, j8] [vI y1, vI y0] s (cvI q) := by
  refine rg_step 2 (G' := fun f => evT f 78 156 [oR 100 0, oI x1, nn, nn, nn, nn, oI x6, oI x7, oI (y0 + y1)] [] s) (fun _ => rfl) (rg_ltI (P := fun v6 => RG (fun f => evT f 78 156 [oR 100 0, oI x1, nn, nn, nn, nn, oI x6, oI x7, oI v6] [] s) (cvI q)) h fun v6 h => ?_)
  refine rg_step 2 (G' := fun f => if v6 ≤ 0 then evT f 78 173 [oR 100 0, oI x1, nn, nn, nn, nn, oI x6, oI x7, oI v6] [] s else evT f 78 161 [oR 100 0, oI x1, nn, nn, nn, nn, oI x6, oI x7, oI v6] [] s) (fun _ => rfl) (rg_if h (fun h => ?_) fun h => ?_)
  · exact (t_fItems_handOver_b173) h
  · refine rg_step 4 (G' := fun f => ev_after (evT f 152 0 [oR 78 0, oI v6] [] s) (fun q => evT f 78 170 [oR 100 0, oI x1, nn, nn, nn, nn, oI x6, oI x7, oI v6] (q.2 ++ []) q.1)) (fun _ => rfl) (rg_bd1 h fun v7 hc h => rg_call (q := cvP s v7) (T_fMoney_hasRoomFor hc) ?_)
    refine rg_step 1 (G' := fun f => if v7 = 0 then evT f 78 183 [oR 100 0, oI x1, nn, nn, nn, nn, oI x6, oI x7, oI v6] [] s else evT f 78 173 [oR 100 0, oI x1, nn, nn, nn, nn, oI x6, oI x7, oI v6] [] s) (fun _ => rfl) (rg_if h (fun h => ?_) fun h => ?_)
    · exact rg_end 2 (fun _ => rfl) (by cases h; rfl)
    · exact (t_fItems_handOver_b173) h
theorem t_fItems_handOver_b143 {s : ev_M} {x1 : Int32} {x6 : Int32} {x7 : Int32} {y0 : Int32} {j2 : Option ev_V} {j3 : Option ev_V} {j4 : Option ev_V} {j5 : Option ev_V} {j8 : Option ev_V} {q : ev_M × Int32} (h : fItems_handOver_b143 s x1 x6 x7 y0 = some q) : RR 78 143 [oR 100 0, oI x1, j2, j3, j4, j5, oI x6, oI x7, j8] [vI y0] s (cvI q) := by
  refine rg_step 2 (G' := fun f => if x7 ≤ 0 then evT f 78 152 [oR 100 0, oI x1, nn, nn, nn, nn, oI x6, oI x7, nn] [vI y0] s else evT f 78 148 [oR 100 0, oI x1, nn, nn, nn, nn, oI x6, oI x7, nn] [vI y0] s) (fun _ => rfl) (rg_if h (fun h => ?_) fun h => ?_)
  · exact rg_step 1 (G' := fun f => evT f 78 153 [oR 100 0, oI x1, nn, nn, nn, nn, oI x6, oI x7, nn] [vI (cI 0), vI y0] s) (fun _ => rfl) ((t_fItems_handOver_b153) h)
  · exact rg_step 2 (G' := fun f => evT f 78 153 [oR 100 0, oI x1, nn, nn, nn, nn, oI x6, oI x7, nn] [vI (cI 1), vI y0] s) (fun _ => rfl) ((t_fItems_handOver_b153) h)
theorem t_fItems_handOver_b106 {s : ev_M} {x1 : Int32} {x4 : Int32} {j2 : Option ev_V} {j3 : Option ev_V} {j5 : Option ev_V} {j6 : Option ev_V} {j7 : Option ev_V} {j8 : Option ev_V} {q : ev_M × Int32} (h : fItems_handOver_b106 s x1 x4 = some q) : RR 78 106 [oR 100 0, oI x1, j2, j3, oI x4, j5, j6, j7, j8] [] s (cvI q) := by
  refine rg_step 3 (G' := fun f => ev_after (evT f 72 0 [oR 100 0, oI x1, nn] [] s) (fun q => evT f 78 111 [oR 100 0, oI x1, nn, nn, oI x4, nn, nn, nn, nn] (q.2 ++ []) q.1)) (fun _ => rfl) (rg_bd1 h fun v8 hc h => rg_call (q := cvP s v8) (T_fItems_priceDue hc) ?_)
  refine rg_step 4 (G' := fun f => ev_after (evT f 73 0 [oR 100 0, oI x1] [] s) (fun q => evT f 78 118 [oR 100 0, oI x1, nn, nn, oI x4, nn, oI v8, nn, nn] (q.2 ++ []) q.1)) (fun _ => rfl) (rg_bd1 h fun v9 hc h => rg_call (q := cvP s v9) (T_fItems_centsDue hc) ?_)
  refine rg_step 6 (G' := fun f => if x4 = (v8 + v9) then evT f 78 133 [oR 100 0, oI x1, nn, nn, oI x4, nn, oI v8, oI v9, nn] [] s else evT f 78 130 [oR 100 0, oI x1, nn, nn, oI x4, nn, oI v8, oI v9, nn] [] s) (fun _ => rfl) (rg_if h (fun h => ?_) fun h => ?_)
  · refine rg_step 2 (G' := fun f => if v8 ≤ 0 then evT f 78 142 [oR 100 0, oI x1, nn, nn, oI x4, nn, oI v8, oI v9, nn] [] s else evT f 78 138 [oR 100 0, oI x1, nn, nn, oI x4, nn, oI v8, oI v9, nn] [] s) (fun _ => rfl) (rg_if h (fun h => ?_) fun h => ?_)
    · exact rg_step 1 (G' := fun f => evT f 78 143 [oR 100 0, oI x1, nn, nn, oI x4, nn, oI v8, oI v9, nn] [vI (cI 0)] s) (fun _ => rfl) ((t_fItems_handOver_b143) h)
    · exact rg_step 2 (G' := fun f => evT f 78 143 [oR 100 0, oI x1, nn, nn, oI x4, nn, oI v8, oI v9, nn] [vI (cI 1)] s) (fun _ => rfl) ((t_fItems_handOver_b143) h)
  · exact rg_end 2 (fun _ => rfl) (by cases h; rfl)
theorem t_fItems_handOver_b90 {s : ev_M} {x1 : Int32} {x3 : Int32} {x4 : Int32} {j2 : Option ev_V} {j5 : Option ev_V} {j6 : Option ev_V} {j7 : Option ev_V} {j8 : Option ev_V} {q : ev_M × Int32} (h : fItems_handOver_b90 s x1 x3 x4 = some q) : RR 78 90 [oR 100 0, oI x1, j2, oI x3, oI x4, j5, j6, j7, j8] [] s (cvI q) := by
  refine rg_step 4 (G' := fun f => ev_after (evT f 53 0 [oR 100 0, oI x1, oI (cI 1)] [] s) (fun q => evT f 78 96 [oR 100 0, oI x1, nn, oI x3, oI x4, nn, nn, nn, nn] (q.2 ++ []) q.1)) (fun _ => rfl) (rg_bd1 h fun v10 hc h => rg_call (q := cvP s v10) (T_fItems_serves hc) ?_)
  refine rg_step 1 (G' := fun f => if v10 = 0 then evT f 78 106 [oR 100 0, oI x1, nn, oI x3, oI x4, nn, nn, nn, nn] [] s else evT f 78 99 [oR 100 0, oI x1, nn, oI x3, oI x4, nn, nn, nn, nn] [] s) (fun _ => rfl) (rg_if h (fun h => ?_) fun h => ?_)
  · exact (t_fItems_handOver_b106) h
  · refine rg_step 2 (G' := fun f => if x3 = 0 then evT f 78 103 [oR 100 0, oI x1, nn, oI x3, oI x4, nn, nn, nn, nn] [] s else evT f 78 106 [oR 100 0, oI x1, nn, oI x3, oI x4, nn, nn, nn, nn] [] s) (fun _ => rfl) (rg_if h (fun h => ?_) fun h => ?_)
    · exact rg_end 2 (fun _ => rfl) (by cases h; rfl)
    · exact (t_fItems_handOver_b106) h
theorem T_fItems_handOver {s : ev_M} {a1 : Int32} {a2 : Int32} {a3 : Int32} {a4 : Int32} {a5 : Int32} {q : ev_M × Int32} (h : fItems_handOver s a1 a2 a3 a4 a5 = some q) : RR 78 0 [oR 100 0, oI a1, oI a2, oI a3, oI a4, oI a5, nn, nn, nn] [] s (cvI q) := by
  refine rg_step 3 (G' := fun f => ev_after (evT f 51 0 [oR 100 0, oI a1] [] s) (fun q => evT f 78 5 [oR 100 0, oI a1, oI a2, oI a3, oI a4, oI a5, nn, nn, nn] (q.2 ++ []) q.1)) (fun _ => rfl) (rg_bd1 h fun v11 hc h => rg_call (q := cvP s v11) (T_fItems_has hc) ?_)
  refine rg_step 1 (G' := fun f => if v11 = 0 then evT f 78 8 [oR 100 0, oI a1, oI a2, oI a3, oI a4, oI a5, nn, nn, nn] [] s else evT f 78 11 [oR 100 0, oI a1, oI a2, oI a3, oI a4, oI a5, nn, nn, nn] [] s) (fun _ => rfl) (rg_if h (fun h => ?_) fun h => ?_)
  · exact rg_end 2 (fun _ => rfl) (by cases h; rfl)
  · refine rg_step 4 (G' := fun f => ev_after (evT f 308 0 [oI a2, oI (cI 1), oI (cI 99)] [] s) (fun q => evT f 78 18 [oR 100 0, oI a1, oI a2, oI a3, oI a4, oI a5, nn, nn, nn] (q.2 ++ []) q.1)) (fun _ => rfl) (rg_bd1 h fun v12 hc h => rg_call (q := cvP s v12) (T_fPH_outside hc) ?_)
    refine rg_step 1 (G' := fun f => if v12 = 0 then evT f 78 21 [oR 100 0, oI a1, oI a2, oI a3, oI a4, oI a5, nn, nn, nn] [] s else evT f 78 43 [oR 100 0, oI a1, oI a2, oI a3, oI a4, oI a5, nn, nn, nn] [] s) (fun _ => rfl) (rg_if h (fun h => ?_) fun h => ?_)
    · refine rg_step 4 (G' := fun f => ev_after (evT f 308 0 [oI a3, oI (cI 0), oI (cI 9999)] [] s) (fun q => evT f 78 29 [oR 100 0, oI a1, oI a2, oI a3, oI a4, oI a5, nn, nn, nn] (q.2 ++ []) q.1)) (fun _ => rfl) (rg_bd1 h fun v13 hc h => rg_call (q := cvP s v13) (T_fPH_outside hc) ?_)
      refine rg_step 1 (G' := fun f => if v13 = 0 then evT f 78 32 [oR 100 0, oI a1, oI a2, oI a3, oI a4, oI a5, nn, nn, nn] [] s else evT f 78 43 [oR 100 0, oI a1, oI a2, oI a3, oI a4, oI a5, nn, nn, nn] [] s) (fun _ => rfl) (rg_if h (fun h => ?_) fun h => ?_)
      · refine rg_step 4 (G' := fun f => ev_after (evT f 308 0 [oI a4, oI (cI 0), oI (cI 1000000)] [] s) (fun q => evT f 78 40 [oR 100 0, oI a1, oI a2, oI a3, oI a4, oI a5, nn, nn, nn] (q.2 ++ []) q.1)) (fun _ => rfl) (rg_bd1 h fun v14 hc h => rg_call (q := cvP s v14) (T_fPH_outside hc) ?_)
        refine rg_step 1 (G' := fun f => if v14 = 0 then evT f 78 46 [oR 100 0, oI a1, oI a2, oI a3, oI a4, oI a5, nn, nn, nn] [] s else evT f 78 43 [oR 100 0, oI a1, oI a2, oI a3, oI a4, oI a5, nn, nn, nn] [] s) (fun _ => rfl) (rg_if h (fun h => ?_) fun h => ?_)
        · refine rg_step 2 (G' := fun f => if a5 = 0 then evT f 78 51 [oR 100 0, oI a1, oI a2, oI a3, oI a4, oI a5, nn, nn, nn] [] s else evT f 78 54 [oR 100 0, oI a1, oI a2, oI a3, oI a4, oI a5, nn, nn, nn] [] s) (fun _ => rfl) (rg_if h (fun h => ?_) fun h => ?_)
          · exact rg_end 2 (fun _ => rfl) (by cases h; rfl)
          · refine rg_step 6 (G' := fun f => if inb a1 300 = true then evT f 78 63 [oR 100 0, oI a1, oI a2, oI a3, oI a4, oI a5, nn, nn, nn] [vI (s.1 (102 + (ix (cI 10))) (ix a1))] s else none) (fun _ => rfl) (rg_gd h fun h => ?_)
            refine rg_step 1 (G' := fun f => if (s.1 (102 + (ix (cI 10))) (ix a1)) = 0 then evT f 78 66 [oR 100 0, oI a1, oI a2, oI a3, oI a4, oI a5, nn, nn, nn] [] s else evT f 78 90 [oR 100 0, oI a1, oI a2, oI a3, oI a4, oI a5, nn, nn, nn] [] s) (fun _ => rfl) (rg_if h (fun h => ?_) fun h => ?_)
            · refine rg_step 4 (G' := fun f => ev_after (evT f 53 0 [oR 100 0, oI a1, oI (cI 4)] [] s) (fun q => evT f 78 72 [oR 100 0, oI a1, oI a2, oI a3, oI a4, oI a5, nn, nn, nn] (q.2 ++ []) q.1)) (fun _ => rfl) (rg_bd1 h fun v15 hc h => rg_call (q := cvP s v15) (T_fItems_serves hc) ?_)
              refine rg_step 1 (G' := fun f => if v15 = 0 then evT f 78 90 [oR 100 0, oI a1, oI a2, oI a3, oI a4, oI a5, nn, nn, nn] [] s else evT f 78 75 [oR 100 0, oI a1, oI a2, oI a3, oI a4, oI a5, nn, nn, nn] [] s) (fun _ => rfl) (rg_if h (fun h => ?_) fun h => ?_)
              · exact (t_fItems_handOver_b90) h
              · refine rg_step 7 (G' := fun f => if inb a1 300 = true then evT f 78 84 [oR 100 0, oI a1, oI a2, oI a3, oI a4, oI a5, nn, nn, nn] [vI (s.1 (102 + (ix (cI 5))) (ix a1)), vI a2] s else none) (fun _ => rfl) (rg_gd h fun h => ?_)
                refine rg_step 1 (G' := fun f => if a2 = (s.1 (102 + (ix (cI 5))) (ix a1)) then evT f 78 90 [oR 100 0, oI a1, oI a2, oI a3, oI a4, oI a5, nn, nn, nn] [] s else evT f 78 87 [oR 100 0, oI a1, oI a2, oI a3, oI a4, oI a5, nn, nn, nn] [] s) (fun _ => rfl) (rg_if h (fun h => ?_) fun h => ?_)
                · exact (t_fItems_handOver_b90) h
                · exact rg_end 2 (fun _ => rfl) (by cases h; rfl)
            · exact (t_fItems_handOver_b90) h
        · exact rg_end 2 (fun _ => rfl) (by cases h; rfl)
      · exact rg_end 2 (fun _ => rfl) (by cases h; rfl)
    · exact rg_end 2 (fun _ => rfl) (by cases h; rfl)
theorem t_fItems_handAtDoor_b28 {s : ev_M} {y1 : Int32} {y2 : Int32} {y3 : Int32} {y4 : Int32} {y5 : Int32} {j0 : Option ev_V} {j1 : Option ev_V} {j2 : Option ev_V} {j3 : Option ev_V} {j4 : Option ev_V} {q : ev_M × Int32} (h : fItems_handAtDoor_b28 s y1 y2 y3 y4 y5 = some q) : RR 76 28 [j0, j1, j2, j3, j4] [vI y5, vI y4, vI y3, vI y2, vI y1, vR 100 0] s (cvI q) := by
  refine rg_step 1 (G' := fun f => ev_after (evT f 78 0 [oR 100 0, oI y1, oI y2, oI y3, oI y4, oI y5, nn, nn, nn] [] s) (fun q => evT f 76 31 [nn, nn, nn, nn, nn] (q.2 ++ []) q.1)) (fun _ => rfl) (rg_bd2 h fun s1 v2 hc h => rg_call (q := cvI (s1, v2)) (T_fItems_handOver hc) ?_)
  exact rg_end 1 (fun _ => rfl) (by cases h; rfl)
theorem t_fItems_handAtDoor_b27 {s : ev_M} {y1 : Int32} {y2 : Int32} {y3 : Int32} {y4 : Int32} {j0 : Option ev_V} {j1 : Option ev_V} {j2 : Option ev_V} {j3 : Option ev_V} {j4 : Option ev_V} {q : ev_M × Int32} (h : fItems_handAtDoor_b27 s y1 y2 y3 y4 = some q) : RR 76 27 [j0, j1, j2, j3, j4] [vI y4, vI y3, vI y2, vI y1, vR 100 0] s (cvI q) := by
  exact rg_step 1 (G' := fun f => evT f 76 28 [nn, nn, nn, nn, nn] [vI (cI 0), vI y4, vI y3, vI y2, vI y1, vR 100 0] s) (fun _ => rfl) ((t_fItems_handAtDoor_b28) h)
theorem T_fItems_handAtDoor {s : ev_M} {a1 : Int32} {a2 : Int32} {a3 : Int32} {a4 : Int32} {q : ev_M × Int32} (h : fItems_handAtDoor s a1 a2 a3 a4 = some q) : RR 76 0 [oR 100 0, oI a1, oI a2, oI a3, oI a4] [] s (cvI q) := by
  refine rg_step 8 (G' := fun f => ev_after (evT f 51 0 [oR 100 0, oI a1] [] s) (fun q => evT f 76 11 [oR 100 0, oI a1, oI a2, oI a3, oI a4] (q.2 ++ [vI a4, vI a3, vI a2, vI a1, vR 100 0]) q.1)) (fun _ => rfl) (rg_bd1 h fun v3 hc h => rg_call (q := cvP s v3) (T_fItems_has hc) ?_)
  refine rg_step 1 (G' := fun f => if v3 = 0 then evT f 76 27 [oR 100 0, oI a1, oI a2, oI a3, oI a4] [vI a4, vI a3, vI a2, vI a1, vR 100 0] s else evT f 76 14 [oR 100 0, oI a1, oI a2, oI a3, oI a4] [vI a4, vI a3, vI a2, vI a1, vR 100 0] s) (fun _ => rfl) (rg_if h (fun h => ?_) fun h => ?_)
  · exact (t_fItems_handAtDoor_b27) h
  · refine rg_step 4 (G' := fun f => ev_after (evT f 52 0 [oR 100 0, oI a1, oI (cI 4)] [] s) (fun q => evT f 76 20 [oR 100 0, oI a1, oI a2, oI a3, oI a4] (q.2 ++ [vI a4, vI a3, vI a2, vI a1, vR 100 0]) q.1)) (fun _ => rfl) (rg_bd1 h fun v4 hc h => rg_call (q := cvP s v4) (T_fItems_is hc) ?_)
    refine rg_step 1 (G' := fun f => if v4 = 0 then evT f 76 27 [oR 100 0, oI a1, oI a2, oI a3, oI a4] [vI a4, vI a3, vI a2, vI a1, vR 100 0] s else evT f 76 23 [oR 100 0, oI a1, oI a2, oI a3, oI a4] [vI a4, vI a3, vI a2, vI a1, vR 100 0] s) (fun _ => rfl) (rg_if h (fun h => ?_) fun h => ?_)
    · exact (t_fItems_handAtDoor_b27) h
    · exact rg_step 2 (G' := fun f => evT f 76 28 [oR 100 0, oI a1, oI a2, oI a3, oI a4] [vI (cI 1), vI a4, vI a3, vI a2, vI a1, vR 100 0] s) (fun _ => rfl) ((t_fItems_handAtDoor_b28) h)
theorem T_fItems_keepFor {s : ev_M} {a1 : Int32} {a2 : Int32} {q : ev_M} (h : fItems_keepFor s a1 a2 = some q) : RR 57 0 [oR 100 0, oI a1, oI a2] [] s (cvV q) := by
  refine rg_step 4 (G' := fun f => ev_after (evT f 55 0 [oR 100 0, oI a1, oI (cI 6)] [] s) (fun q => evT f 57 7 [oR 100 0, oI a1, oI a2] (q.2 ++ []) q.1)) (fun _ => rfl) (rg_bd1 h fun s1 hc h => rg_call (q := cvV s1) (T_fItems_come hc) ?_)
  refine rg_step 8 (G' := fun f => ev_after (evT f 41 0 [oR 15 0] [] s1) (fun q => evT f 57 22 [oR 100 0, oI a1, oI a2] (q.2 ++ [vI a1, vR 102 (ix (cI 14))]) q.1)) (fun _ => rfl) (rg_bd1 h fun v2 hc h => rg_call (q := cvP s1 v2) (T_fChron_today hc) ?_)
  refine rg_step 3 (G' := fun f => if inb a1 300 = true then evT f 57 25 [oR 100 0, oI a1, oI a2] [] (wI s1 (102 + (ix (cI 14))) (ix a1) (v2 + a2)) else none) (fun _ => rfl) (rg_gd h fun h => rg_ltM h fun s3 h => ?_)
  exact rg_end 1 (fun _ => rfl) (by cases h; rfl)
theorem T_fItems_missAtDoor {s : ev_M} {a1 : Int32} {q : ev_M × Int32} (h : fItems_missAtDoor s a1 = some q) : RR 79 0 [oR 100 0, oI a1] [] s (cvI q) := by
  refine rg_step 3 (G' := fun f => ev_after (evT f 51 0 [oR 100 0, oI a1] [] s) (fun q => evT f 79 5 [oR 100 0, oI a1] (q.2 ++ []) q.1)) (fun _ => rfl) (rg_bd1 h fun v1 hc h => rg_call (q := cvP s v1) (T_fItems_has hc) ?_)
  refine rg_step 1 (G' := fun f => if v1 = 0 then evT f 79 8 [oR 100 0, oI a1] [] s else evT f 79 11 [oR 100 0, oI a1] [] s) (fun _ => rfl) (rg_if h (fun h => ?_) fun h => ?_)
  · exact rg_end 2 (fun _ => rfl) (by cases h; rfl)
  · refine rg_step 4 (G' := fun f => ev_after (evT f 52 0 [oR 100 0, oI a1, oI (cI 4)] [] s) (fun q => evT f 79 17 [oR 100 0, oI a1] (q.2 ++ []) q.1)) (fun _ => rfl) (rg_bd1 h fun v2 hc h => rg_call (q := cvP s v2) (T_fItems_is hc) ?_)
    refine rg_step 1 (G' := fun f => if v2 = 0 then evT f 79 20 [oR 100 0, oI a1] [] s else evT f 79 23 [oR 100 0, oI a1] [] s) (fun _ => rfl) (rg_if h (fun h => ?_) fun h => ?_)
    · exact rg_end 2 (fun _ => rfl) (by cases h; rfl)
    · refine rg_step 3 (G' := fun f => ev_after (evT f 123 0 [oR 9 0, nn] [] s) (fun q => evT f 79 30 [oR 100 0, oI a1] (q.2 ++ []) q.1)) (fun _ => rfl) (rg_bd2 h fun s3 v4 hc h => rg_call (q := cvI (s3, v4)) (T_fLog_admits hc) ?_)
      refine rg_step 1 (G' := fun f => if v4 = 0 then evT f 79 33 [oR 100 0, oI a1] [] s3 else evT f 79 36 [oR 100 0, oI a1] [] s3) (fun _ => rfl) (rg_if h (fun h => ?_) fun h => ?_)
      · exact rg_end 2 (fun _ => rfl) (by cases h; rfl)
      · refine rg_step 4 (G' := fun f => ev_after (evT f 57 0 [oR 100 0, oI a1, oI (cI 7)] [] s3) (fun q => evT f 79 43 [oR 100 0, oI a1] (q.2 ++ []) q.1)) (fun _ => rfl) (rg_bd1 h fun s5 hc h => rg_call (q := cvV s5) (T_fItems_keepFor hc) ?_)
        refine rg_step 6 (G' := fun f => if inb a1 300 = true then evT f 79 52 [oR 100 0, oI a1] [vI (s5.1 (102 + (ix (cI 14))) (ix a1))] s5 else none) (fun _ => rfl) (rg_gd h fun h => ?_)
        exact rg_end 1 (fun _ => rfl) (by cases h; rfl)
theorem t_fItems_goBack_b41 {s : ev_M} {x1 : Int32} {y1 : Int32} {y2 : Int32} {j2 : Option ev_V} {q : ev_M × Int32} (h : fItems_goBack_b41 s x1 y1 y2 = some q) : RR 58 41 [oR 100 0, oI x1, j2] [vI y2, vI y1, vR 100 0] s (cvI q) := by
  refine rg_step 1 (G' := fun f => ev_after (evT f 55 0 [oR 100 0, oI y1, oI y2] [] s) (fun q => evT f 58 44 [oR 100 0, oI x1, nn] (q.2 ++ []) q.1)) (fun _ => rfl) (rg_bd1 h fun s1 hc h => rg_call (q := cvV s1) (T_fItems_come hc) ?_)
  refine rg_step 6 (G' := fun f => if inb x1 300 = true then evT f 58 52 [oR 100 0, oI x1, nn] [vI (s1.1 (102 + (ix (cI 0))) (ix x1))] s1 else none) (fun _ => rfl) (rg_gd h fun h => ?_)
  exact rg_end 1 (fun _ => rfl) (by cases h; rfl)
theorem t_fItems_goBack_b18 {s : ev_M} {x1 : Int32} {y0 : Int32} {j2 : Option ev_V} {q : ev_M × Int32} (h : fItems_goBack_b18 s x1 y0 = some q) : RR 58 18 [oR 100 0, oI x1, j2] [vI y0] s (cvI q) := by
  refine rg_step 8 (G' := fun f => if inb x1 300 = true then evT f 58 29 [oR 100 0, oI x1, oI y0] [] (wI s (102 + (ix (cI 10))) (ix x1) (cI 1)) else none) (fun _ => rfl) (rg_gd h fun h => rg_ltM h fun s2 h => ?_)
  refine rg_step 4 (G' := fun f => if y0 = 0 then evT f 58 40 [oR 100 0, oI x1, oI y0] [vI x1, vR 100 0] s2 else evT f 58 35 [oR 100 0, oI x1, oI y0] [vI x1, vR 100 0] s2) (fun _ => rfl) (rg_if h (fun h => ?_) fun h => ?_)
  · exact rg_step 1 (G' := fun f => evT f 58 41 [oR 100 0, oI x1, oI y0] [vI (cI 1), vI x1, vR 100 0] s2) (fun _ => rfl) ((t_fItems_goBack_b41) h)
  · exact rg_step 2 (G' := fun f => evT f 58 41 [oR 100 0, oI x1, oI y0] [vI (cI 7), vI x1, vR 100 0] s2) (fun _ => rfl) ((t_fItems_goBack_b41) h)
theorem T_fItems_goBack {s : ev_M} {a1 : Int32} {q : ev_M × Int32} (h : fItems_goBack s a1 = some q) : RR 58 0 [oR 100 0, oI a1, nn] [] s (cvI q) := by
  refine rg_step 6 (G' := fun f => if inb a1 300 = true then evT f 58 9 [oR 100 0, oI a1, nn] [vI (s.1 (102 + (ix (cI 10))) (ix a1))] s else none) (fun _ => rfl) (rg_gd h fun h => ?_)
  refine rg_step 2 (G' := fun f => if (s.1 (102 + (ix (cI 10))) (ix a1)) = (cI 1) then evT f 58 13 [oR 100 0, oI a1, nn] [] s else evT f 58 17 [oR 100 0, oI a1, nn] [] s) (fun _ => rfl) (rg_if h (fun h => ?_) fun h => ?_)
  · exact rg_step 2 (G' := fun f => evT f 58 18 [oR 100 0, oI a1, nn] [vI (cI 1)] s) (fun _ => rfl) ((t_fItems_goBack_b18) h)
  · exact rg_step 1 (G' := fun f => evT f 58 18 [oR 100 0, oI a1, nn] [vI (cI 0)] s) (fun _ => rfl) ((t_fItems_goBack_b18) h)
theorem T_fItems_isHeldAtPost {s : ev_M} {a1 : Int32} {q : Int32} (h : fItems_isHeldAtPost s a1 = some q) : RR 62 0 [oR 100 0, oI a1] [] s (cvP s q) := by
  refine rg_step 4 (G' := fun f => ev_after (evT f 52 0 [oR 100 0, oI a1, oI (cI 6)] [] s) (fun q => evT f 62 7 [oR 100 0, oI a1] (q.2 ++ []) q.1)) (fun _ => rfl) (rg_bd1 h fun v1 hc h => rg_call (q := cvP s v1) (T_fItems_is hc) ?_)
  refine rg_step 1 (G' := fun f => if v1 = 0 then evT f 62 27 [oR 100 0, oI a1] [] s else evT f 62 10 [oR 100 0, oI a1] [] s) (fun _ => rfl) (rg_if h (fun h => ?_) fun h => ?_)
  · exact rg_end 2 (fun _ => rfl) (by cases h; rfl)
  · refine rg_step 6 (G' := fun f => if inb a1 300 = true then evT f 62 19 [oR 100 0, oI a1] [vI (s.1 (102 + (ix (cI 15))) (ix a1))] s else none) (fun _ => rfl) (rg_gd h fun h => ?_)
    refine rg_step 2 (G' := fun f => if (s.1 (102 + (ix (cI 15))) (ix a1)) = (cI (-1)) then evT f 62 23 [oR 100 0, oI a1] [] s else evT f 62 27 [oR 100 0, oI a1] [] s) (fun _ => rfl) (rg_if h (fun h => ?_) fun h => ?_)
    · exact rg_end 3 (fun _ => rfl) (by cases h; rfl)
    · exact rg_end 2 (fun _ => rfl) (by cases h; rfl)
theorem t_fItems_refuseItem_b31 {s : ev_M} {x1 : Int32} {q : ev_M × Int32} (h : fItems_refuseItem_b31 s x1 = some q) : RR 80 31 [oR 100 0, oI x1] [] s (cvI q) := by
  refine rg_step 3 (G' := fun f => ev_after (evT f 123 0 [oR 9 0, nn] [] s) (fun q => evT f 80 38 [oR 100 0, oI x1] (q.2 ++ []) q.1)) (fun _ => rfl) (rg_bd2 h fun s1 v2 hc h => rg_call (q := cvI (s1, v2)) (T_fLog_admits hc) ?_)
  refine rg_step 1 (G' := fun f => if v2 = 0 then evT f 80 41 [oR 100 0, oI x1] [] s1 else evT f 80 44 [oR 100 0, oI x1] [] s1) (fun _ => rfl) (rg_if h (fun h => ?_) fun h => ?_)
  · exact rg_end 2 (fun _ => rfl) (by cases h; rfl)
  · refine rg_step 3 (G' := fun f => ev_after (evT f 58 0 [oR 100 0, oI x1, nn] [] s1) (fun q => evT f 80 49 [oR 100 0, oI x1] (q.2 ++ []) q.1)) (fun _ => rfl) (rg_bd2 h fun s3 v4 hc h => rg_call (q := cvI (s3, v4)) (T_fItems_goBack hc) ?_)
    exact rg_end 1 (fun _ => rfl) (by cases h; rfl)
theorem T_fItems_refuseItem {s : ev_M} {a1 : Int32} {q : ev_M × Int32} (h : fItems_refuseItem s a1 = some q) : RR 80 0 [oR 100 0, oI a1] [] s (cvI q) := by
  refine rg_step 3 (G' := fun f => ev_after (evT f 51 0 [oR 100 0, oI a1] [] s) (fun q => evT f 80 5 [oR 100 0, oI a1] (q.2 ++ []) q.1)) (fun _ => rfl) (rg_bd1 h fun v5 hc h => rg_call (q := cvP s v5) (T_fItems_has hc) ?_)
  refine rg_step 1 (G' := fun f => if v5 = 0 then evT f 80 8 [oR 100 0, oI a1] [] s else evT f 80 11 [oR 100 0, oI a1] [] s) (fun _ => rfl) (rg_if h (fun h => ?_) fun h => ?_)
  · exact rg_end 2 (fun _ => rfl) (by cases h; rfl)
  · refine rg_step 4 (G' := fun f => ev_after (evT f 52 0 [oR 100 0, oI a1, oI (cI 4)] [] s) (fun q => evT f 80 17 [oR 100 0, oI a1] (q.2 ++ []) q.1)) (fun _ => rfl) (rg_bd1 h fun v6 hc h => rg_call (q := cvP s v6) (T_fItems_is hc) ?_)
    refine rg_step 1 (G' := fun f => if v6 = 0 then evT f 80 20 [oR 100 0, oI a1] [] s else evT f 80 31 [oR 100 0, oI a1] [] s) (fun _ => rfl) (rg_if h (fun h => ?_) fun h => ?_)
    · refine rg_step 3 (G' := fun f => ev_after (evT f 62 0 [oR 100 0, oI a1] [] s) (fun q => evT f 80 25 [oR 100 0, oI a1] (q.2 ++ []) q.1)) (fun _ => rfl) (rg_bd1 h fun v7 hc h => rg_call (q := cvP s v7) (T_fItems_isHeldAtPost hc) ?_)
      refine rg_step 1 (G' := fun f => if v7 = 0 then evT f 80 28 [oR 100 0, oI a1] [] s else evT f 80 31 [oR 100 0, oI a1] [] s) (fun _ => rfl) (rg_if h (fun h => ?_) fun h => ?_)
      · exact rg_end 2 (fun _ => rfl) (by cases h; rfl)
      · exact (t_fItems_refuseItem_b31) h
    · exact (t_fItems_refuseItem_b31) h
theorem t_fItems_isFreeForLocker_b35 {s : ev_M} {x1 : Int32} {y0 : Int32} {j2 : Option ev_V} {q : Int32} (h : fItems_isFreeForLocker_b35 s x1 y0 = some q) : RR 74 35 [oR 100 0, oI x1, j2] [vI y0] s (cvP s q) := by
  refine rg_step 3 (G' := fun f => if y0 = 0 then evT f 74 58 [oR 100 0, oI x1, oI y0] [] s else evT f 74 40 [oR 100 0, oI x1, oI y0] [] s) (fun _ => rfl) (rg_if h (fun h => ?_) fun h => ?_)
  · exact rg_end 2 (fun _ => rfl) (by cases h; rfl)
  · refine rg_step 3 (G' := fun f => ev_after (evT f 72 0 [oR 100 0, oI x1, nn] [] s) (fun q => evT f 74 45 [oR 100 0, oI x1, oI y0] (q.2 ++ []) q.1)) (fun _ => rfl) (rg_bd1 h fun v1 hc h => rg_call (q := cvP s v1) (T_fItems_priceDue hc) ?_)
    refine rg_step 3 (G' := fun f => ev_after (evT f 73 0 [oR 100 0, oI x1] [] s) (fun q => evT f 74 50 [oR 100 0, oI x1, oI y0] (q.2 ++ [vI v1]) q.1)) (fun _ => rfl) (rg_bd1 h fun v2 hc h => rg_call (q := cvP s v2) (T_fItems_centsDue hc) ?_)
    refine rg_step 2 (G' := fun f => if (v1 + v2) = 0 then evT f 74 54 [oR 100 0, oI x1, oI y0] [] s else evT f 74 58 [oR 100 0, oI x1, oI y0] [] s) (fun _ => rfl) (rg_if h (fun h => ?_) fun h => ?_)
    · exact rg_end 3 (fun _ => rfl) (by cases h; rfl)
    · exact rg_end 2 (fun _ => rfl) (by cases h; rfl)
theorem t_fItems_isFreeForLocker_b34 {s : ev_M} {x1 : Int32} {j2 : Option ev_V} {q : Int32} (h : fItems_isFreeForLocker_b34 s x1 = some q) : RR 74 34 [oR 100 0, oI x1, j2] [] s (cvP s q) := by
  exact rg_step 1 (G' := fun f => evT f 74 35 [oR 100 0, oI x1, nn] [vI (cI 0)] s) (fun _ => rfl) ((t_fItems_isFreeForLocker_b35) h)
theorem T_fItems_isFreeForLocker {s : ev_M} {a1 : Int32} {q : Int32} (h : fItems_isFreeForLocker s a1 = some q) : RR 74 0 [oR 100 0, oI a1, nn] [] s (cvP s q) := by
  refine rg_step 6 (G' := fun f => if inb a1 300 = true then evT f 74 8 [oR 100 0, oI a1, nn] [vI (s.1 (102 + (ix (cI 1))) (ix a1))] s else none) (fun _ => rfl) (rg_gd h fun h => ?_)
  refine rg_step 2 (G' := fun f => if (s.1 (102 + (ix (cI 1))) (ix a1)) ≤ (cI 1) then evT f 74 12 [oR 100 0, oI a1, nn] [] s else evT f 74 34 [oR 100 0, oI a1, nn] [] s) (fun _ => rfl) (rg_if h (fun h => ?_) fun h => ?_)
  · refine rg_step 4 (G' := fun f => ev_after (evT f 53 0 [oR 100 0, oI a1, oI (cI 4)] [] s) (fun q => evT f 74 18 [oR 100 0, oI a1, nn] (q.2 ++ []) q.1)) (fun _ => rfl) (rg_bd1 h fun v3 hc h => rg_call (q := cvP s v3) (T_fItems_serves hc) ?_)
    refine rg_step 1 (G' := fun f => if v3 = 0 then evT f 74 21 [oR 100 0, oI a1, nn] [] s else evT f 74 34 [oR 100 0, oI a1, nn] [] s) (fun _ => rfl) (rg_if h (fun h => ?_) fun h => ?_)
    · refine rg_step 4 (G' := fun f => ev_after (evT f 53 0 [oR 100 0, oI a1, oI (cI 1)] [] s) (fun q => evT f 74 27 [oR 100 0, oI a1, nn] (q.2 ++ []) q.1)) (fun _ => rfl) (rg_bd1 h fun v4 hc h => rg_call (q := cvP s v4) (T_fItems_serves hc) ?_)
      refine rg_step 1 (G' := fun f => if v4 = 0 then evT f 74 30 [oR 100 0, oI a1, nn] [] s else evT f 74 34 [oR 100 0, oI a1, nn] [] s) (fun _ => rfl) (rg_if h (fun h => ?_) fun h => ?_)
      · exact rg_step 2 (G' := fun f => evT f 74 35 [oR 100 0, oI a1, nn] [vI (cI 1)] s) (fun _ => rfl) ((t_fItems_isFreeForLocker_b35) h)
      · exact (t_fItems_isFreeForLocker_b34) h
    · exact (t_fItems_isFreeForLocker_b34) h
  · exact (t_fItems_isFreeForLocker_b34) h
theorem ti_fLock_boxWith_h2 {s : ev_M} : ∀ (n : Nat) (x1 : Int32) (x2 : Int32) (x3 : Int32) (q : Int32), fLock_boxWith_h2 s n x1 x2 x3 = some q → RR 114 2 [oR 125 0, oI x1, oI x2, oI x3] [] s (cvP s q) := by
  intro n
  induction n with
  | zero => intro x1 x2 x3 q h; cases h
  | succ n ih =>
    have hk2 : ∀ {x1 : Int32} {x2 : Int32} {x3 : Int32} {q : Int32}, fLock_boxWith_h2 s n x1 x2 x3 = some q → RR 114 2 [oR 125 0, oI x1, oI x2, oI x3] [] s (cvP s q) := fun h => ih _ _ _ _ h
    intro x1 x2 x3 q h
    refine rg_step 5 (G' := fun f => if inb x1 8 = true then evT f 114 9 [oR 125 0, oI x1, oI x2, oI x3] [vI (s.1 127 (ix x1)), vI x3] s else none) (fun _ => rfl) (rg_gd h fun h => ?_)
    refine rg_step 1 (G' := fun f => if x3 < (s.1 127 (ix x1)) then evT f 114 12 [oR 125 0, oI x1, oI x2, oI x3] [] s else evT f 114 32 [oR 125 0, oI x1, oI x2, oI x3] [] s) (fun _ => rfl) (rg_if h (fun h => ?_) fun h => ?_)
    · refine rg_step 4 (G' := fun f => if inb x1 8 = true then evT f 114 18 [oR 125 0, oI x1, oI x2, oI x3] [vR 130 (ix x1)] s else none) (fun _ => rfl) (rg_gd h fun h => ?_)
      refine rg_step 2 (G' := fun f => if inb x3 10 = true then evT f 114 20 [oR 125 0, oI x1, oI x2, oI x3] [vI (s.1 (130 + (ix x1)) (ix x3))] s else none) (fun _ => rfl) (rg_gd h fun h => ?_)
      refine rg_step 2 (G' := fun f => if (s.1 (130 + (ix x1)) (ix x3)) = x2 then evT f 114 24 [oR 125 0, oI x1, oI x2, oI x3] [] s else evT f 114 26 [oR 125 0, oI x1, oI x2, oI x3] [] s) (fun _ => rfl) (rg_if h (fun h => ?_) fun h => ?_)
      · exact rg_end 2 (fun _ => rfl) (by cases h; rfl)
      · exact rg_step 2 (G' := fun f => evT f 114 2 [oR 125 0, oI x1, oI x2, oI (x3 + cI 1)] [] s) (fun _ => rfl) (hk2 h)
    · exact rg_end 2 (fun _ => rfl) (by cases h; rfl)
theorem t_fLock_boxWith_h2 {s : ev_M} {n : Nat} {x1 : Int32} {x2 : Int32} {x3 : Int32} {q : Int32} (h : fLock_boxWith_h2 s n x1 x2 x3 = some q) : RR 114 2 [oR 125 0, oI x1, oI x2, oI x3] [] s (cvP s q) := ti_fLock_boxWith_h2 n x1 x2 x3 q h
theorem T_fLock_boxWith {s : ev_M} {a1 : Int32} {a2 : Int32} {q : Int32} (h : fLock_boxWith s a1 a2 = some q) : RR 114 0 [oR 125 0, oI a1, oI a2, nn] [] s (cvP s q) := by
  exact rg_step 2 (G' := fun f => evT f 114 2 [oR 125 0, oI a1, oI a2, oI (cI 0)] [] s) (fun _ => rfl) ((t_fLock_boxWith_h2) h)
theorem T_fLock_has {s : ev_M} {a1 : Int32} {q : Int32} (h : fLock_has s a1 = some q) : RR 110 0 [oR 125 0, oI a1] [] s (cvP s q) := by
  refine rg_step 7 (G' := fun f => ev_after (evT f 308 0 [oI a1, oI (cI 0), oI ((s.1 125 3) - (cI 1))] [] s) (fun q => evT f 110 11 [oR 125 0, oI a1] (q.2 ++ []) q.1)) (fun _ => rfl) (rg_bd1 h fun v1 hc h => rg_call (q := cvP s v1) (T_fPH_outside hc) ?_)
  refine rg_step 1 (G' := fun f => if v1 = 0 then evT f 110 14 [oR 125 0, oI a1] [] s else evT f 110 18 [oR 125 0, oI a1] [] s) (fun _ => rfl) (rg_if h (fun h => ?_) fun h => ?_)
  · exact rg_end 3 (fun _ => rfl) (by cases h; rfl)
  · exact rg_end 2 (fun _ => rfl) (by cases h; rfl)
theorem t_fLock_fill_b60 {s : ev_M} {x1 : Int32} {x2 : Int32} {y0 : Int32} {j3 : Option ev_V} {j4 : Option ev_V} {q : ev_M × Int32} (h : fLock_fill_b60 s x1 x2 y0 = some q) : RR 115 60 [oR 125 0, oI x1, oI x2, j3, j4] [vI y0] s (cvI q) := by
  refine rg_step 3 (G' := fun f => if y0 = 0 then evT f 115 76 [oR 125 0, oI x1, oI x2, oI y0, nn] [] s else evT f 115 65 [oR 125 0, oI x1, oI x2, oI y0, nn] [] s) (fun _ => rfl) (rg_if h (fun h => ?_) fun h => ?_)
  · exact rg_end 2 (fun _ => rfl) (by cases h; rfl)
  · refine rg_step 4 (G' := fun f => ev_after (evT f 74 0 [oR 100 0, oI x1, nn] [] s) (fun q => evT f 115 73 [oR 125 0, oI x1, oI x2, oI y0, nn] (q.2 ++ []) q.1)) (fun _ => rfl) (rg_bd1 h fun v1 hc h => rg_call (q := cvP s v1) (T_fItems_isFreeForLocker hc) ?_)
    refine rg_step 1 (G' := fun f => if v1 = 0 then evT f 115 76 [oR 125 0, oI x1, oI x2, oI y0, nn] [] s else evT f 115 79 [oR 125 0, oI x1, oI x2, oI y0, nn] [] s) (fun _ => rfl) (rg_if h (fun h => ?_) fun h => ?_)
    · exact rg_end 2 (fun _ => rfl) (by cases h; rfl)
    · refine rg_step 4 (G' := fun f => ev_after (evT f 114 0 [oR 125 0, oI x2, oI (cI (-1)), nn] [] s) (fun q => evT f 115 85 [oR 125 0, oI x1, oI x2, oI y0, nn] (q.2 ++ []) q.1)) (fun _ => rfl) (rg_bd1 h fun v2 hc h => rg_call (q := cvP s v2) (T_fLock_boxWith hc) ?_)
      refine rg_step 4 (G' := fun f => if v2 = (cI (-1)) then evT f 115 103 [oR 125 0, oI x1, oI x2, oI y0, oI v2] [] s else evT f 115 93 [oR 125 0, oI x1, oI x2, oI y0, oI v2] [] s) (fun _ => rfl) (rg_if h (fun h => ?_) fun h => ?_)
      · exact rg_end 2 (fun _ => rfl) (by cases h; rfl)
      · refine rg_step 3 (G' := fun f => ev_after (evT f 123 0 [oR 9 0, nn] [] s) (fun q => evT f 115 100 [oR 125 0, oI x1, oI x2, oI y0, oI v2] (q.2 ++ []) q.1)) (fun _ => rfl) (rg_bd2 h fun s3 v4 hc h => rg_call (q := cvI (s3, v4)) (T_fLog_admits hc) ?_)
        refine rg_step 1 (G' := fun f => if v4 = 0 then evT f 115 103 [oR 125 0, oI x1, oI x2, oI y0, oI v2] [] s3 else evT f 115 106 [oR 125 0, oI x1, oI x2, oI y0, oI v2] [] s3) (fun _ => rfl) (rg_if h (fun h => ?_) fun h => ?_)
        · exact rg_end 2 (fun _ => rfl) (by cases h; rfl)
        · refine rg_step 4 (G' := fun f => if inb x2 8 = true then evT f 115 112 [oR 125 0, oI x1, oI x2, oI y0, oI v2] [vR 130 (ix x2)] s3 else none) (fun _ => rfl) (rg_gd h fun h => ?_)
          refine rg_step 3 (G' := fun f => if inb v2 10 = true then evT f 115 116 [oR 125 0, oI x1, oI x2, oI y0, oI v2] [] (wI s3 (130 + (ix x2)) (ix v2) x1) else none) (fun _ => rfl) (rg_gd h fun h => rg_ltM h fun s5 h => ?_)
          refine rg_step 5 (G' := fun f => ev_after (evT f 57 0 [oR 100 0, oI x1, oI (cI 3)] [] s5) (fun q => evT f 115 125 [oR 125 0, oI x1, oI x2, oI y0, oI v2] (q.2 ++ []) q.1)) (fun _ => rfl) (rg_bd1 h fun s6 hc h => rg_call (q := cvV s6) (T_fItems_keepFor hc) ?_)
          refine rg_step 8 (G' := fun f => if inb x1 300 = true then evT f 115 138 [oR 125 0, oI x1, oI x2, oI y0, oI v2] [] (wI s6 (102 + (ix (cI 15))) (ix x1) x2) else none) (fun _ => rfl) (rg_gd h fun h => rg_ltM h fun s7 h => ?_)
          exact rg_end 2 (fun _ => rfl) (by cases h; rfl)
theorem t_fLock_fill_b59 {s : ev_M} {x1 : Int32} {x2 : Int32} {j3 : Option ev_V} {j4 : Option ev_V} {q : ev_M × Int32} (h : fLock_fill_b59 s x1 x2 = some q) : RR 115 59 [oR 125 0, oI x1, oI x2, j3, j4] [] s (cvI q) := by
  exact rg_step 1 (G' := fun f => evT f 115 60 [oR 125 0, oI x1, oI x2, nn, nn] [vI (cI 0)] s) (fun _ => rfl) ((t_fLock_fill_b60) h)
theorem T_fLock_fill {s : ev_M} {a1 : Int32} {a2 : Int32} {q : ev_M × Int32} (h : fLock_fill s a1 a2 = some q) : RR 115 0 [oR 125 0, oI a1, oI a2, nn, nn] [] s (cvI q) := by
  refine rg_step 4 (G' := fun f => ev_after (evT f 51 0 [oR 100 0, oI a1] [] s) (fun q => evT f 115 8 [oR 125 0, oI a1, oI a2, nn, nn] (q.2 ++ []) q.1)) (fun _ => rfl) (rg_bd1 h fun v8 hc h => rg_call (q := cvP s v8) (T_fItems_has hc) ?_)
  refine rg_step 1 (G' := fun f => if v8 = 0 then evT f 115 19 [oR 125 0, oI a1, oI a2, nn, nn] [] s else evT f 115 11 [oR 125 0, oI a1, oI a2, nn, nn] [] s) (fun _ => rfl) (rg_if h (fun h => ?_) fun h => ?_)
  · exact rg_end 2 (fun _ => rfl) (by cases h; rfl)
  · refine rg_step 3 (G' := fun f => ev_after (evT f 110 0 [oR 125 0, oI a2] [] s) (fun q => evT f 115 16 [oR 125 0, oI a1, oI a2, nn, nn] (q.2 ++ []) q.1)) (fun _ => rfl) (rg_bd1 h fun v9 hc h => rg_call (q := cvP s v9) (T_fLock_has hc) ?_)
    refine rg_step 1 (G' := fun f => if v9 = 0 then evT f 115 19 [oR 125 0, oI a1, oI a2, nn, nn] [] s else evT f 115 22 [oR 125 0, oI a1, oI a2, nn, nn] [] s) (fun _ => rfl) (rg_if h (fun h => ?_) fun h => ?_)
    · exact rg_end 2 (fun _ => rfl) (by cases h; rfl)
    · refine rg_step 5 (G' := fun f => ev_after (evT f 52 0 [oR 100 0, oI a1, oI (cI 4)] [] s) (fun q => evT f 115 31 [oR 125 0, oI a1, oI a2, nn, nn] (q.2 ++ []) q.1)) (fun _ => rfl) (rg_bd1 h fun v10 hc h => rg_call (q := cvP s v10) (T_fItems_is hc) ?_)
      refine rg_step 1 (G' := fun f => if v10 = 0 then evT f 115 59 [oR 125 0, oI a1, oI a2, nn, nn] [] s else evT f 115 34 [oR 125 0, oI a1, oI a2, nn, nn] [] s) (fun _ => rfl) (rg_if h (fun h => ?_) fun h => ?_)
      · exact (t_fLock_fill_b59) h
      · refine rg_step 7 (G' := fun f => if inb a1 300 = true then evT f 115 46 [oR 125 0, oI a1, oI a2, nn, nn] [vI (s.1 (102 + (ix (cI 8))) (ix a1))] s else none) (fun _ => rfl) (rg_gd h fun h => ?_)
        refine rg_step 4 (G' := fun f => if inb a2 8 = true then evT f 115 52 [oR 125 0, oI a1, oI a2, nn, nn] [vI (s.1 126 (ix a2)), vI (s.1 (102 + (ix (cI 8))) (ix a1))] s else none) (fun _ => rfl) (rg_gd h fun h => ?_)
        refine rg_step 1 (G' := fun f => if (s.1 (102 + (ix (cI 8))) (ix a1)) = (s.1 126 (ix a2)) then evT f 115 55 [oR 125 0, oI a1, oI a2, nn, nn] [] s else evT f 115 59 [oR 125 0, oI a1, oI a2, nn, nn] [] s) (fun _ => rfl) (rg_if h (fun h => ?_) fun h => ?_)
        · exact rg_step 2 (G' := fun f => evT f 115 60 [oR 125 0, oI a1, oI a2, nn, nn] [vI (cI 1)] s) (fun _ => rfl) ((t_fLock_fill_b60) h)
        · exact (t_fLock_fill_b59) h
theorem t_fItems_handAtPost_b27 {s : ev_M} {y1 : Int32} {y2 : Int32} {y3 : Int32} {y4 : Int32} {y5 : Int32} {j0 : Option ev_V} {j1 : Option ev_V} {j2 : Option ev_V} {j3 : Option ev_V} {j4 : Option ev_V} {q : ev_M × Int32} (h : fItems_handAtPost_b27 s y1 y2 y3 y4 y5 = some q) : RR 77 27 [j0, j1, j2, j3, j4] [vI y5, vI y4, vI y3, vI y2, vI y1, vR 100 0] s (cvI q) := by
  refine rg_step 1 (G' := fun f => ev_after (evT f 78 0 [oR 100 0, oI y1, oI y2, oI y3, oI y4, oI y5, nn, nn, nn] [] s) (fun q => evT f 77 30 [nn, nn, nn, nn, nn] (q.2 ++ []) q.1)) (fun _ => rfl) (rg_bd2 h fun s1 v2 hc h => rg_call (q := cvI (s1, v2)) (T_fItems_handOver hc) ?_)
  exact rg_end 1 (fun _ => rfl) (by cases h; rfl)
theorem t_fItems_handAtPost_b26 {s : ev_M} {y1 : Int32} {y2 : Int32} {y3 : Int32} {y4 : Int32} {j0 : Option ev_V} {j1 : Option ev_V} {j2 : Option ev_V} {j3 : Option ev_V} {j4 : Option ev_V} {q : ev_M × Int32} (h : fItems_handAtPost_b26 s y1 y2 y3 y4 = some q) : RR 77 26 [j0, j1, j2, j3, j4] [vI y4, vI y3, vI y2, vI y1, vR 100 0] s (cvI q) := by
  exact rg_step 1 (G' := fun f => evT f 77 27 [nn, nn, nn, nn, nn] [vI (cI 0), vI y4, vI y3, vI y2, vI y1, vR 100 0] s) (fun _ => rfl) ((t_fItems_handAtPost_b27) h)
theorem T_fItems_handAtPost {s : ev_M} {a1 : Int32} {a2 : Int32} {a3 : Int32} {a4 : Int32} {q : ev_M × Int32} (h : fItems_handAtPost s a1 a2 a3 a4 = some q) : RR 77 0 [oR 100 0, oI a1, oI a2, oI a3, oI a4] [] s (cvI q) := by
  refine rg_step 8 (G' := fun f => ev_after (evT f 51 0 [oR 100 0, oI a1] [] s) (fun q => evT f 77 11 [oR 100 0, oI a1, oI a2, oI a3, oI a4] (q.2 ++ [vI a4, vI a3, vI a2, vI a1, vR 100 0]) q.1)) (fun _ => rfl) (rg_bd1 h fun v3 hc h => rg_call (q := cvP s v3) (T_fItems_has hc) ?_)
  refine rg_step 1 (G' := fun f => if v3 = 0 then evT f 77 26 [oR 100 0, oI a1, oI a2, oI a3, oI a4] [vI a4, vI a3, vI a2, vI a1, vR 100 0] s else evT f 77 14 [oR 100 0, oI a1, oI a2, oI a3, oI a4] [vI a4, vI a3, vI a2, vI a1, vR 100 0] s) (fun _ => rfl) (rg_if h (fun h => ?_) fun h => ?_)
  · exact (t_fItems_handAtPost_b26) h
  · refine rg_step 3 (G' := fun f => ev_after (evT f 62 0 [oR 100 0, oI a1] [] s) (fun q => evT f 77 19 [oR 100 0, oI a1, oI a2, oI a3, oI a4] (q.2 ++ [vI a4, vI a3, vI a2, vI a1, vR 100 0]) q.1)) (fun _ => rfl) (rg_bd1 h fun v4 hc h => rg_call (q := cvP s v4) (T_fItems_isHeldAtPost hc) ?_)
    refine rg_step 1 (G' := fun f => if v4 = 0 then evT f 77 26 [oR 100 0, oI a1, oI a2, oI a3, oI a4] [vI a4, vI a3, vI a2, vI a1, vR 100 0] s else evT f 77 22 [oR 100 0, oI a1, oI a2, oI a3, oI a4] [vI a4, vI a3, vI a2, vI a1, vR 100 0] s) (fun _ => rfl) (rg_if h (fun h => ?_) fun h => ?_)
    · exact (t_fItems_handAtPost_b26) h
    · exact rg_step 2 (G' := fun f => evT f 77 27 [oR 100 0, oI a1, oI a2, oI a3, oI a4] [vI (cI 1), vI a4, vI a3, vI a2, vI a1, vR 100 0] s) (fun _ => rfl) ((t_fItems_handAtPost_b27) h)
theorem T_fLock_keyOf {s : ev_M} {a0 : Int32} {q : Int32} (h : fLock_keyOf s a0 = some q) : RR 117 0 [oI a0] [] s (cvP s q) := by
  refine rg_step 12 (G' := fun f => if (cI 9000) = 0 then none else evT f 117 20 [oI a0] [vI (irem (iushr (((a0 + (cI 1)) * (cI 1103515245)) + (cI 12345)) (cI 16)) (cI 9000)), vI (cI 1000)] s) (fun _ => rfl) (rg_dv h fun h => ?_)
  exact rg_end 2 (fun _ => rfl) (by cases h; rfl)
theorem t_fLock_tryKey_b96 {k39 : ev_M → Int32 → Int32 → Int32 → Option (ev_M × Int32)} (hk39 : ∀ {s : ev_M} {x1 : Int32} {x2 : Int32} {x3 : Int32} {j4 : Option ev_V} {q : ev_M × Int32}, k39 s x1 x2 x3 = some q → RR 116 39 [oR 125 0, oI x1, oI x2, oI x3, j4] [] s (cvI q)) {s : ev_M} {x1 : Int32} {x2 : Int32} {x3 : Int32} {j4 : Option ev_V} {q : ev_M × Int32} (h : fLock_tryKey_b96 k39 s x1 x2 x3 = some q) : RR 116 96 [oR 125 0, oI x1, oI x2, oI x3, j4] [] s (cvI q) := by
  exact rg_step 2 (G' := fun f => evT f 116 39 [oR 125 0, oI x1, oI x2, oI (x3 + cI 1), nn] [] s) (fun _ => rfl) (hk39 h)
theorem ti_fLock_tryKey_h39 : ∀ (n : Nat) (s : ev_M) (x1 : Int32) (x2 : Int32) (x3 : Int32) (j4 : Option ev_V) (q : ev_M × Int32), fLock_tryKey_h39 n s x1 x2 x3 = some q → RR 116 39 [oR 125 0, oI x1, oI x2, oI x3, j4] [] s (cvI q) := by
  intro n
  induction n with
  | zero => intro s x1 x2 x3 j4 q h; cases h
  | succ n ih =>
    have hk39 : ∀ {s : ev_M} {x1 : Int32} {x2 : Int32} {x3 : Int32} {j4 : Option ev_V} {q : ev_M × Int32}, fLock_tryKey_h39 n s x1 x2 x3 = some q → RR 116 39 [oR 125 0, oI x1, oI x2, oI x3, j4] [] s (cvI q) := fun h => ih _ _ _ _ _ _ h
    intro s x1 x2 x3 j4 q h
    refine rg_step 5 (G' := fun f => if inb x1 8 = true then evT f 116 46 [oR 125 0, oI x1, oI x2, oI x3, nn] [vI (s.1 127 (ix x1)), vI x3] s else none) (fun _ => rfl) (rg_gd h fun h => ?_)
    refine rg_step 1 (G' := fun f => if x3 < (s.1 127 (ix x1)) then evT f 116 49 [oR 125 0, oI x1, oI x2, oI x3, nn] [] s else evT f 116 102 [oR 125 0, oI x1, oI x2, oI x3, nn] [] s) (fun _ => rfl) (rg_if h (fun h => ?_) fun h => ?_)
    · refine rg_step 4 (G' := fun f => if inb x1 8 = true then evT f 116 55 [oR 125 0, oI x1, oI x2, oI x3, nn] [vR 130 (ix x1)] s else none) (fun _ => rfl) (rg_gd h fun h => ?_)
      refine rg_step 2 (G' := fun f => if inb x3 10 = true then evT f 116 57 [oR 125 0, oI x1, oI x2, oI x3, nn] [vI (s.1 (130 + (ix x1)) (ix x3))] s else none) (fun _ => rfl) (rg_gd h fun h => ?_)
      refine rg_step 1 (G' := fun f => evT f 116 59 [oR 125 0, oI x1, oI x2, oI x3, oI (s.1 (130 + (ix x1)) (ix x3))] [] s) (fun _ => rfl) (rg_ltI (P := fun v1 => RG (fun f => evT f 116 59 [oR 125 0, oI x1, oI x2, oI x3, oI v1] [] s) (cvI q)) h fun v1 h => ?_)
      refine rg_step 3 (G' := fun f => if v1 = (cI (-1)) then evT f 116 96 [oR 125 0, oI x1, oI x2, oI x3, oI v1] [] s else evT f 116 65 [oR 125 0, oI x1, oI x2, oI x3, oI v1] [] s) (fun _ => rfl) (rg_if h (fun h => ?_) fun h => ?_)
      · exact (t_fLock_tryKey_b96 hk39) h
      · refine rg_step 2 (G' := fun f => ev_after (evT f 117 0 [oI v1] [] s) (fun q => evT f 116 70 [oR 125 0, oI x1, oI x2, oI x3, oI v1] (q.2 ++ []) q.1)) (fun _ => rfl) (rg_bd1 h fun v2 hc h => rg_call (q := cvP s v2) (T_fLock_keyOf hc) ?_)
        refine rg_step 2 (G' := fun f => if v2 = x2 then evT f 116 74 [oR 125 0, oI x1, oI x2, oI x3, oI v1] [] s else evT f 116 96 [oR 125 0, oI x1, oI x2, oI x3, oI v1] [] s) (fun _ => rfl) (rg_if h (fun h => ?_) fun h => ?_)
        · refine rg_step 4 (G' := fun f => if inb x1 8 = true then evT f 116 80 [oR 125 0, oI x1, oI x2, oI x3, oI v1] [vR 130 (ix x1)] s else none) (fun _ => rfl) (rg_gd h fun h => ?_)
          refine rg_step 3 (G' := fun f => if inb x3 10 = true then evT f 116 83 [oR 125 0, oI x1, oI x2, oI x3, oI v1] [] (wI s (130 + (ix x1)) (ix x3) (cI (-1))) else none) (fun _ => rfl) (rg_gd h fun h => rg_ltM h fun s3 h => ?_)
          refine rg_step 5 (G' := fun f => ev_after (evT f 55 0 [oR 100 0, oI v1, oI (cI 5)] [] s3) (fun q => evT f 116 93 [oR 125 0, oI x1, oI x2, oI x3, oI v1] (q.2 ++ []) q.1)) (fun _ => rfl) (rg_bd1 h fun s4 hc h => rg_call (q := cvV s4) (T_fItems_come hc) ?_)
          exact rg_end 2 (fun _ => rfl) (by cases h; rfl)
        · exact (t_fLock_tryKey_b96 hk39) h
    · refine rg_step 5 (G' := fun f => if inb x1 8 = true then evT f 116 109 [oR 125 0, oI x1, oI x2, oI x3, nn] [vI (s.1 128 (ix x1)), vI x1, vR 128 0] s else none) (fun _ => rfl) (rg_gd h fun h => ?_)
      refine rg_step 3 (G' := fun f => if inb x1 8 = true then evT f 116 112 [oR 125 0, oI x1, oI x2, oI x3, nn] [] (wI s 128 (ix x1) ((s.1 128 (ix x1)) + (cI 1))) else none) (fun _ => rfl) (rg_gd h fun h => rg_ltM h fun s5 h => ?_)
      exact rg_end 2 (fun _ => rfl) (by cases h; rfl)
theorem t_fLock_tryKey_h39 {n : Nat} {s : ev_M} {x1 : Int32} {x2 : Int32} {x3 : Int32} {j4 : Option ev_V} {q : ev_M × Int32} (h : fLock_tryKey_h39 n s x1 x2 x3 = some q) : RR 116 39 [oR 125 0, oI x1, oI x2, oI x3, j4] [] s (cvI q) := ti_fLock_tryKey_h39 n s x1 x2 x3 j4 q h
theorem T_fLock_tryKey {s : ev_M} {a1 : Int32} {a2 : Int32} {q : ev_M × Int32} (h : fLock_tryKey s a1 a2 = some q) : RR 116 0 [oR 125 0, oI a1, oI a2, nn, nn] [] s (cvI q) := by
  refine rg_step 3 (G' := fun f => ev_after (evT f 110 0 [oR 125 0, oI a1] [] s) (fun q => evT f 116 5 [oR 125 0, oI a1, oI a2, nn, nn] (q.2 ++ []) q.1)) (fun _ => rfl) (rg_bd1 h fun v6 hc h => rg_call (q := cvP s v6) (T_fLock_has hc) ?_)
  refine rg_step 1 (G' := fun f => if v6 = 0 then evT f 116 8 [oR 125 0, oI a1, oI a2, nn, nn] [] s else evT f 116 11 [oR 125 0, oI a1, oI a2, nn, nn] [] s) (fun _ => rfl) (rg_if h (fun h => ?_) fun h => ?_)
  · exact rg_end 2 (fun _ => rfl) (by cases h; rfl)
  · refine rg_step 4 (G' := fun f => if inb a1 8 = true then evT f 116 17 [oR 125 0, oI a1, oI a2, nn, nn] [vI (s.1 128 (ix a1))] s else none) (fun _ => rfl) (rg_gd h fun h => ?_)
    refine rg_step 2 (G' := fun f => if (s.1 128 (ix a1)) < (cI 3) then evT f 116 24 [oR 125 0, oI a1, oI a2, nn, nn] [] s else evT f 116 21 [oR 125 0, oI a1, oI a2, nn, nn] [] s) (fun _ => rfl) (rg_if h (fun h => ?_) fun h => ?_)
    · refine rg_step 3 (G' := fun f => ev_after (evT f 123 0 [oR 9 0, nn] [] s) (fun q => evT f 116 31 [oR 125 0, oI a1, oI a2, nn, nn] (q.2 ++ []) q.1)) (fun _ => rfl) (rg_bd2 h fun s7 v8 hc h => rg_call (q := cvI (s7, v8)) (T_fLog_admits hc) ?_)
      refine rg_step 1 (G' := fun f => if v8 = 0 then evT f 116 34 [oR 125 0, oI a1, oI a2, nn, nn] [] s7 else evT f 116 37 [oR 125 0, oI a1, oI a2, nn, nn] [] s7) (fun _ => rfl) (rg_if h (fun h => ?_) fun h => ?_)
      · exact rg_end 2 (fun _ => rfl) (by cases h; rfl)
      · exact rg_step 2 (G' := fun f => evT f 116 39 [oR 125 0, oI a1, oI a2, oI (cI 0), nn] [] s7) (fun _ => rfl) ((t_fLock_tryKey_h39) h)
    · exact rg_end 2 (fun _ => rfl) (by cases h; rfl)
theorem t_fItems_isEnded_b29 {s : ev_M} {j0 : Option ev_V} {j1 : Option ev_V} {q : Int32} (h : fItems_isEnded_b29 s = some q) : RR 60 29 [j0, j1] [] s (cvP s q) := by
  exact rg_end 3 (fun _ => rfl) (by cases h; rfl)
theorem T_fItems_isEnded {s : ev_M} {a1 : Int32} {q : Int32} (h : fItems_isEnded s a1 = some q) : RR 60 0 [oR 100 0, oI a1] [] s (cvP s q) := by
  refine rg_step 4 (G' := fun f => ev_after (evT f 52 0 [oR 100 0, oI a1, oI (cI 5)] [] s) (fun q => evT f 60 6 [oR 100 0, oI a1] (q.2 ++ []) q.1)) (fun _ => rfl) (rg_bd1 h fun v1 hc h => rg_call (q := cvP s v1) (T_fItems_is hc) ?_)
  refine rg_step 1 (G' := fun f => if v1 = 0 then evT f 60 9 [oR 100 0, oI a1] [] s else evT f 60 29 [oR 100 0, oI a1] [] s) (fun _ => rfl) (rg_if h (fun h => ?_) fun h => ?_)
  · refine rg_step 4 (G' := fun f => ev_after (evT f 52 0 [oR 100 0, oI a1, oI (cI 7)] [] s) (fun q => evT f 60 16 [oR 100 0, oI a1] (q.2 ++ []) q.1)) (fun _ => rfl) (rg_bd1 h fun v2 hc h => rg_call (q := cvP s v2) (T_fItems_is hc) ?_)
    refine rg_step 1 (G' := fun f => if v2 = 0 then evT f 60 19 [oR 100 0, oI a1] [] s else evT f 60 29 [oR 100 0, oI a1] [] s) (fun _ => rfl) (rg_if h (fun h => ?_) fun h => ?_)
    · refine rg_step 4 (G' := fun f => ev_after (evT f 52 0 [oR 100 0, oI a1, oI (cI 8)] [] s) (fun q => evT f 60 26 [oR 100 0, oI a1] (q.2 ++ []) q.1)) (fun _ => rfl) (rg_bd1 h fun v3 hc h => rg_call (q := cvP s v3) (T_fItems_is hc) ?_)
      refine rg_step 1 (G' := fun f => if v3 = 0 then evT f 60 33 [oR 100 0, oI a1] [] s else evT f 60 29 [oR 100 0, oI a1] [] s) (fun _ => rfl) (rg_if h (fun h => ?_) fun h => ?_)
      · exact rg_end 2 (fun _ => rfl) (by cases h; rfl)
      · exact (t_fItems_isEnded_b29) h
    · exact (t_fItems_isEnded_b29) h
  · exact (t_fItems_isEnded_b29) h
theorem t_fPH_without_466_b36 {k5 : ev_M → Nat → Int32 → Int32 → Int32 → Int32 → Option (ev_M × Int32)} (hk5 : ∀ {s : ev_M} {i0 : Nat} {x1 : Int32} {x2 : Int32} {x3 : Int32} {x4 : Int32} {q : ev_M × Int32}, k5 s i0 x1 x2 x3 x4 = some q → RR 309 5 [oR 466 i0, oI x1, oI x2, oI x3, oI x4] [] s (cvI q)) {s : ev_M} {i0 : Nat} {x1 : Int32} {x2 : Int32} {x3 : Int32} {x4 : Int32} {q : ev_M × Int32} (h : fPH_without_466_b36 k5 s i0 x1 x2 x3 x4 = some q) : RR 309 36 [oR 466 i0, oI x1, oI x2, oI x3, oI x4] [] s (cvI q) := by
  exact rg_step 2 (G' := fun f => evT f 309 5 [oR 466 i0, oI x1, oI x2, oI x3, oI (x4 + cI 1)] [] s) (fun _ => rfl) (hk5 h)
theorem ti_fPH_without_466_h5 : ∀ (n : Nat) (s : ev_M) (i0 : Nat) (x1 : Int32) (x2 : Int32) (x3 : Int32) (x4 : Int32) (q : ev_M × Int32), fPH_without_466_h5 n s i0 x1 x2 x3 x4 = some q → RR 309 5 [oR 466 i0, oI x1, oI x2, oI x3, oI x4] [] s (cvI q) := by
  intro n
  induction n with
  | zero => intro s i0 x1 x2 x3 x4 q h; cases h
  | succ n ih =>
    have hk5 : ∀ {s : ev_M} {i0 : Nat} {x1 : Int32} {x2 : Int32} {x3 : Int32} {x4 : Int32} {q : ev_M × Int32}, fPH_without_466_h5 n s i0 x1 x2 x3 x4 = some q → RR 309 5 [oR 466 i0, oI x1, oI x2, oI x3, oI x4] [] s (cvI q) := fun h => ih _ _ _ _ _ _ _ h
    intro s i0 x1 x2 x3 x4 q h
    refine rg_step 3 (G' := fun f => if x4 < x1 then evT f 309 11 [oR 466 i0, oI x1, oI x2, oI x3, oI x4] [] s else evT f 309 42 [oR 466 i0, oI x1, oI x2, oI x3, oI x4] [] s) (fun _ => rfl) (rg_if h (fun h => ?_) fun h => ?_)
    · refine rg_step 4 (G' := fun f => if x4 < (cI 40) then evT f 309 18 [oR 466 i0, oI x1, oI x2, oI x3, oI x4] [] s else evT f 309 42 [oR 466 i0, oI x1, oI x2, oI x3, oI x4] [] s) (fun _ => rfl) (rg_if h (fun h => ?_) fun h => ?_)
      · refine rg_step 3 (G' := fun f => if inb x4 40 = true then evT f 309 22 [oR 466 i0, oI x1, oI x2, oI x3, oI x4] [vI (s.1 (466 + i0) (ix x4))] s else none) (fun _ => rfl) (rg_gd h fun h => ?_)
        refine rg_step 2 (G' := fun f => if (s.1 (466 + i0) (ix x4)) = x2 then evT f 309 36 [oR 466 i0, oI x1, oI x2, oI x3, oI x4] [] s else evT f 309 26 [oR 466 i0, oI x1, oI x2, oI x3, oI x4] [] s) (fun _ => rfl) (rg_if h (fun h => ?_) fun h => ?_)
        · exact (t_fPH_without_466_b36 hk5) h
        · refine rg_step 6 (G' := fun f => if inb x4 40 = true then evT f 309 35 [oR 466 i0, oI x1, oI x2, oI (x3 + cI 1), oI x4] [vI (s.1 (466 + i0) (ix x4)), vI x3, vR 466 i0] s else none) (fun _ => rfl) (rg_gd h fun h => ?_)
          refine rg_step 1 (G' := fun f => if inb x3 40 = true then evT f 309 36 [oR 466 i0, oI x1, oI x2, oI (x3 + cI 1), oI x4] [] (wI s (466 + i0) (ix x3) (s.1 (466 + i0) (ix x4))) else none) (fun _ => rfl) (rg_gd h fun h => rg_ltM h fun s1 h => ?_)
          exact (t_fPH_without_466_b36 hk5) h
      · exact rg_end 2 (fun _ => rfl) (by cases h; rfl)
    · exact rg_end 2 (fun _ => rfl) (by cases h; rfl)
theorem t_fPH_without_466_h5 {n : Nat} {s : ev_M} {i0 : Nat} {x1 : Int32} {x2 : Int32} {x3 : Int32} {x4 : Int32} {q : ev_M × Int32} (h : fPH_without_466_h5 n s i0 x1 x2 x3 x4 = some q) : RR 309 5 [oR 466 i0, oI x1, oI x2, oI x3, oI x4] [] s (cvI q) := ti_fPH_without_466_h5 n s i0 x1 x2 x3 x4 q h
theorem T_fPH_without_466 {s : ev_M} {i0 : Nat} {a1 : Int32} {a2 : Int32} {q : ev_M × Int32} (h : fPH_without_466 s i0 a1 a2 = some q) : RR 309 0 [oR 466 i0, oI a1, oI a2, nn, nn] [] s (cvI q) := by
  exact rg_step 4 (G' := fun f => evT f 309 5 [oR 466 i0, oI a1, oI a2, oI (cI 0), oI (cI 0)] [] s) (fun _ => rfl) ((t_fPH_without_466_h5) h)
theorem T_fLines_drop {s : ev_M} {a1 : Int32} {q : ev_M} (h : fLines_drop s a1 = some q) : RR 96 0 [oR 449 0, oI a1, nn] [] s (cvV q) := by
  refine rg_step 7 (G' := fun f => if inb a1 300 = true then evT f 96 12 [oR 449 0, oI a1, nn] [vI (s.1 (102 + (ix (cI 9))) (ix a1))] s else none) (fun _ => rfl) (rg_gd h fun h => ?_)
  refine rg_step 1 (G' := fun f => evT f 96 13 [oR 449 0, oI a1, oI (s.1 (102 + (ix (cI 9))) (ix a1))] [] s) (fun _ => rfl) (rg_ltI (P := fun v1 => RG (fun f => evT f 96 13 [oR 449 0, oI a1, oI v1] [] s) (cvV q)) h fun v1 h => ?_)
  refine rg_step 3 (G' := fun f => ev_after (evT f 87 0 [oR 449 0, oI v1] [] s) (fun q => evT f 96 18 [oR 449 0, oI a1, oI v1] (q.2 ++ []) q.1)) (fun _ => rfl) (rg_bd1 h fun v2 hc h => rg_call (q := cvP s v2) (T_fLines_hasBag hc) ?_)
  refine rg_step 1 (G' := fun f => if v2 = 0 then evT f 96 47 [oR 449 0, oI a1, oI v1] [] s else evT f 96 21 [oR 449 0, oI a1, oI v1] [] s) (fun _ => rfl) (rg_if h (fun h => ?_) fun h => ?_)
  · exact rg_end 1 (fun _ => rfl) (by cases h; rfl)
  · refine rg_step 9 (G' := fun f => if inb v1 80 = true then evT f 96 34 [oR 449 0, oI a1, oI v1] [vR 466 (ix v1), vI v1, vR 459 (ix (cI 3))] s else none) (fun _ => rfl) (rg_gd h fun h => ?_)
    refine rg_step 6 (G' := fun f => if inb v1 80 = true then evT f 96 42 [oR 449 0, oI a1, oI v1] [vI (s.1 (459 + (ix (cI 3))) (ix v1)), vR 466 (ix v1), vI v1, vR 459 (ix (cI 3))] s else none) (fun _ => rfl) (rg_gd h fun h => ?_)
    refine rg_step 2 (G' := fun f => ev_after (evT f 309 0 [oR 466 (ix v1), oI (s.1 (459 + (ix (cI 3))) (ix v1)), oI a1, nn, nn] [] s) (fun q => evT f 96 46 [oR 449 0, oI a1, oI v1] (q.2 ++ [vI v1, vR 459 (ix (cI 3))]) q.1)) (fun _ => rfl) (rg_bd2 h fun s3 v4 hc h => rg_call (q := cvI (s3, v4)) (T_fPH_without_466 hc) ?_)
    refine rg_step 1 (G' := fun f => if inb v1 80 = true then evT f 96 47 [oR 449 0, oI a1, oI v1] [] (wI s3 (459 + (ix (cI 3))) (ix v1) v4) else none) (fun _ => rfl) (rg_gd h fun h => rg_ltM h fun s5 h => ?_)
    exact rg_end 1 (fun _ => rfl) (by cases h; rfl)
theorem t_fPH_without_160_b36 {k5 : ev_M → Nat → Int32 → Int32 → Int32 → Int32 → Option (ev_M × Int32)} (hk5 : ∀ {s : ev_M} {i0 : Nat} {x1 : Int32} {x2 : Int32} {x3 : Int32} {x4 : Int32} {q : ev_M × Int32}, k5 s i0 x1 x2 x3 x4 = some q → RR 309 5 [oR 160 i0, oI x1, oI x2, oI x3, oI x4] [] s (cvI q)) {s : ev_M} {i0 : Nat} {x1 : Int32} {x2 : Int32} {x3 : Int32} {x4 : Int32} {q : ev_M × Int32} (h : fPH_without_160_b36 k5 s i0 x1 x2 x3 x4 = some q) : RR 309 36 [oR 160 i0, oI x1, oI x2, oI x3, oI x4] [] s (cvI q) := by
  exact rg_step 2 (G' := fun f => evT f 309 5 [oR 160 i0, oI x1, oI x2, oI x3, oI (x4 + cI 1)] [] s) (fun _ => rfl) (hk5 h)
theorem ti_fPH_without_160_h5 : ∀ (n : Nat) (s : ev_M) (i0 : Nat) (x1 : Int32) (x2 : Int32) (x3 : Int32) (x4 : Int32) (q : ev_M × Int32), fPH_without_160_h5 n s i0 x1 x2 x3 x4 = some q → RR 309 5 [oR 160 i0, oI x1, oI x2, oI x3, oI x4] [] s (cvI q) := by
  intro n
  induction n with
  | zero => intro s i0 x1 x2 x3 x4 q h; cases h
  | succ n ih =>
    have hk5 : ∀ {s : ev_M} {i0 : Nat} {x1 : Int32} {x2 : Int32} {x3 : Int32} {x4 : Int32} {q : ev_M × Int32}, fPH_without_160_h5 n s i0 x1 x2 x3 x4 = some q → RR 309 5 [oR 160 i0, oI x1, oI x2, oI x3, oI x4] [] s (cvI q) := fun h => ih _ _ _ _ _ _ _ h
    intro s i0 x1 x2 x3 x4 q h
    refine rg_step 3 (G' := fun f => if x4 < x1 then evT f 309 11 [oR 160 i0, oI x1, oI x2, oI x3, oI x4] [] s else evT f 309 42 [oR 160 i0, oI x1, oI x2, oI x3, oI x4] [] s) (fun _ => rfl) (rg_if h (fun h => ?_) fun h => ?_)
    · refine rg_step 4 (G' := fun f => if x4 < (cI 300) then evT f 309 18 [oR 160 i0, oI x1, oI x2, oI x3, oI x4] [] s else evT f 309 42 [oR 160 i0, oI x1, oI x2, oI x3, oI x4] [] s) (fun _ => rfl) (rg_if h (fun h => ?_) fun h => ?_)
      · refine rg_step 3 (G' := fun f => if inb x4 300 = true then evT f 309 22 [oR 160 i0, oI x1, oI x2, oI x3, oI x4] [vI (s.1 (160 + i0) (ix x4))] s else none) (fun _ => rfl) (rg_gd h fun h => ?_)
        refine rg_step 2 (G' := fun f => if (s.1 (160 + i0) (ix x4)) = x2 then evT f 309 36 [oR 160 i0, oI x1, oI x2, oI x3, oI x4] [] s else evT f 309 26 [oR 160 i0, oI x1, oI x2, oI x3, oI x4] [] s) (fun _ => rfl) (rg_if h (fun h => ?_) fun h => ?_)
        · exact (t_fPH_without_160_b36 hk5) h
        · refine rg_step 6 (G' := fun f => if inb x4 300 = true then evT f 309 35 [oR 160 i0, oI x1, oI x2, oI (x3 + cI 1), oI x4] [vI (s.1 (160 + i0) (ix x4)), vI x3, vR 160 i0] s else none) (fun _ => rfl) (rg_gd h fun h => ?_)
          refine rg_step 1 (G' := fun f => if inb x3 300 = true then evT f 309 36 [oR 160 i0, oI x1, oI x2, oI (x3 + cI 1), oI x4] [] (wI s (160 + i0) (ix x3) (s.1 (160 + i0) (ix x4))) else none) (fun _ => rfl) (rg_gd h fun h => rg_ltM h fun s1 h => ?_)
          exact (t_fPH_without_160_b36 hk5) h
      · exact rg_end 2 (fun _ => rfl) (by cases h; rfl)
    · exact rg_end 2 (fun _ => rfl) (by cases h; rfl)
theorem t_fPH_without_160_h5 {n : Nat} {s : ev_M} {i0 : Nat} {x1 : Int32} {x2 : Int32} {x3 : Int32} {x4 : Int32} {q : ev_M × Int32} (h : fPH_without_160_h5 n s i0 x1 x2 x3 x4 = some q) : RR 309 5 [oR 160 i0, oI x1, oI x2, oI x3, oI x4] [] s (cvI q) := ti_fPH_without_160_h5 n s i0 x1 x2 x3 x4 q h
theorem T_fPH_without_160 {s : ev_M} {i0 : Nat} {a1 : Int32} {a2 : Int32} {q : ev_M × Int32} (h : fPH_without_160 s i0 a1 a2 = some q) : RR 309 0 [oR 160 i0, oI a1, oI a2, nn, nn] [] s (cvI q) := by
  exact rg_step 4 (G' := fun f => evT f 309 5 [oR 160 i0, oI a1, oI a2, oI (cI 0), oI (cI 0)] [] s) (fun _ => rfl) ((t_fPH_without_160_h5) h)
theorem ti_fRounds_drop_h15 : ∀ (n : Nat) (s : ev_M) (x1 : Int32) (x2 : Int32) (q : ev_M), fRounds_drop_h15 n s x1 x2 = some q → RR 193 15 [oR 138 0, oI x1, oI x2] [] s (cvV q) := by
  intro n
  induction n with
  | zero => intro s x1 x2 q h; cases h
  | succ n ih =>
    have hk15 : ∀ {s : ev_M} {x1 : Int32} {x2 : Int32} {q : ev_M}, fRounds_drop_h15 n s x1 x2 = some q → RR 193 15 [oR 138 0, oI x1, oI x2] [] s (cvV q) := fun h => ih _ _ _ _ h
    intro s x1 x2 q h
    refine rg_step 4 (G' := fun f => if x2 < (s.1 138 3) then evT f 193 23 [oR 138 0, oI x1, oI x2] [] s else evT f 193 55 [oR 138 0, oI x1, oI x2] [] s) (fun _ => rfl) (rg_if h (fun h => ?_) fun h => ?_)
    · refine rg_step 9 (G' := fun f => if inb x2 12 = true then evT f 193 36 [oR 138 0, oI x1, oI x2] [vR 160 (ix x2), vI x2, vR 140 (ix (cI 4))] s else none) (fun _ => rfl) (rg_gd h fun h => ?_)
      refine rg_step 6 (G' := fun f => if inb x2 12 = true then evT f 193 44 [oR 138 0, oI x1, oI x2] [vI (s.1 (140 + (ix (cI 4))) (ix x2)), vR 160 (ix x2), vI x2, vR 140 (ix (cI 4))] s else none) (fun _ => rfl) (rg_gd h fun h => ?_)
      refine rg_step 2 (G' := fun f => ev_after (evT f 309 0 [oR 160 (ix x2), oI (s.1 (140 + (ix (cI 4))) (ix x2)), oI x1, nn, nn] [] s) (fun q => evT f 193 48 [oR 138 0, oI x1, oI x2] (q.2 ++ [vI x2, vR 140 (ix (cI 4))]) q.1)) (fun _ => rfl) (rg_bd2 h fun s1 v2 hc h => rg_call (q := cvI (s1, v2)) (T_fPH_without_160 hc) ?_)
      refine rg_step 1 (G' := fun f => if inb x2 12 = true then evT f 193 49 [oR 138 0, oI x1, oI x2] [] (wI s1 (140 + (ix (cI 4))) (ix x2) v2) else none) (fun _ => rfl) (rg_gd h fun h => rg_ltM h fun s3 h => ?_)
      exact rg_step 2 (G' := fun f => evT f 193 15 [oR 138 0, oI x1, oI (x2 + cI 1)] [] s3) (fun _ => rfl) (hk15 h)
    · exact rg_end 1 (fun _ => rfl) (by cases h; rfl)
theorem t_fRounds_drop_h15 {n : Nat} {s : ev_M} {x1 : Int32} {x2 : Int32} {q : ev_M} (h : fRounds_drop_h15 n s x1 x2 = some q) : RR 193 15 [oR 138 0, oI x1, oI x2] [] s (cvV q) := ti_fRounds_drop_h15 n s x1 x2 q h
theorem T_fRounds_drop {s : ev_M} {a1 : Int32} {q : ev_M} (h : fRounds_drop s a1 = some q) : RR 193 0 [oR 138 0, oI a1, nn] [] s (cvV q) := by
  refine rg_step 5 (G' := fun f => ev_after (evT f 52 0 [oR 100 0, oI a1, oI (cI 3)] [] s) (fun q => evT f 193 9 [oR 138 0, oI a1, nn] (q.2 ++ []) q.1)) (fun _ => rfl) (rg_bd1 h fun v4 hc h => rg_call (q := cvP s v4) (T_fItems_is hc) ?_)
  refine rg_step 1 (G' := fun f => if v4 = 0 then evT f 193 12 [oR 138 0, oI a1, nn] [] s else evT f 193 13 [oR 138 0, oI a1, nn] [] s) (fun _ => rfl) (rg_if h (fun h => ?_) fun h => ?_)
  · exact rg_end 1 (fun _ => rfl) (by cases h; rfl)
  · exact rg_step 2 (G' := fun f => evT f 193 15 [oR 138 0, oI a1, oI (cI 0)] [] s) (fun _ => rfl) ((t_fRounds_drop_h15) h)
theorem T_fLock_drop {s : ev_M} {a1 : Int32} {q : ev_M} (h : fLock_drop s a1 = some q) : RR 118 0 [oR 125 0, oI a1, nn, nn] [] s (cvV q) := by
  refine rg_step 7 (G' := fun f => if inb a1 300 = true then evT f 118 12 [oR 125 0, oI a1, nn, nn] [vI (s.1 (102 + (ix (cI 15))) (ix a1))] s else none) (fun _ => rfl) (rg_gd h fun h => ?_)
  refine rg_step 1 (G' := fun f => evT f 118 13 [oR 125 0, oI a1, oI (s.1 (102 + (ix (cI 15))) (ix a1)), nn] [] s) (fun _ => rfl) (rg_ltI (P := fun v1 => RG (fun f => evT f 118 13 [oR 125 0, oI a1, oI v1, nn] [] s) (cvV q)) h fun v1 h => ?_)
  refine rg_step 3 (G' := fun f => ev_after (evT f 110 0 [oR 125 0, oI v1] [] s) (fun q => evT f 118 18 [oR 125 0, oI a1, oI v1, nn] (q.2 ++ []) q.1)) (fun _ => rfl) (rg_bd1 h fun v2 hc h => rg_call (q := cvP s v2) (T_fLock_has hc) ?_)
  refine rg_step 1 (G' := fun f => if v2 = 0 then evT f 118 21 [oR 125 0, oI a1, oI v1, nn] [] s else evT f 118 22 [oR 125 0, oI a1, oI v1, nn] [] s) (fun _ => rfl) (rg_if h (fun h => ?_) fun h => ?_)
  · exact rg_end 1 (fun _ => rfl) (by cases h; rfl)
  · refine rg_step 4 (G' := fun f => ev_after (evT f 114 0 [oR 125 0, oI v1, oI a1, nn] [] s) (fun q => evT f 118 28 [oR 125 0, oI a1, oI v1, nn] (q.2 ++ []) q.1)) (fun _ => rfl) (rg_bd1 h fun v3 hc h => rg_call (q := cvP s v3) (T_fLock_boxWith hc) ?_)
    refine rg_step 4 (G' := fun f => if v3 = (cI (-1)) then evT f 118 43 [oR 125 0, oI a1, oI v1, oI v3] [] s else evT f 118 34 [oR 125 0, oI a1, oI v1, oI v3] [] s) (fun _ => rfl) (rg_if h (fun h => ?_) fun h => ?_)
    · exact rg_end 1 (fun _ => rfl) (by cases h; rfl)
    · refine rg_step 4 (G' := fun f => if inb v1 8 = true then evT f 118 40 [oR 125 0, oI a1, oI v1, oI v3] [vR 130 (ix v1)] s else none) (fun _ => rfl) (rg_gd h fun h => ?_)
      refine rg_step 3 (G' := fun f => if inb v3 10 = true then evT f 118 43 [oR 125 0, oI a1, oI v1, oI v3] [] (wI s (130 + (ix v1)) (ix v3) (cI (-1))) else none) (fun _ => rfl) (rg_gd h fun h => rg_ltM h fun s4 h => ?_)
      exact rg_end 1 (fun _ => rfl) (by cases h; rfl)
theorem T_fPH_loseItem {s : ev_M} {a1 : Int32} {q : ev_M × Int32} (h : fPH_loseItem s a1 = some q) : RR 305 0 [oR 0 0, oI a1] [] s (cvI q) := by
  refine rg_step 4 (G' := fun f => ev_after (evT f 51 0 [oR 100 0, oI a1] [] s) (fun q => evT f 305 8 [oR 0 0, oI a1] (q.2 ++ []) q.1)) (fun _ => rfl) (rg_bd1 h fun v1 hc h => rg_call (q := cvP s v1) (T_fItems_has hc) ?_)
  refine rg_step 1 (G' := fun f => if v1 = 0 then evT f 305 11 [oR 0 0, oI a1] [] s else evT f 305 14 [oR 0 0, oI a1] [] s) (fun _ => rfl) (rg_if h (fun h => ?_) fun h => ?_)
  · exact rg_end 2 (fun _ => rfl) (by cases h; rfl)
  · refine rg_step 4 (G' := fun f => ev_after (evT f 60 0 [oR 100 0, oI a1] [] s) (fun q => evT f 305 22 [oR 0 0, oI a1] (q.2 ++ []) q.1)) (fun _ => rfl) (rg_bd1 h fun v2 hc h => rg_call (q := cvP s v2) (T_fItems_isEnded hc) ?_)
    refine rg_step 1 (G' := fun f => if v2 = 0 then evT f 305 28 [oR 0 0, oI a1] [] s else evT f 305 25 [oR 0 0, oI a1] [] s) (fun _ => rfl) (rg_if h (fun h => ?_) fun h => ?_)
    · refine rg_step 3 (G' := fun f => ev_after (evT f 123 0 [oR 9 0, nn] [] s) (fun q => evT f 305 35 [oR 0 0, oI a1] (q.2 ++ []) q.1)) (fun _ => rfl) (rg_bd2 h fun s3 v4 hc h => rg_call (q := cvI (s3, v4)) (T_fLog_admits hc) ?_)
      refine rg_step 1 (G' := fun f => if v4 = 0 then evT f 305 38 [oR 0 0, oI a1] [] s3 else evT f 305 41 [oR 0 0, oI a1] [] s3) (fun _ => rfl) (rg_if h (fun h => ?_) fun h => ?_)
      · exact rg_end 2 (fun _ => rfl) (by cases h; rfl)
      · refine rg_step 4 (G' := fun f => ev_after (evT f 96 0 [oR 449 0, oI a1, nn] [] s3) (fun q => evT f 305 49 [oR 0 0, oI a1] (q.2 ++ []) q.1)) (fun _ => rfl) (rg_bd1 h fun s5 hc h => rg_call (q := cvV s5) (T_fLines_drop hc) ?_)
        refine rg_step 4 (G' := fun f => ev_after (evT f 193 0 [oR 138 0, oI a1, nn] [] s5) (fun q => evT f 305 57 [oR 0 0, oI a1] (q.2 ++ []) q.1)) (fun _ => rfl) (rg_bd1 h fun s6 hc h => rg_call (q := cvV s6) (T_fRounds_drop hc) ?_)
        refine rg_step 4 (G' := fun f => ev_after (evT f 118 0 [oR 125 0, oI a1, nn, nn] [] s6) (fun q => evT f 305 65 [oR 0 0, oI a1] (q.2 ++ []) q.1)) (fun _ => rfl) (rg_bd1 h fun s7 hc h => rg_call (q := cvV s7) (T_fLock_drop hc) ?_)
        refine rg_step 5 (G' := fun f => ev_after (evT f 55 0 [oR 100 0, oI a1, oI (cI 8)] [] s7) (fun q => evT f 305 75 [oR 0 0, oI a1] (q.2 ++ []) q.1)) (fun _ => rfl) (rg_bd1 h fun s8 hc h => rg_call (q := cvV s8) (T_fItems_come hc) ?_)
        exact rg_end 2 (fun _ => rfl) (by cases h; rfl)
    · exact rg_end 2 (fun _ => rfl) (by cases h; rfl)
theorem T_fMoney_openAccount {s : ev_M} {a1 : Int32} {q : ev_M × Int32} (h : fMoney_openAccount s a1 = some q) : RR 150 0 [oR 78 0, oI a1, nn] [] s (cvI q) := by
  refine rg_step 4 (G' := fun f => ev_after (evT f 28 0 [oR 30 0, oI a1] [] s) (fun q => evT f 150 8 [oR 78 0, oI a1, nn] (q.2 ++ []) q.1)) (fun _ => rfl) (rg_bd1 h fun v1 hc h => rg_call (q := cvP s v1) (T_fBook_hasPoint hc) ?_)
  refine rg_step 1 (G' := fun f => if v1 = 0 then evT f 150 11 [oR 78 0, oI a1, nn] [] s else evT f 150 14 [oR 78 0, oI a1, nn] [] s) (fun _ => rfl) (rg_if h (fun h => ?_) fun h => ?_)
  · exact rg_end 2 (fun _ => rfl) (by cases h; rfl)
  · refine rg_step 4 (G' := fun f => if (s.1 78 3) < (cI 30) then evT f 150 23 [oR 78 0, oI a1, nn] [] s else evT f 150 33 [oR 78 0, oI a1, nn] [] s) (fun _ => rfl) (rg_if h (fun h => ?_) fun h => ?_)
    · refine rg_step 3 (G' := fun f => ev_after (evT f 123 0 [oR 9 0, nn] [] s) (fun q => evT f 150 30 [oR 78 0, oI a1, nn] (q.2 ++ []) q.1)) (fun _ => rfl) (rg_bd2 h fun s2 v3 hc h => rg_call (q := cvI (s2, v3)) (T_fLog_admits hc) ?_)
      refine rg_step 1 (G' := fun f => if v3 = 0 then evT f 150 33 [oR 78 0, oI a1, nn] [] s2 else evT f 150 36 [oR 78 0, oI a1, nn] [] s2) (fun _ => rfl) (rg_if h (fun h => ?_) fun h => ?_)
      · exact rg_end 2 (fun _ => rfl) (by cases h; rfl)
      · refine rg_step 8 (G' := fun f => evT f 150 48 [oR 78 0, oI a1, nn] [vI (s2.1 78 3), vI (cI 4)] (wI s2 78 3 ((s2.1 78 3) + (cI 1)))) (fun _ => rfl) (rg_ltM h fun s4 h => ?_)
        refine rg_step 2 (G' := fun f => evT f 150 50 [oR 78 0, oI a1, oI ((cI 4) + (s2.1 78 3))] [] s4) (fun _ => rfl) (rg_ltI (P := fun v5 => RG (fun f => evT f 150 50 [oR 78 0, oI a1, oI v5] [] s4) (cvI q)) h fun v5 h => ?_)
        refine rg_step 5 (G' := fun f => if inb v5 34 = true then evT f 150 57 [oR 78 0, oI a1, oI v5] [] (wI s4 79 (ix v5) a1) else none) (fun _ => rfl) (rg_gd h fun h => rg_ltM h fun s6 h => ?_)
        exact rg_end 2 (fun _ => rfl) (by cases h; rfl)
    · exact rg_end 2 (fun _ => rfl) (by cases h; rfl)
theorem T_fMoney_payIn {s : ev_M} {a1 : Int32} {a2 : Int32} {q : ev_M × Int32} (h : fMoney_payIn s a1 a2 = some q) : RR 151 0 [oR 78 0, oI a1, oI a2] [] s (cvI q) := by
  refine rg_step 3 (G' := fun f => ev_after (evT f 148 0 [oR 78 0, oI a1] [] s) (fun q => evT f 151 5 [oR 78 0, oI a1, oI a2] (q.2 ++ []) q.1)) (fun _ => rfl) (rg_bd1 h fun v1 hc h => rg_call (q := cvP s v1) (T_fMoney_isCustomer hc) ?_)
  refine rg_step 1 (G' := fun f => if v1 = 0 then evT f 151 8 [oR 78 0, oI a1, oI a2] [] s else evT f 151 11 [oR 78 0, oI a1, oI a2] [] s) (fun _ => rfl) (rg_if h (fun h => ?_) fun h => ?_)
  · exact rg_end 2 (fun _ => rfl) (by cases h; rfl)
  · refine rg_step 4 (G' := fun f => ev_after (evT f 308 0 [oI a2, oI (cI 1), oI (cI 1000000)] [] s) (fun q => evT f 151 18 [oR 78 0, oI a1, oI a2] (q.2 ++ []) q.1)) (fun _ => rfl) (rg_bd1 h fun v2 hc h => rg_call (q := cvP s v2) (T_fPH_outside hc) ?_)
    refine rg_step 1 (G' := fun f => if v2 = 0 then evT f 151 24 [oR 78 0, oI a1, oI a2] [] s else evT f 151 21 [oR 78 0, oI a1, oI a2] [] s) (fun _ => rfl) (rg_if h (fun h => ?_) fun h => ?_)
    · refine rg_step 3 (G' := fun f => ev_after (evT f 152 0 [oR 78 0, oI (cI 1)] [] s) (fun q => evT f 151 29 [oR 78 0, oI a1, oI a2] (q.2 ++ []) q.1)) (fun _ => rfl) (rg_bd1 h fun v3 hc h => rg_call (q := cvP s v3) (T_fMoney_hasRoomFor hc) ?_)
      refine rg_step 1 (G' := fun f => if v3 = 0 then evT f 151 42 [oR 78 0, oI a1, oI a2] [] s else evT f 151 32 [oR 78 0, oI a1, oI a2] [] s) (fun _ => rfl) (rg_if h (fun h => ?_) fun h => ?_)
      · exact rg_end 2 (fun _ => rfl) (by cases h; rfl)
      · refine rg_step 3 (G' := fun f => ev_after (evT f 123 0 [oR 9 0, nn] [] s) (fun q => evT f 151 39 [oR 78 0, oI a1, oI a2] (q.2 ++ []) q.1)) (fun _ => rfl) (rg_bd2 h fun s4 v5 hc h => rg_call (q := cvI (s4, v5)) (T_fLog_admits hc) ?_)
        refine rg_step 1 (G' := fun f => if v5 = 0 then evT f 151 42 [oR 78 0, oI a1, oI a2] [] s4 else evT f 151 45 [oR 78 0, oI a1, oI a2] [] s4) (fun _ => rfl) (rg_if h (fun h => ?_) fun h => ?_)
        · exact rg_end 2 (fun _ => rfl) (by cases h; rfl)
        · refine rg_step 6 (G' := fun f => ev_after (evT f 153 0 [oR 78 0, oI (cI 1), oI a1, oI a2, oI (cI (-1))] [] s4) (fun q => evT f 151 53 [oR 78 0, oI a1, oI a2] (q.2 ++ []) q.1)) (fun _ => rfl) (rg_bd1 h fun s6 hc h => rg_call (q := cvV s6) (T_fMoney_transfer hc) ?_)
          refine rg_step 4 (G' := fun f => if inb a1 34 = true then evT f 151 59 [oR 78 0, oI a1, oI a2] [vL (s6.2.1 80 (ix a1))] s6 else none) (fun _ => rfl) (rg_gd h fun h => ?_)
          exact rg_end 2 (fun _ => rfl) (by cases h; rfl)
    · exact rg_end 2 (fun _ => rfl) (by cases h; rfl)
theorem ti_fTape_readsEntry_1_1011_h56 : ∀ (n : Nat) (s : ev_M) (x2 : Int32) (x3 : Int32) (j4 : Option ev_V) (q : ev_M × Int32), fTape_readsEntry_1_1011_h56 n s x2 x3 = some q → RR 226 56 [oR 1 0, oR 1011 0, oI x2, oI x3, j4] [] s (cvI q) := by
  intro n
  induction n with
  | zero => intro s x2 x3 j4 q h; cases h
  | succ n ih =>
    have hk56 : ∀ {s : ev_M} {x2 : Int32} {x3 : Int32} {j4 : Option ev_V} {q : ev_M × Int32}, fTape_readsEntry_1_1011_h56 n s x2 x3 = some q → RR 226 56 [oR 1 0, oR 1011 0, oI x2, oI x3, j4] [] s (cvI q) := fun h => ih _ _ _ _ _ h
    intro s x2 x3 j4 q h
    refine rg_step 3 (G' := fun f => ev_after ((fSlen 1011).map (cvP s)) (fun q => evT f 226 61 [oR 1 0, oR 1011 0, oI x2, oI x3, nn] (q.2 ++ [vI x3]) q.1)) (fun _ => rfl) (rg_bd1 h fun v1 hc h => rg_prm (q := cvP s v1) (by rw [hc]; rfl) ?_)
    refine rg_step 1 (G' := fun f => if x3 < v1 then evT f 226 64 [oR 1 0, oR 1011 0, oI x2, oI x3, nn] [] s else evT f 226 97 [oR 1 0, oR 1011 0, oI x2, oI x3, nn] [] s) (fun _ => rfl) (rg_if h (fun h => ?_) fun h => ?_)
    · refine rg_step 3 (G' := fun f => ev_after ((fSat 1011 x3).map (cvP s)) (fun q => evT f 226 69 [oR 1 0, oR 1011 0, oI x2, oI x3, nn] (q.2 ++ []) q.1)) (fun _ => rfl) (rg_bd1 h fun v2 hc h => rg_prm (q := cvP s v2) (by rw [hc]; rfl) ?_)
      refine rg_step 4 (G' := fun f => ev_after (evT f 227 0 [oR 1 0, oI v2] [] s) (fun q => evT f 226 77 [oR 1 0, oR 1011 0, oI x2, oI x3, oI v2] (q.2 ++ []) q.1)) (fun _ => rfl) (rg_bd2 h fun s3 v4 hc h => rg_call (q := cvI (s3, v4)) (T_fTape_reads_1 hc) ?_)
      refine rg_step 1 (G' := fun f => if v4 = 0 then evT f 226 80 [oR 1 0, oR 1011 0, oI x2, oI x3, oI v2] [] s3 else evT f 226 82 [oR 1 0, oR 1011 0, oI x2, oI x3, oI v2] [] s3) (fun _ => rfl) (rg_if h (fun h => ?_) fun h => ?_)
      · exact rg_end 2 (fun _ => rfl) (by cases h; rfl)
      · refine rg_step 3 (G' := fun f => if v2 = (cI 59) then evT f 226 89 [oR 1 0, oR 1011 0, oI x2, oI x3, oI v2] [] s3 else evT f 226 91 [oR 1 0, oR 1011 0, oI x2, oI x3, oI v2] [] s3) (fun _ => rfl) (rg_if h (fun h => ?_) fun h => ?_)
        · exact rg_end 2 (fun _ => rfl) (by cases h; rfl)
        · exact rg_step 2 (G' := fun f => evT f 226 56 [oR 1 0, oR 1011 0, oI x2, oI (x3 + cI 1), oI v2] [] s3) (fun _ => rfl) (hk56 h)
    · exact rg_end 2 (fun _ => rfl) (by cases h; rfl)
theorem t_fTape_readsEntry_1_1011_h56 {n : Nat} {s : ev_M} {x2 : Int32} {x3 : Int32} {j4 : Option ev_V} {q : ev_M × Int32} (h : fTape_readsEntry_1_1011_h56 n s x2 x3 = some q) : RR 226 56 [oR 1 0, oR 1011 0, oI x2, oI x3, j4] [] s (cvI q) := ti_fTape_readsEntry_1_1011_h56 n s x2 x3 j4 q h
theorem t_fTape_readsEntry_1_1011_b36 {s : ev_M} {x2 : Int32} {y0 : Int32} {j3 : Option ev_V} {j4 : Option ev_V} {q : ev_M × Int32} (h : fTape_readsEntry_1_1011_b36 s x2 y0 = some q) : RR 226 36 [oR 1 0, oR 1011 0, oI x2, j3, j4] [vI y0] s (cvI q) := by
  refine rg_step 3 (G' := fun f => if y0 < 0 then evT f 226 41 [oR 1 0, oR 1011 0, oI x2, oI y0, nn] [] s else evT f 226 43 [oR 1 0, oR 1011 0, oI x2, oI y0, nn] [] s) (fun _ => rfl) (rg_if h (fun h => ?_) fun h => ?_)
  · exact rg_end 2 (fun _ => rfl) (by cases h; rfl)
  · refine rg_step 6 (G' := fun f => evT f 226 53 [oR 1 0, oR 1011 0, oI x2, oI y0, nn] [] (wI s 1 2 ((s.1 1 2) + (cI 1)))) (fun _ => rfl) (rg_ltM h fun s5 h => ?_)
    exact rg_step 1 (G' := fun f => evT f 226 56 [oR 1 0, oR 1011 0, oI x2, oI (y0 + cI 1), nn] [] s5) (fun _ => rfl) ((t_fTape_readsEntry_1_1011_h56) h)
theorem t_fTape_readsEntry_1_1011_b35 {s : ev_M} {x2 : Int32} {j3 : Option ev_V} {j4 : Option ev_V} {q : ev_M × Int32} (h : fTape_readsEntry_1_1011_b35 s x2 = some q) : RR 226 35 [oR 1 0, oR 1011 0, oI x2, j3, j4] [] s (cvI q) := by
  exact rg_step 1 (G' := fun f => evT f 226 36 [oR 1 0, oR 1011 0, oI x2, nn, nn] [vI (cI (-1))] s) (fun _ => rfl) ((t_fTape_readsEntry_1_1011_b36) h)
theorem T_fTape_readsEntry_1_1011 {s : ev_M} {q : ev_M × Int32} (h : fTape_readsEntry_1_1011 s = some q) : RR 226 0 [oR 1 0, oR 1011 0, nn, nn, nn] [] s (cvI q) := by
  refine rg_step 3 (G' := fun f => evT f 226 5 [oR 1 0, oR 1011 0, nn, nn, nn] [] (wI s 1 4 (cI 0))) (fun _ => rfl) (rg_ltM h fun s6 h => ?_)
  refine rg_step 4 (G' := fun f => ev_after (evT f 224 0 [oR 1 0, oI (s6.1 1 2)] [] s6) (fun q => evT f 226 13 [oR 1 0, oR 1011 0, nn, nn, nn] (q.2 ++ []) q.1)) (fun _ => rfl) (rg_bd1 h fun v7 hc h => rg_call (q := cvP s6 v7) (T_fTape_byteAt_1 hc) ?_)
  refine rg_step 4 (G' := fun f => if v7 < (cI 65) then evT f 226 35 [oR 1 0, oR 1011 0, oI v7, nn, nn] [] s6 else evT f 226 20 [oR 1 0, oR 1011 0, oI v7, nn, nn] [] s6) (fun _ => rfl) (rg_if h (fun h => ?_) fun h => ?_)
  · exact (t_fTape_readsEntry_1_1011_b35) h
  · refine rg_step 3 (G' := fun f => if v7 ≤ (cI 90) then evT f 226 26 [oR 1 0, oR 1011 0, oI v7, nn, nn] [] s6 else evT f 226 35 [oR 1 0, oR 1011 0, oI v7, nn, nn] [] s6) (fun _ => rfl) (rg_if h (fun h => ?_) fun h => ?_)
    · refine rg_step 4 (G' := fun f => ev_after ((fSix 1011 (i2c v7)).map (cvP s6)) (fun q => evT f 226 32 [oR 1 0, oR 1011 0, oI v7, nn, nn] (q.2 ++ []) q.1)) (fun _ => rfl) (rg_bd1 h fun v8 hc h => rg_prm (q := cvP s6 v8) (by rw [hc]; rfl) ?_)
      exact rg_step 1 (G' := fun f => evT f 226 36 [oR 1 0, oR 1011 0, oI v7, nn, nn] [vI v8] s6) (fun _ => rfl) ((t_fTape_readsEntry_1_1011_b36) h)
    · exact (t_fTape_readsEntry_1_1011_b35) h
theorem T_fMoney_addsRow {s : ev_M} {a1 : Int32} {a2 : Int32} {a3 : Int32} {q : ev_M × Int32} (h : fMoney_addsRow s a1 a2 a3 = some q) : RR 158 0 [oR 78 0, oI a1, oI a2, oI a3] [] s (cvI q) := by
  refine rg_step 4 (G' := fun f => ev_after (evT f 308 0 [oI a3, oI (cI 0), oI (cI 9999)] [] s) (fun q => evT f 158 8 [oR 78 0, oI a1, oI a2, oI a3] (q.2 ++ []) q.1)) (fun _ => rfl) (rg_bd1 h fun v1 hc h => rg_call (q := cvP s v1) (T_fPH_outside hc) ?_)
  refine rg_step 1 (G' := fun f => if v1 = 0 then evT f 158 11 [oR 78 0, oI a1, oI a2, oI a3] [] s else evT f 158 20 [oR 78 0, oI a1, oI a2, oI a3] [] s) (fun _ => rfl) (rg_if h (fun h => ?_) fun h => ?_)
  · refine rg_step 4 (G' := fun f => if (s.1 78 13) < (cI 40) then evT f 158 22 [oR 78 0, oI a1, oI a2, oI a3] [] s else evT f 158 20 [oR 78 0, oI a1, oI a2, oI a3] [] s) (fun _ => rfl) (rg_if h (fun h => ?_) fun h => ?_)
    · refine rg_step 8 (G' := fun f => if inb (s.1 78 13) 40 = true then evT f 158 34 [oR 78 0, oI a1, oI a2, oI a3] [] (wI s (97 + (ix (cI 0))) (ix (s.1 78 13)) a1) else none) (fun _ => rfl) (rg_gd h fun h => rg_ltM h fun s2 h => ?_)
      refine rg_step 8 (G' := fun f => if inb (s2.1 78 13) 40 = true then evT f 158 46 [oR 78 0, oI a1, oI a2, oI a3] [] (wI s2 (97 + (ix (cI 1))) (ix (s2.1 78 13)) a2) else none) (fun _ => rfl) (rg_gd h fun h => rg_ltM h fun s3 h => ?_)
      refine rg_step 11 (G' := fun f => evT f 158 63 [oR 78 0, oI a1, oI a2, oI a3] [vI (s3.1 78 13), vR 97 (ix (cI 2))] (wI s3 78 13 ((s3.1 78 13) + (cI 1)))) (fun _ => rfl) (rg_ltM h fun s4 h => ?_)
      refine rg_step 2 (G' := fun f => if inb (s3.1 78 13) 40 = true then evT f 158 65 [oR 78 0, oI a1, oI a2, oI a3] [] (wI s4 (97 + (ix (cI 2))) (ix (s3.1 78 13)) a3) else none) (fun _ => rfl) (rg_gd h fun h => rg_ltM h fun s5 h => ?_)
      exact rg_end 2 (fun _ => rfl) (by cases h; rfl)
    · exact rg_end 2 (fun _ => rfl) (by cases h; rfl)
  · exact rg_end 2 (fun _ => rfl) (by cases h; rfl)
theorem t_fMoney_addsService_b53 {k19 : ev_M → Int32 → Int32 → Int32 → Option (ev_M × Int32)} (hk19 : ∀ {s : ev_M} {x1 : Int32} {x2 : Int32} {x3 : Int32} {q : ev_M × Int32}, k19 s x1 x2 x3 = some q → RR 157 19 [oR 78 0, oI x1, oI x2, oI x3] [] s (cvI q)) {s : ev_M} {x1 : Int32} {x2 : Int32} {x3 : Int32} {q : ev_M × Int32} (h : fMoney_addsService_b53 k19 s x1 x2 x3 = some q) : RR 157 53 [oR 78 0, oI x1, oI x2, oI x3] [] s (cvI q) := by
  exact rg_step 2 (G' := fun f => evT f 157 19 [oR 78 0, oI x1, oI x2, oI (x3 + cI 1)] [] s) (fun _ => rfl) (hk19 h)
theorem ti_fMoney_addsService_h19 : ∀ (n : Nat) (s : ev_M) (x1 : Int32) (x2 : Int32) (x3 : Int32) (q : ev_M × Int32), fMoney_addsService_h19 n s x1 x2 x3 = some q → RR 157 19 [oR 78 0, oI x1, oI x2, oI x3] [] s (cvI q) := by
  intro n
  induction n with
  | zero => intro s x1 x2 x3 q h; cases h
  | succ n ih =>
    have hk19 : ∀ {s : ev_M} {x1 : Int32} {x2 : Int32} {x3 : Int32} {q : ev_M × Int32}, fMoney_addsService_h19 n s x1 x2 x3 = some q → RR 157 19 [oR 78 0, oI x1, oI x2, oI x3] [] s (cvI q) := fun h => ih _ _ _ _ _ h
    intro s x1 x2 x3 q h
    refine rg_step 4 (G' := fun f => if x3 < (s.1 78 13) then evT f 157 27 [oR 78 0, oI x1, oI x2, oI x3] [] s else evT f 157 59 [oR 78 0, oI x1, oI x2, oI x3] [] s) (fun _ => rfl) (rg_if h (fun h => ?_) fun h => ?_)
    · refine rg_step 6 (G' := fun f => if inb x3 40 = true then evT f 157 35 [oR 78 0, oI x1, oI x2, oI x3] [vI (s.1 (97 + (ix (cI 0))) (ix x3))] s else none) (fun _ => rfl) (rg_gd h fun h => ?_)
      refine rg_step 2 (G' := fun f => if (s.1 (97 + (ix (cI 0))) (ix x3)) = (cI (-1)) then evT f 157 39 [oR 78 0, oI x1, oI x2, oI x3] [] s else evT f 157 53 [oR 78 0, oI x1, oI x2, oI x3] [] s) (fun _ => rfl) (rg_if h (fun h => ?_) fun h => ?_)
      · refine rg_step 6 (G' := fun f => if inb x3 40 = true then evT f 157 47 [oR 78 0, oI x1, oI x2, oI x3] [vI (s.1 (97 + (ix (cI 1))) (ix x3))] s else none) (fun _ => rfl) (rg_gd h fun h => ?_)
        refine rg_step 2 (G' := fun f => if (s.1 (97 + (ix (cI 1))) (ix x3)) = x1 then evT f 157 51 [oR 78 0, oI x1, oI x2, oI x3] [] s else evT f 157 53 [oR 78 0, oI x1, oI x2, oI x3] [] s) (fun _ => rfl) (rg_if h (fun h => ?_) fun h => ?_)
        · exact rg_end 2 (fun _ => rfl) (by cases h; rfl)
        · exact (t_fMoney_addsService_b53 hk19) h
      · exact (t_fMoney_addsService_b53 hk19) h
    · refine rg_step 5 (G' := fun f => ev_after (evT f 158 0 [oR 78 0, oI (cI (-1)), oI x1, oI x2] [] s) (fun q => evT f 157 66 [oR 78 0, oI x1, oI x2, oI x3] (q.2 ++ []) q.1)) (fun _ => rfl) (rg_bd2 h fun s1 v2 hc h => rg_call (q := cvI (s1, v2)) (T_fMoney_addsRow hc) ?_)
      exact rg_step 1 (G' := fun f => if bz v2 = true then some (s1, [vI v2]) else none) (fun _ => rfl) (rg_gd h fun h => rg_end 0 (fun _ => rfl) (by cases h; rfl))
theorem t_fMoney_addsService_h19 {n : Nat} {s : ev_M} {x1 : Int32} {x2 : Int32} {x3 : Int32} {q : ev_M × Int32} (h : fMoney_addsService_h19 n s x1 x2 x3 = some q) : RR 157 19 [oR 78 0, oI x1, oI x2, oI x3] [] s (cvI q) := ti_fMoney_addsService_h19 n s x1 x2 x3 q h
theorem t_fMoney_addsService_b17 {s : ev_M} {x1 : Int32} {x2 : Int32} {j3 : Option ev_V} {q : ev_M × Int32} (h : fMoney_addsService_b17 s x1 x2 = some q) : RR 157 17 [oR 78 0, oI x1, oI x2, j3] [] s (cvI q) := by
  exact rg_step 2 (G' := fun f => evT f 157 19 [oR 78 0, oI x1, oI x2, oI (cI 0)] [] s) (fun _ => rfl) ((t_fMoney_addsService_h19) h)
theorem T_fMoney_addsService {s : ev_M} {a1 : Int32} {a2 : Int32} {q : ev_M × Int32} (h : fMoney_addsService s a1 a2 = some q) : RR 157 0 [oR 78 0, oI a1, oI a2, nn] [] s (cvI q) := by
  refine rg_step 3 (G' := fun f => if a1 = (cI 1) then evT f 157 17 [oR 78 0, oI a1, oI a2, nn] [] s else evT f 157 5 [oR 78 0, oI a1, oI a2, nn] [] s) (fun _ => rfl) (rg_if h (fun h => ?_) fun h => ?_)
  · exact (t_fMoney_addsService_b17) h
  · refine rg_step 3 (G' := fun f => if a1 = (cI 2) then evT f 157 17 [oR 78 0, oI a1, oI a2, nn] [] s else evT f 157 10 [oR 78 0, oI a1, oI a2, nn] [] s) (fun _ => rfl) (rg_if h (fun h => ?_) fun h => ?_)
    · exact (t_fMoney_addsService_b17) h
    · refine rg_step 3 (G' := fun f => if a1 = (cI 4) then evT f 157 17 [oR 78 0, oI a1, oI a2, nn] [] s else evT f 157 15 [oR 78 0, oI a1, oI a2, nn] [] s) (fun _ => rfl) (rg_if h (fun h => ?_) fun h => ?_)
      · exact (t_fMoney_addsService_b17) h
      · exact rg_end 2 (fun _ => rfl) (by cases h; rfl)
theorem t_fMoney_adds_1_b102 {k64 : ev_M → Int32 → Int32 → Int32 → Option (ev_M × Int32)} (hk64 : ∀ {s : ev_M} {x3 : Int32} {x4 : Int32} {x5 : Int32} {j1 : Option ev_V} {q : ev_M × Int32}, k64 s x3 x4 x5 = some q → RR 156 64 [oR 78 0, j1, oR 1 0, oI x3, oI x4, oI x5] [] s (cvI q)) {s : ev_M} {x3 : Int32} {x4 : Int32} {x5 : Int32} {j1 : Option ev_V} {q : ev_M × Int32} (h : fMoney_adds_1_b102 k64 s x3 x4 x5 = some q) : RR 156 102 [oR 78 0, j1, oR 1 0, oI x3, oI x4, oI x5] [] s (cvI q) := by
  exact rg_step 2 (G' := fun f => evT f 156 64 [oR 78 0, nn, oR 1 0, oI x3, oI x4, oI (x5 + cI 1)] [] s) (fun _ => rfl) (hk64 h)
theorem ti_fMoney_adds_1_h64 : ∀ (n : Nat) (s : ev_M) (x3 : Int32) (x4 : Int32) (x5 : Int32) (j1 : Option ev_V) (q : ev_M × Int32), fMoney_adds_1_h64 n s x3 x4 x5 = some q → RR 156 64 [oR 78 0, j1, oR 1 0, oI x3, oI x4, oI x5] [] s (cvI q) := by
  intro n
  induction n with
  | zero => intro s x3 x4 x5 j1 q h; cases h
  | succ n ih =>
    have hk64 : ∀ {s : ev_M} {x3 : Int32} {x4 : Int32} {x5 : Int32} {j1 : Option ev_V} {q : ev_M × Int32}, fMoney_adds_1_h64 n s x3 x4 x5 = some q → RR 156 64 [oR 78 0, j1, oR 1 0, oI x3, oI x4, oI x5] [] s (cvI q) := fun h => ih _ _ _ _ _ _ h
    intro s x3 x4 x5 j1 q h
    refine rg_step 4 (G' := fun f => if x5 < (s.1 78 13) then evT f 156 73 [oR 78 0, nn, oR 1 0, oI x3, oI x4, oI x5] [] s else evT f 156 108 [oR 78 0, nn, oR 1 0, oI x3, oI x4, oI x5] [] s) (fun _ => rfl) (rg_if h (fun h => ?_) fun h => ?_)
    · refine rg_step 6 (G' := fun f => if inb x5 40 = true then evT f 156 82 [oR 78 0, nn, oR 1 0, oI x3, oI x4, oI x5] [vI (s.1 (97 + (ix (cI 0))) (ix x5))] s else none) (fun _ => rfl) (rg_gd h fun h => ?_)
      refine rg_step 2 (G' := fun f => if (s.1 (97 + (ix (cI 0))) (ix x5)) = x3 then evT f 156 86 [oR 78 0, nn, oR 1 0, oI x3, oI x4, oI x5] [] s else evT f 156 102 [oR 78 0, nn, oR 1 0, oI x3, oI x4, oI x5] [] s) (fun _ => rfl) (rg_if h (fun h => ?_) fun h => ?_)
      · refine rg_step 6 (G' := fun f => if inb x5 40 = true then evT f 156 95 [oR 78 0, nn, oR 1 0, oI x3, oI x4, oI x5] [vI (s.1 (97 + (ix (cI 1))) (ix x5))] s else none) (fun _ => rfl) (rg_gd h fun h => ?_)
        refine rg_step 2 (G' := fun f => if (s.1 (97 + (ix (cI 1))) (ix x5)) < x4 then evT f 156 102 [oR 78 0, nn, oR 1 0, oI x3, oI x4, oI x5] [] s else evT f 156 100 [oR 78 0, nn, oR 1 0, oI x3, oI x4, oI x5] [] s) (fun _ => rfl) (rg_if h (fun h => ?_) fun h => ?_)
        · exact (t_fMoney_adds_1_b102 hk64) h
        · exact rg_end 2 (fun _ => rfl) (by cases h; rfl)
      · exact (t_fMoney_adds_1_b102 hk64) h
    · refine rg_step 8 (G' := fun f => ev_after (evT f 158 0 [oR 78 0, oI x3, oI x4, oI (s.1 3 (ix (cI 2)))] [] s) (fun q => evT f 156 121 [oR 78 0, nn, oR 1 0, oI x3, oI x4, oI x5] (q.2 ++ []) q.1)) (fun _ => rfl) (rg_bd2 h fun s1 v2 hc h => rg_call (q := cvI (s1, v2)) (T_fMoney_addsRow hc) ?_)
      exact rg_step 1 (G' := fun f => if bz v2 = true then some (s1, [vI v2]) else none) (fun _ => rfl) (rg_gd h fun h => rg_end 0 (fun _ => rfl) (by cases h; rfl))
theorem t_fMoney_adds_1_h64 {n : Nat} {s : ev_M} {x3 : Int32} {x4 : Int32} {x5 : Int32} {j1 : Option ev_V} {q : ev_M × Int32} (h : fMoney_adds_1_h64 n s x3 x4 x5 = some q) : RR 156 64 [oR 78 0, j1, oR 1 0, oI x3, oI x4, oI x5] [] s (cvI q) := ti_fMoney_adds_1_h64 n s x3 x4 x5 j1 q h
theorem T_fMoney_adds_1 {s : ev_M} {a1 : Int32} {q : ev_M × Int32} (h : fMoney_adds_1 s a1 = some q) : RR 156 0 [oR 78 0, oI a1, oR 1 0, nn, nn, nn] [] s (cvI q) := by
  refine rg_step 3 (G' := fun f => if a1 = (cI 86) then evT f 156 6 [oR 78 0, oI a1, oR 1 0, nn, nn, nn] [] s else evT f 156 23 [oR 78 0, oI a1, oR 1 0, nn, nn, nn] [] s) (fun _ => rfl) (rg_if h (fun h => ?_) fun h => ?_)
  · refine rg_step 10 (G' := fun f => ev_after (evT f 157 0 [oR 78 0, oI (s.1 3 (ix (cI 0))), oI (s.1 3 (ix (cI 1))), nn] [] s) (fun q => evT f 156 22 [oR 78 0, oI a1, oR 1 0, nn, nn, nn] (q.2 ++ []) q.1)) (fun _ => rfl) (rg_bd2 h fun s3 v4 hc h => rg_call (q := cvI (s3, v4)) (T_fMoney_addsService hc) ?_)
    exact rg_step 1 (G' := fun f => if bz v4 = true then some (s3, [vI v4]) else none) (fun _ => rfl) (rg_gd h fun h => rg_end 0 (fun _ => rfl) (by cases h; rfl))
  · refine rg_step 5 (G' := fun f => evT f 156 30 [oR 78 0, oI a1, oR 1 0, oI (s.1 3 (ix (cI 0))), nn, nn] [] s) (fun _ => rfl) (rg_ltI (P := fun v5 => RG (fun f => evT f 156 30 [oR 78 0, oI a1, oR 1 0, oI v5, nn, nn] [] s) (cvI q)) h fun v5 h => ?_)
    refine rg_step 5 (G' := fun f => evT f 156 38 [oR 78 0, oI a1, oR 1 0, oI v5, oI (s.1 3 (ix (cI 1))), nn] [] s) (fun _ => rfl) (rg_ltI (P := fun v6 => RG (fun f => evT f 156 38 [oR 78 0, oI a1, oR 1 0, oI v5, oI v6, nn] [] s) (cvI q)) h fun v6 h => ?_)
    refine rg_step 4 (G' := fun f => ev_after (evT f 308 0 [oI v5, oI (cI 0), oI (cI 3)] [] s) (fun q => evT f 156 44 [oR 78 0, oI a1, oR 1 0, oI v5, oI v6, nn] (q.2 ++ []) q.1)) (fun _ => rfl) (rg_bd1 h fun v7 hc h => rg_call (q := cvP s v7) (T_fPH_outside hc) ?_)
    refine rg_step 1 (G' := fun f => if v7 = 0 then evT f 156 47 [oR 78 0, oI a1, oR 1 0, oI v5, oI v6, nn] [] s else evT f 156 59 [oR 78 0, oI a1, oR 1 0, oI v5, oI v6, nn] [] s) (fun _ => rfl) (rg_if h (fun h => ?_) fun h => ?_)
    · refine rg_step 4 (G' := fun f => ev_after (evT f 308 0 [oI v6, oI (cI 1), oI (cI 30000)] [] s) (fun q => evT f 156 56 [oR 78 0, oI a1, oR 1 0, oI v5, oI v6, nn] (q.2 ++ []) q.1)) (fun _ => rfl) (rg_bd1 h fun v8 hc h => rg_call (q := cvP s v8) (T_fPH_outside hc) ?_)
      refine rg_step 1 (G' := fun f => if v8 = 0 then evT f 156 61 [oR 78 0, oI a1, oR 1 0, oI v5, oI v6, nn] [] s else evT f 156 59 [oR 78 0, oI a1, oR 1 0, oI v5, oI v6, nn] [] s) (fun _ => rfl) (rg_if h (fun h => ?_) fun h => ?_)
      · exact rg_step 2 (G' := fun f => evT f 156 64 [oR 78 0, oI a1, oR 1 0, oI v5, oI v6, oI (cI 0)] [] s) (fun _ => rfl) ((t_fMoney_adds_1_h64) h)
      · exact rg_end 2 (fun _ => rfl) (by cases h; rfl)
    · exact rg_end 2 (fun _ => rfl) (by cases h; rfl)
theorem t_fMoney_readTariff_1_b78 {k14 : ev_M → Int32 → Int32 → Option (ev_M × Int32)} (hk14 : ∀ {s : ev_M} {x2 : Int32} {x3 : Int32} {j4 : Option ev_V} {j5 : Option ev_V} {q : ev_M × Int32}, k14 s x2 x3 = some q → RR 155 14 [oR 78 0, oR 1 0, oI x2, oI x3, j4, j5] [] s (cvI q)) {s : ev_M} {x2 : Int32} {x3 : Int32} {j4 : Option ev_V} {j5 : Option ev_V} {q : ev_M × Int32} (h : fMoney_readTariff_1_b78 k14 s x2 x3 = some q) : RR 155 78 [oR 78 0, oR 1 0, oI x2, oI x3, j4, j5] [] s (cvI q) := by
  exact rg_step 2 (G' := fun f => evT f 155 14 [oR 78 0, oR 1 0, oI x2, oI (x3 + cI 1), nn, nn] [] s) (fun _ => rfl) (hk14 h)
theorem t_fMoney_readTariff_1_b37 {k14 : ev_M → Int32 → Int32 → Option (ev_M × Int32)} (hk14 : ∀ {s : ev_M} {x2 : Int32} {x3 : Int32} {j4 : Option ev_V} {j5 : Option ev_V} {q : ev_M × Int32}, k14 s x2 x3 = some q → RR 155 14 [oR 78 0, oR 1 0, oI x2, oI x3, j4, j5] [] s (cvI q)) {s : ev_M} {x2 : Int32} {x3 : Int32} {j4 : Option ev_V} {j5 : Option ev_V} {q : ev_M × Int32} (h : fMoney_readTariff_1_b37 k14 s x2 x3 = some q) : RR 155 37 [oR 78 0, oR 1 0, oI x2, oI x3, j4, j5] [] s (cvI q) := by
  refine rg_step 3 (G' := fun f => evT f 155 43 [oR 78 0, oR 1 0, oI x2, oI x3, oI (s.1 1 2), nn] [] s) (fun _ => rfl) (rg_ltI (P := fun v1 => RG (fun f => evT f 155 43 [oR 78 0, oR 1 0, oI x2, oI x3, oI v1, nn] [] s) (cvI q)) h fun v1 h => ?_)
  refine rg_step 3 (G' := fun f => ev_after (evT f 226 0 [oR 1 0, oR 1011 0, nn, nn, nn] [] s) (fun q => evT f 155 49 [oR 78 0, oR 1 0, oI x2, oI x3, oI v1, nn] (q.2 ++ []) q.1)) (fun _ => rfl) (rg_bd2 h fun s2 v3 hc h => rg_call (q := cvI (s2, v3)) (T_fTape_readsEntry_1_1011 hc) ?_)
  refine rg_step 4 (G' := fun f => if v3 = (cI (-1)) then evT f 155 57 [oR 78 0, oR 1 0, oI x2, oI x3, oI v1, oI v3] [] s2 else evT f 155 65 [oR 78 0, oR 1 0, oI x2, oI x3, oI v1, oI v3] [] s2) (fun _ => rfl) (rg_if h (fun h => ?_) fun h => ?_)
  · refine rg_step 3 (G' := fun f => evT f 155 62 [oR 78 0, oR 1 0, oI (s2.1 1 2), oI x3, oI v1, oI v3] [] s2) (fun _ => rfl) (rg_ltI (P := fun v4 => RG (fun f => evT f 155 62 [oR 78 0, oR 1 0, oI v4, oI x3, oI v1, oI v3] [] s2) (cvI q)) h fun v4 h => ?_)
    exact rg_step 1 (G' := fun f => evT f 155 78 [oR 78 0, oR 1 0, oI v4, oI x3, oI v1, oI v3] [] s2) (fun _ => rfl) ((t_fMoney_readTariff_1_b78 hk14) h)
  · refine rg_step 4 (G' := fun f => ev_after (evT f 156 0 [oR 78 0, oI v3, oR 1 0, nn, nn, nn] [] s2) (fun q => evT f 155 72 [oR 78 0, oR 1 0, oI x2, oI x3, oI v1, oI v3] (q.2 ++ []) q.1)) (fun _ => rfl) (rg_bd2 h fun s5 v6 hc h => rg_call (q := cvI (s5, v6)) (T_fMoney_adds_1 hc) ?_)
    refine rg_step 1 (G' := fun f => if v6 = 0 then evT f 155 75 [oR 78 0, oR 1 0, oI x2, oI x3, oI v1, oI v3] [] s5 else evT f 155 78 [oR 78 0, oR 1 0, oI x2, oI x3, oI v1, oI v3] [] s5) (fun _ => rfl) (rg_if h (fun h => ?_) fun h => ?_)
    · exact rg_step 2 (G' := fun f => evT f 155 78 [oR 78 0, oR 1 0, oI v1, oI x3, oI v1, oI v3] [] s5) (fun _ => rfl) ((t_fMoney_readTariff_1_b78 hk14) h)
    · exact (t_fMoney_readTariff_1_b78 hk14) h
theorem ti_fMoney_readTariff_1_h118 : ∀ (n : Nat) (s : ev_M) (x3 : Int32) (j1 : Option ev_V) (j2 : Option ev_V) (j4 : Option ev_V) (j5 : Option ev_V) (q : ev_M × Int32), fMoney_readTariff_1_h118 n s x3 = some q → RR 155 118 [oR 78 0, j1, j2, oI x3, j4, j5] [] s (cvI q) := by
  intro n
  induction n with
  | zero => intro s x3 j1 j2 j4 j5 q h; cases h
  | succ n ih =>
    have hk118 : ∀ {s : ev_M} {x3 : Int32} {j1 : Option ev_V} {j2 : Option ev_V} {j4 : Option ev_V} {j5 : Option ev_V} {q : ev_M × Int32}, fMoney_readTariff_1_h118 n s x3 = some q → RR 155 118 [oR 78 0, j1, j2, oI x3, j4, j5] [] s (cvI q) := fun h => ih _ _ _ _ _ _ _ h
    intro s x3 j1 j2 j4 j5 q h
    refine rg_step 3 (G' := fun f => if x3 ≤ (cI 2) then evT f 155 123 [oR 78 0, nn, nn, oI x3, nn, nn] [] s else evT f 155 150 [oR 78 0, nn, nn, oI x3, nn, nn] [] s) (fun _ => rfl) (rg_if h (fun h => ?_) fun h => ?_)
    · refine rg_step 4 (G' := fun f => if inb x3 3 = true then evT f 155 129 [oR 78 0, nn, nn, oI x3, nn, nn] [vR 97 (ix x3)] s else none) (fun _ => rfl) (rg_gd h fun h => ?_)
      refine rg_step 5 (G' := fun f => if inb x3 3 = true then evT f 155 136 [oR 78 0, nn, nn, oI x3, nn, nn] [vR 93 (ix x3), vI (cI 0), vR 97 (ix x3)] s else none) (fun _ => rfl) (rg_gd h fun h => ?_)
      refine rg_step 4 (G' := fun f => ev_after ((fACP s 40 40 (97 + (ix x3)) (93 + (ix x3)) (cI 0) (cI 0) (s.1 78 11)).map cvV) (fun q => evT f 155 144 [oR 78 0, nn, nn, oI x3, nn, nn] (q.2 ++ []) q.1)) (fun _ => rfl) (rg_bd1 h fun s7 hc h => rg_prm (q := cvV s7) (by rw [hc]; rfl) ?_)
      exact rg_step 2 (G' := fun f => evT f 155 118 [oR 78 0, nn, nn, oI (x3 + cI 1), nn, nn] [] s7) (fun _ => rfl) (hk118 h)
    · exact rg_end 3 (fun _ => rfl) (by cases h; rfl)
theorem t_fMoney_readTariff_1_h118 {n : Nat} {s : ev_M} {x3 : Int32} {j1 : Option ev_V} {j2 : Option ev_V} {j4 : Option ev_V} {j5 : Option ev_V} {q : ev_M × Int32} (h : fMoney_readTariff_1_h118 n s x3 = some q) : RR 155 118 [oR 78 0, j1, j2, oI x3, j4, j5] [] s (cvI q) := ti_fMoney_readTariff_1_h118 n s x3 j1 j2 j4 j5 q h
theorem t_fMoney_readTariff_1_b84 {s : ev_M} {x2 : Int32} {j1 : Option ev_V} {j3 : Option ev_V} {j4 : Option ev_V} {j5 : Option ev_V} {q : ev_M × Int32} (h : fMoney_readTariff_1_b84 s x2 = some q) : RR 155 84 [oR 78 0, j1, oI x2, j3, j4, j5] [] s (cvI q) := by
  refine rg_step 3 (G' := fun f => if x2 = (cI (-1)) then evT f 155 95 [oR 78 0, nn, oI x2, nn, nn, nn] [] s else evT f 155 89 [oR 78 0, nn, oI x2, nn, nn, nn] [] s) (fun _ => rfl) (rg_if h (fun h => ?_) fun h => ?_)
  · refine rg_step 3 (G' := fun f => ev_after (evT f 123 0 [oR 9 0, nn] [] s) (fun q => evT f 155 102 [oR 78 0, nn, oI x2, nn, nn, nn] (q.2 ++ []) q.1)) (fun _ => rfl) (rg_bd2 h fun s8 v9 hc h => rg_call (q := cvI (s8, v9)) (T_fLog_admits hc) ?_)
    refine rg_step 1 (G' := fun f => if v9 = 0 then evT f 155 105 [oR 78 0, nn, oI x2, nn, nn, nn] [] s8 else evT f 155 108 [oR 78 0, nn, oI x2, nn, nn, nn] [] s8) (fun _ => rfl) (rg_if h (fun h => ?_) fun h => ?_)
    · exact rg_end 2 (fun _ => rfl) (by cases h; rfl)
    · refine rg_step 4 (G' := fun f => evT f 155 116 [oR 78 0, nn, oI x2, nn, nn, nn] [] (wI s8 78 11 (s8.1 78 13))) (fun _ => rfl) (rg_ltM h fun s10 h => ?_)
      exact rg_step 2 (G' := fun f => evT f 155 118 [oR 78 0, nn, oI x2, oI (cI 0), nn, nn] [] s10) (fun _ => rfl) ((t_fMoney_readTariff_1_h118) h)
  · exact rg_end 4 (fun _ => rfl) (by cases h; rfl)
theorem ti_fMoney_readTariff_1_h14 : ∀ (n : Nat) (s : ev_M) (x2 : Int32) (x3 : Int32) (j4 : Option ev_V) (j5 : Option ev_V) (q : ev_M × Int32), fMoney_readTariff_1_h14 n s x2 x3 = some q → RR 155 14 [oR 78 0, oR 1 0, oI x2, oI x3, j4, j5] [] s (cvI q) := by
  intro n
  induction n with
  | zero => intro s x2 x3 j4 j5 q h; cases h
  | succ n ih =>
    have hk14 : ∀ {s : ev_M} {x2 : Int32} {x3 : Int32} {j4 : Option ev_V} {j5 : Option ev_V} {q : ev_M × Int32}, fMoney_readTariff_1_h14 n s x2 x3 = some q → RR 155 14 [oR 78 0, oR 1 0, oI x2, oI x3, j4, j5] [] s (cvI q) := fun h => ih _ _ _ _ _ _ h
    intro s x2 x3 j4 j5 q h
    refine rg_step 3 (G' := fun f => if x3 < (cI 4096) then evT f 155 21 [oR 78 0, oR 1 0, oI x2, oI x3, nn, nn] [] s else evT f 155 84 [oR 78 0, oR 1 0, oI x2, oI x3, nn, nn] [] s) (fun _ => rfl) (rg_if h (fun h => ?_) fun h => ?_)
    · refine rg_step 3 (G' := fun f => if x2 = (cI (-1)) then evT f 155 26 [oR 78 0, oR 1 0, oI x2, oI x3, nn, nn] [] s else evT f 155 84 [oR 78 0, oR 1 0, oI x2, oI x3, nn, nn] [] s) (fun _ => rfl) (rg_if h (fun h => ?_) fun h => ?_)
      · refine rg_step 2 (G' := fun f => if x3 = 0 then evT f 155 37 [oR 78 0, oR 1 0, oI x2, oI x3, nn, nn] [] s else evT f 155 30 [oR 78 0, oR 1 0, oI x2, oI x3, nn, nn] [] s) (fun _ => rfl) (rg_if h (fun h => ?_) fun h => ?_)
        · exact (t_fMoney_readTariff_1_b37 hk14) h
        · refine rg_step 2 (G' := fun f => ev_after (evT f 225 0 [oR 1 0] [] s) (fun q => evT f 155 34 [oR 78 0, oR 1 0, oI x2, oI x3, nn, nn] (q.2 ++ []) q.1)) (fun _ => rfl) (rg_bd1 h fun v11 hc h => rg_call (q := cvP s v11) (T_fTape_hasMore_1 hc) ?_)
          refine rg_step 1 (G' := fun f => if v11 = 0 then evT f 155 84 [oR 78 0, oR 1 0, oI x2, oI x3, nn, nn] [] s else evT f 155 37 [oR 78 0, oR 1 0, oI x2, oI x3, nn, nn] [] s) (fun _ => rfl) (rg_if h (fun h => ?_) fun h => ?_)
          · exact (t_fMoney_readTariff_1_b84) h
          · exact (t_fMoney_readTariff_1_b37 hk14) h
      · exact (t_fMoney_readTariff_1_b84) h
    · exact (t_fMoney_readTariff_1_b84) h
theorem t_fMoney_readTariff_1_h14 {n : Nat} {s : ev_M} {x2 : Int32} {x3 : Int32} {j4 : Option ev_V} {j5 : Option ev_V} {q : ev_M × Int32} (h : fMoney_readTariff_1_h14 n s x2 x3 = some q) : RR 155 14 [oR 78 0, oR 1 0, oI x2, oI x3, j4, j5] [] s (cvI q) := ti_fMoney_readTariff_1_h14 n s x2 x3 j4 j5 q h
theorem T_fMoney_readTariff_1 {s : ev_M} {q : ev_M × Int32} (h : fMoney_readTariff_1 s = some q) : RR 155 0 [oR 78 0, oR 1 0, nn, nn, nn, nn] [] s (cvI q) := by
  refine rg_step 5 (G' := fun f => evT f 155 7 [oR 78 0, oR 1 0, oI (cI (-1)), nn, nn, nn] [] (wI s 78 13 (cI 0))) (fun _ => rfl) (rg_ltM h fun s12 h => ?_)
  refine rg_step 3 (G' := fun f => evT f 155 12 [oR 78 0, oR 1 0, oI (cI (-1)), nn, nn, nn] [] (wI s12 1 2 (cI 0))) (fun _ => rfl) (rg_ltM h fun s13 h => ?_)
  exact rg_step 2 (G' := fun f => evT f 155 14 [oR 78 0, oR 1 0, oI (cI (-1)), oI (cI 0), nn, nn] [] s13) (fun _ => rfl) ((t_fMoney_readTariff_1_h14) h)
theorem t_fItems_frankItem_b88 {s : ev_M} {x1 : Int32} {x2 : Int32} {x3 : Int32} {q : ev_M × Int32} (h : fItems_frankItem_b88 s x1 x2 x3 = some q) : RR 81 88 [oR 100 0, oI x1, oI x2, oI x3] [] s (cvI q) := by
  refine rg_step 3 (G' := fun f => ev_after (evT f 123 0 [oR 9 0, nn] [] s) (fun q => evT f 81 95 [oR 100 0, oI x1, oI x2, oI x3] (q.2 ++ []) q.1)) (fun _ => rfl) (rg_bd2 h fun s1 v2 hc h => rg_call (q := cvI (s1, v2)) (T_fLog_admits hc) ?_)
  refine rg_step 1 (G' := fun f => if v2 = 0 then evT f 81 98 [oR 100 0, oI x1, oI x2, oI x3] [] s1 else evT f 81 101 [oR 100 0, oI x1, oI x2, oI x3] [] s1) (fun _ => rfl) (rg_if h (fun h => ?_) fun h => ?_)
  · exact rg_end 2 (fun _ => rfl) (by cases h; rfl)
  · refine rg_step 7 (G' := fun f => ev_after (evT f 153 0 [oR 78 0, oI x3, oI (cI 0), oI x2, oI x1] [] s1) (fun q => evT f 81 112 [oR 100 0, oI x1, oI x2, oI x3] (q.2 ++ []) q.1)) (fun _ => rfl) (rg_bd1 h fun s3 hc h => rg_call (q := cvV s3) (T_fMoney_transfer hc) ?_)
    refine rg_step 7 (G' := fun f => if inb x1 300 = true then evT f 81 122 [oR 100 0, oI x1, oI x2, oI x3] [] (wI s3 (102 + (ix (cI 11))) (ix x1) x2) else none) (fun _ => rfl) (rg_gd h fun h => rg_ltM h fun s4 h => ?_)
    exact rg_end 2 (fun _ => rfl) (by cases h; rfl)
theorem T_fItems_frankItem {s : ev_M} {a1 : Int32} {q : ev_M × Int32} (h : fItems_frankItem s a1 = some q) : RR 81 0 [oR 100 0, oI a1, nn, nn] [] s (cvI q) := by
  refine rg_step 3 (G' := fun f => ev_after (evT f 51 0 [oR 100 0, oI a1] [] s) (fun q => evT f 81 5 [oR 100 0, oI a1, nn, nn] (q.2 ++ []) q.1)) (fun _ => rfl) (rg_bd1 h fun v5 hc h => rg_call (q := cvP s v5) (T_fItems_has hc) ?_)
  refine rg_step 1 (G' := fun f => if v5 = 0 then evT f 81 8 [oR 100 0, oI a1, nn, nn] [] s else evT f 81 11 [oR 100 0, oI a1, nn, nn] [] s) (fun _ => rfl) (rg_if h (fun h => ?_) fun h => ?_)
  · exact rg_end 2 (fun _ => rfl) (by cases h; rfl)
  · refine rg_step 3 (G' := fun f => ev_after (evT f 71 0 [oR 100 0, oI a1] [] s) (fun q => evT f 81 16 [oR 100 0, oI a1, nn, nn] (q.2 ++ []) q.1)) (fun _ => rfl) (rg_bd1 h fun v6 hc h => rg_call (q := cvP s v6) (T_fItems_priceOf hc) ?_)
    refine rg_step 7 (G' := fun f => if inb a1 300 = true then evT f 81 26 [oR 100 0, oI a1, oI v6, nn] [vI (s.1 (102 + (ix (cI 11))) (ix a1))] s else none) (fun _ => rfl) (rg_gd h fun h => ?_)
    refine rg_step 2 (G' := fun f => if (s.1 (102 + (ix (cI 11))) (ix a1)) = (cI (-1)) then evT f 81 30 [oR 100 0, oI a1, oI v6, nn] [] s else evT f 81 43 [oR 100 0, oI a1, oI v6, nn] [] s) (fun _ => rfl) (rg_if h (fun h => ?_) fun h => ?_)
    · refine rg_step 3 (G' := fun f => ev_after (evT f 59 0 [oR 100 0, oI a1] [] s) (fun q => evT f 81 35 [oR 100 0, oI a1, oI v6, nn] (q.2 ++ []) q.1)) (fun _ => rfl) (rg_bd1 h fun v7 hc h => rg_call (q := cvP s v7) (T_fItems_isAtHand hc) ?_)
      refine rg_step 1 (G' := fun f => if v7 = 0 then evT f 81 43 [oR 100 0, oI a1, oI v6, nn] [] s else evT f 81 38 [oR 100 0, oI a1, oI v6, nn] [] s) (fun _ => rfl) (rg_if h (fun h => ?_) fun h => ?_)
      · exact rg_end 2 (fun _ => rfl) (by cases h; rfl)
      · refine rg_step 3 (G' := fun f => if v6 = (cI (-1)) then evT f 81 43 [oR 100 0, oI a1, oI v6, nn] [] s else evT f 81 46 [oR 100 0, oI a1, oI v6, nn] [] s) (fun _ => rfl) (rg_if h (fun h => ?_) fun h => ?_)
        · exact rg_end 2 (fun _ => rfl) (by cases h; rfl)
        · refine rg_step 6 (G' := fun f => if inb a1 300 = true then evT f 81 54 [oR 100 0, oI a1, oI v6, nn] [vI (s.1 (102 + (ix (cI 4))) (ix a1))] s else none) (fun _ => rfl) (rg_gd h fun h => ?_)
          refine rg_step 1 (G' := fun f => evT f 81 55 [oR 100 0, oI a1, oI v6, oI (s.1 (102 + (ix (cI 4))) (ix a1))] [] s) (fun _ => rfl) (rg_ltI (P := fun v8 => RG (fun f => evT f 81 55 [oR 100 0, oI a1, oI v6, oI v8] [] s) (cvI q)) h fun v8 h => ?_)
          refine rg_step 5 (G' := fun f => if inb v8 34 = true then evT f 81 64 [oR 100 0, oI a1, oI v6, oI v8] [vL (s.2.1 80 (ix v8))] s else none) (fun _ => rfl) (rg_gd h fun h => ?_)
          refine rg_step 4 (G' := fun f => if (lg_cmp (s.2.1 80 (ix v8)) (Int32.toInt64 v6)) < 0 then evT f 81 70 [oR 100 0, oI a1, oI v6, oI v8] [] s else evT f 81 73 [oR 100 0, oI a1, oI v6, oI v8] [] s) (fun _ => rfl) (rg_if h (fun h => ?_) fun h => ?_)
          · exact rg_end 2 (fun _ => rfl) (by cases h; rfl)
          · refine rg_step 2 (G' := fun f => if v6 ≤ 0 then evT f 81 88 [oR 100 0, oI a1, oI v6, oI v8] [] s else evT f 81 77 [oR 100 0, oI a1, oI v6, oI v8] [] s) (fun _ => rfl) (rg_if h (fun h => ?_) fun h => ?_)
            · exact (t_fItems_frankItem_b88) h
            · refine rg_step 4 (G' := fun f => ev_after (evT f 152 0 [oR 78 0, oI (cI 1)] [] s) (fun q => evT f 81 85 [oR 100 0, oI a1, oI v6, oI v8] (q.2 ++ []) q.1)) (fun _ => rfl) (rg_bd1 h fun v9 hc h => rg_call (q := cvP s v9) (T_fMoney_hasRoomFor hc) ?_)
              refine rg_step 1 (G' := fun f => if v9 = 0 then evT f 81 98 [oR 100 0, oI a1, oI v6, oI v8] [] s else evT f 81 88 [oR 100 0, oI a1, oI v6, oI v8] [] s) (fun _ => rfl) (rg_if h (fun h => ?_) fun h => ?_)
              · exact rg_end 2 (fun _ => rfl) (by cases h; rfl)
              · exact (t_fItems_frankItem_b88) h
    · exact rg_end 2 (fun _ => rfl) (by cases h; rfl)
theorem T_fMoney_makeOrder {s : ev_M} {a1 : Int32} {a2 : Int32} {a3 : Int32} {q : ev_M × Int32} (h : fMoney_makeOrder s a1 a2 a3 = some q) : RR 161 0 [oR 78 0, oI a1, oI a2, oI a3] [] s (cvI q) := by
  refine rg_step 3 (G' := fun f => ev_after (evT f 148 0 [oR 78 0, oI a1] [] s) (fun q => evT f 161 5 [oR 78 0, oI a1, oI a2, oI a3] (q.2 ++ []) q.1)) (fun _ => rfl) (rg_bd1 h fun v1 hc h => rg_call (q := cvP s v1) (T_fMoney_isCustomer hc) ?_)
  refine rg_step 1 (G' := fun f => if v1 = 0 then evT f 161 8 [oR 78 0, oI a1, oI a2, oI a3] [] s else evT f 161 11 [oR 78 0, oI a1, oI a2, oI a3] [] s) (fun _ => rfl) (rg_if h (fun h => ?_) fun h => ?_)
  · exact rg_end 2 (fun _ => rfl) (by cases h; rfl)
  · refine rg_step 4 (G' := fun f => ev_after (evT f 308 0 [oI a2, oI (cI 1), oI (cI 99)] [] s) (fun q => evT f 161 18 [oR 78 0, oI a1, oI a2, oI a3] (q.2 ++ []) q.1)) (fun _ => rfl) (rg_bd1 h fun v2 hc h => rg_call (q := cvP s v2) (T_fPH_outside hc) ?_)
    refine rg_step 1 (G' := fun f => if v2 = 0 then evT f 161 21 [oR 78 0, oI a1, oI a2, oI a3] [] s else evT f 161 31 [oR 78 0, oI a1, oI a2, oI a3] [] s) (fun _ => rfl) (rg_if h (fun h => ?_) fun h => ?_)
    · refine rg_step 4 (G' := fun f => ev_after (evT f 308 0 [oI a3, oI (cI 1), oI (cI 100000)] [] s) (fun q => evT f 161 28 [oR 78 0, oI a1, oI a2, oI a3] (q.2 ++ []) q.1)) (fun _ => rfl) (rg_bd1 h fun v3 hc h => rg_call (q := cvP s v3) (T_fPH_outside hc) ?_)
      refine rg_step 1 (G' := fun f => if v3 = 0 then evT f 161 34 [oR 78 0, oI a1, oI a2, oI a3] [] s else evT f 161 31 [oR 78 0, oI a1, oI a2, oI a3] [] s) (fun _ => rfl) (rg_if h (fun h => ?_) fun h => ?_)
      · refine rg_step 4 (G' := fun f => if inb a1 34 = true then evT f 161 40 [oR 78 0, oI a1, oI a2, oI a3] [vL (s.2.1 80 (ix a1))] s else none) (fun _ => rfl) (rg_gd h fun h => ?_)
        refine rg_step 4 (G' := fun f => if (lg_cmp (s.2.1 80 (ix a1)) (Int32.toInt64 a3)) < 0 then evT f 161 46 [oR 78 0, oI a1, oI a2, oI a3] [] s else evT f 161 49 [oR 78 0, oI a1, oI a2, oI a3] [] s) (fun _ => rfl) (rg_if h (fun h => ?_) fun h => ?_)
        · exact rg_end 2 (fun _ => rfl) (by cases h; rfl)
        · refine rg_step 4 (G' := fun f => if (s.1 78 8) < (cI 60) then evT f 161 58 [oR 78 0, oI a1, oI a2, oI a3] [] s else evT f 161 76 [oR 78 0, oI a1, oI a2, oI a3] [] s) (fun _ => rfl) (rg_if h (fun h => ?_) fun h => ?_)
          · refine rg_step 3 (G' := fun f => ev_after (evT f 152 0 [oR 78 0, oI (cI 2)] [] s) (fun q => evT f 161 63 [oR 78 0, oI a1, oI a2, oI a3] (q.2 ++ []) q.1)) (fun _ => rfl) (rg_bd1 h fun v4 hc h => rg_call (q := cvP s v4) (T_fMoney_hasRoomFor hc) ?_)
            refine rg_step 1 (G' := fun f => if v4 = 0 then evT f 161 76 [oR 78 0, oI a1, oI a2, oI a3] [] s else evT f 161 66 [oR 78 0, oI a1, oI a2, oI a3] [] s) (fun _ => rfl) (rg_if h (fun h => ?_) fun h => ?_)
            · exact rg_end 2 (fun _ => rfl) (by cases h; rfl)
            · refine rg_step 3 (G' := fun f => ev_after (evT f 123 0 [oR 9 0, nn] [] s) (fun q => evT f 161 73 [oR 78 0, oI a1, oI a2, oI a3] (q.2 ++ []) q.1)) (fun _ => rfl) (rg_bd2 h fun s5 v6 hc h => rg_call (q := cvI (s5, v6)) (T_fLog_admits hc) ?_)
              refine rg_step 1 (G' := fun f => if v6 = 0 then evT f 161 76 [oR 78 0, oI a1, oI a2, oI a3] [] s5 else evT f 161 79 [oR 78 0, oI a1, oI a2, oI a3] [] s5) (fun _ => rfl) (rg_if h (fun h => ?_) fun h => ?_)
              · exact rg_end 2 (fun _ => rfl) (by cases h; rfl)
              · refine rg_step 6 (G' := fun f => ev_after (evT f 153 0 [oR 78 0, oI a1, oI (cI 3), oI a3, oI (cI (-1))] [] s5) (fun q => evT f 161 87 [oR 78 0, oI a1, oI a2, oI a3] (q.2 ++ []) q.1)) (fun _ => rfl) (rg_bd1 h fun s7 hc h => rg_call (q := cvV s7) (T_fMoney_transfer hc) ?_)
                refine rg_step 8 (G' := fun f => if inb (s7.1 78 8) 60 = true then evT f 161 99 [oR 78 0, oI a1, oI a2, oI a3] [] (wI s7 (87 + (ix (cI 0))) (ix (s7.1 78 8)) (cI 0)) else none) (fun _ => rfl) (rg_gd h fun h => rg_ltM h fun s8 h => ?_)
                refine rg_step 8 (G' := fun f => if inb (s8.1 78 8) 60 = true then evT f 161 111 [oR 78 0, oI a1, oI a2, oI a3] [] (wI s8 (87 + (ix (cI 1))) (ix (s8.1 78 8)) a1) else none) (fun _ => rfl) (rg_gd h fun h => rg_ltM h fun s9 h => ?_)
                refine rg_step 8 (G' := fun f => if inb (s9.1 78 8) 60 = true then evT f 161 123 [oR 78 0, oI a1, oI a2, oI a3] [] (wI s9 (87 + (ix (cI 2))) (ix (s9.1 78 8)) a2) else none) (fun _ => rfl) (rg_gd h fun h => rg_ltM h fun s10 h => ?_)
                refine rg_step 8 (G' := fun f => if inb (s10.1 78 8) 60 = true then evT f 161 135 [oR 78 0, oI a1, oI a2, oI a3] [] (wI s10 (87 + (ix (cI 3))) (ix (s10.1 78 8)) a3) else none) (fun _ => rfl) (rg_gd h fun h => rg_ltM h fun s11 h => ?_)
                refine rg_step 9 (G' := fun f => ev_after (evT f 41 0 [oR 15 0] [] s11) (fun q => evT f 161 152 [oR 78 0, oI a1, oI a2, oI a3] (q.2 ++ [vI (s11.1 78 8), vR 87 (ix (cI 4))]) q.1)) (fun _ => rfl) (rg_bd1 h fun v12 hc h => rg_call (q := cvP s11 v12) (T_fChron_today hc) ?_)
                refine rg_step 3 (G' := fun f => if inb (s11.1 78 8) 60 = true then evT f 161 156 [oR 78 0, oI a1, oI a2, oI a3] [] (wI s11 (87 + (ix (cI 4))) (ix (s11.1 78 8)) (v12 + (cI 30))) else none) (fun _ => rfl) (rg_gd h fun h => rg_ltM h fun s13 h => ?_)
                refine rg_step 6 (G' := fun f => evT f 161 166 [oR 78 0, oI a1, oI a2, oI a3] [] (wI s13 78 9 ((s13.1 78 9) + (cI 1)))) (fun _ => rfl) (rg_ltM h fun s14 h => ?_)
                refine rg_step 7 (G' := fun f => evT f 161 177 [oR 78 0, oI a1, oI a2, oI a3] [vI (s14.1 78 8)] (wI s14 78 8 ((s14.1 78 8) + (cI 1)))) (fun _ => rfl) (rg_ltM h fun s15 h => ?_)
                exact rg_end 1 (fun _ => rfl) (by cases h; rfl)
          · exact rg_end 2 (fun _ => rfl) (by cases h; rfl)
      · exact rg_end 2 (fun _ => rfl) (by cases h; rfl)
    · exact rg_end 2 (fun _ => rfl) (by cases h; rfl)
theorem T_fMoney_hasOrder {s : ev_M} {a1 : Int32} {q : Int32} (h : fMoney_hasOrder s a1 = some q) : RR 160 0 [oR 78 0, oI a1] [] s (cvP s q) := by
  refine rg_step 7 (G' := fun f => ev_after (evT f 308 0 [oI a1, oI (cI 0), oI ((s.1 78 8) - (cI 1))] [] s) (fun q => evT f 160 11 [oR 78 0, oI a1] (q.2 ++ []) q.1)) (fun _ => rfl) (rg_bd1 h fun v1 hc h => rg_call (q := cvP s v1) (T_fPH_outside hc) ?_)
  refine rg_step 1 (G' := fun f => if v1 = 0 then evT f 160 14 [oR 78 0, oI a1] [] s else evT f 160 18 [oR 78 0, oI a1] [] s) (fun _ => rfl) (rg_if h (fun h => ?_) fun h => ?_)
  · exact rg_end 3 (fun _ => rfl) (by cases h; rfl)
  · exact rg_end 2 (fun _ => rfl) (by cases h; rfl)
theorem T_fMoney_settle {s : ev_M} {a1 : Int32} {a2 : Int32} {a3 : Int32} {q : ev_M} (h : fMoney_settle s a1 a2 a3 = some q) : RR 164 0 [oR 78 0, oI a1, oI a2, oI a3] [] s (cvV q) := by
  refine rg_step 9 (G' := fun f => if inb a1 60 = true then evT f 164 11 [oR 78 0, oI a1, oI a2, oI a3] [vI (s.1 (87 + (ix (cI 3))) (ix a1)), vI a3, vI (cI 3), vR 78 0] s else none) (fun _ => rfl) (rg_gd h fun h => ?_)
  refine rg_step 2 (G' := fun f => ev_after (evT f 153 0 [oR 78 0, oI (cI 3), oI a3, oI (s.1 (87 + (ix (cI 3))) (ix a1)), oI (cI (-1))] [] s) (fun q => evT f 164 15 [oR 78 0, oI a1, oI a2, oI a3] (q.2 ++ []) q.1)) (fun _ => rfl) (rg_bd1 h fun s1 hc h => rg_call (q := cvV s1) (T_fMoney_transfer hc) ?_)
  refine rg_step 7 (G' := fun f => if inb a1 60 = true then evT f 164 24 [oR 78 0, oI a1, oI a2, oI a3] [] (wI s1 (87 + (ix (cI 0))) (ix a1) a2) else none) (fun _ => rfl) (rg_gd h fun h => rg_ltM h fun s2 h => ?_)
  refine rg_step 6 (G' := fun f => evT f 164 34 [oR 78 0, oI a1, oI a2, oI a3] [] (wI s2 78 9 ((s2.1 78 9) - (cI 1)))) (fun _ => rfl) (rg_ltM h fun s3 h => ?_)
  exact rg_end 1 (fun _ => rfl) (by cases h; rfl)
theorem T_fMoney_payOrder {s : ev_M} {a1 : Int32} {a2 : Int32} {a3 : Int32} {q : ev_M × Int32} (h : fMoney_payOrder s a1 a2 a3 = some q) : RR 162 0 [oR 78 0, oI a1, oI a2, oI a3] [] s (cvI q) := by
  refine rg_step 3 (G' := fun f => ev_after (evT f 160 0 [oR 78 0, oI a1] [] s) (fun q => evT f 162 5 [oR 78 0, oI a1, oI a2, oI a3] (q.2 ++ []) q.1)) (fun _ => rfl) (rg_bd1 h fun v1 hc h => rg_call (q := cvP s v1) (T_fMoney_hasOrder hc) ?_)
  refine rg_step 1 (G' := fun f => if v1 = 0 then evT f 162 8 [oR 78 0, oI a1, oI a2, oI a3] [] s else evT f 162 11 [oR 78 0, oI a1, oI a2, oI a3] [] s) (fun _ => rfl) (rg_if h (fun h => ?_) fun h => ?_)
  · exact rg_end 2 (fun _ => rfl) (by cases h; rfl)
  · refine rg_step 4 (G' := fun f => ev_after (evT f 308 0 [oI a2, oI (cI 1), oI (cI 99)] [] s) (fun q => evT f 162 18 [oR 78 0, oI a1, oI a2, oI a3] (q.2 ++ []) q.1)) (fun _ => rfl) (rg_bd1 h fun v2 hc h => rg_call (q := cvP s v2) (T_fPH_outside hc) ?_)
    refine rg_step 1 (G' := fun f => if v2 = 0 then evT f 162 21 [oR 78 0, oI a1, oI a2, oI a3] [] s else evT f 162 32 [oR 78 0, oI a1, oI a2, oI a3] [] s) (fun _ => rfl) (rg_if h (fun h => ?_) fun h => ?_)
    · refine rg_step 4 (G' := fun f => ev_after (evT f 308 0 [oI a3, oI (cI 0), oI (cI 9999)] [] s) (fun q => evT f 162 29 [oR 78 0, oI a1, oI a2, oI a3] (q.2 ++ []) q.1)) (fun _ => rfl) (rg_bd1 h fun v3 hc h => rg_call (q := cvP s v3) (T_fPH_outside hc) ?_)
      refine rg_step 1 (G' := fun f => if v3 = 0 then evT f 162 35 [oR 78 0, oI a1, oI a2, oI a3] [] s else evT f 162 32 [oR 78 0, oI a1, oI a2, oI a3] [] s) (fun _ => rfl) (rg_if h (fun h => ?_) fun h => ?_)
      · refine rg_step 6 (G' := fun f => if inb a1 60 = true then evT f 162 43 [oR 78 0, oI a1, oI a2, oI a3] [vI (s.1 (87 + (ix (cI 0))) (ix a1))] s else none) (fun _ => rfl) (rg_gd h fun h => ?_)
        refine rg_step 1 (G' := fun f => if (s.1 (87 + (ix (cI 0))) (ix a1)) = 0 then evT f 162 49 [oR 78 0, oI a1, oI a2, oI a3] [] s else evT f 162 46 [oR 78 0, oI a1, oI a2, oI a3] [] s) (fun _ => rfl) (rg_if h (fun h => ?_) fun h => ?_)
        · refine rg_step 6 (G' := fun f => if inb a1 60 = true then evT f 162 57 [oR 78 0, oI a1, oI a2, oI a3] [vI (s.1 (87 + (ix (cI 2))) (ix a1))] s else none) (fun _ => rfl) (rg_gd h fun h => ?_)
          refine rg_step 2 (G' := fun f => if (s.1 (87 + (ix (cI 2))) (ix a1)) = a2 then evT f 162 64 [oR 78 0, oI a1, oI a2, oI a3] [] s else evT f 162 61 [oR 78 0, oI a1, oI a2, oI a3] [] s) (fun _ => rfl) (rg_if h (fun h => ?_) fun h => ?_)
          · refine rg_step 2 (G' := fun f => if a3 = 0 then evT f 162 68 [oR 78 0, oI a1, oI a2, oI a3] [] s else evT f 162 71 [oR 78 0, oI a1, oI a2, oI a3] [] s) (fun _ => rfl) (rg_if h (fun h => ?_) fun h => ?_)
            · exact rg_end 2 (fun _ => rfl) (by cases h; rfl)
            · refine rg_step 3 (G' := fun f => ev_after (evT f 123 0 [oR 9 0, nn] [] s) (fun q => evT f 162 78 [oR 78 0, oI a1, oI a2, oI a3] (q.2 ++ []) q.1)) (fun _ => rfl) (rg_bd2 h fun s4 v5 hc h => rg_call (q := cvI (s4, v5)) (T_fLog_admits hc) ?_)
              refine rg_step 1 (G' := fun f => if v5 = 0 then evT f 162 81 [oR 78 0, oI a1, oI a2, oI a3] [] s4 else evT f 162 84 [oR 78 0, oI a1, oI a2, oI a3] [] s4) (fun _ => rfl) (rg_if h (fun h => ?_) fun h => ?_)
              · exact rg_end 2 (fun _ => rfl) (by cases h; rfl)
              · refine rg_step 5 (G' := fun f => ev_after (evT f 164 0 [oR 78 0, oI a1, oI (cI 1), oI (cI 1)] [] s4) (fun q => evT f 162 91 [oR 78 0, oI a1, oI a2, oI a3] (q.2 ++ []) q.1)) (fun _ => rfl) (rg_bd1 h fun s6 hc h => rg_call (q := cvV s6) (T_fMoney_settle hc) ?_)
                refine rg_step 6 (G' := fun f => if inb a1 60 = true then evT f 162 99 [oR 78 0, oI a1, oI a2, oI a3] [vI (s6.1 (87 + (ix (cI 3))) (ix a1))] s6 else none) (fun _ => rfl) (rg_gd h fun h => ?_)
                exact rg_end 1 (fun _ => rfl) (by cases h; rfl)
          · exact rg_end 2 (fun _ => rfl) (by cases h; rfl)
        · exact rg_end 2 (fun _ => rfl) (by cases h; rfl)
      · exact rg_end 2 (fun _ => rfl) (by cases h; rfl)
    · exact rg_end 2 (fun _ => rfl) (by cases h; rfl)
theorem T_fItems_claimFor {s : ev_M} {a1 : Int32} {a2 : Int32} {q : ev_M × Int32} (h : fItems_claimFor s a1 a2 = some q) : RR 82 0 [oR 100 0, oI a1, oI a2, nn] [] s (cvI q) := by
  refine rg_step 3 (G' := fun f => ev_after (evT f 51 0 [oR 100 0, oI a1] [] s) (fun q => evT f 82 5 [oR 100 0, oI a1, oI a2, nn] (q.2 ++ []) q.1)) (fun _ => rfl) (rg_bd1 h fun v1 hc h => rg_call (q := cvP s v1) (T_fItems_has hc) ?_)
  refine rg_step 1 (G' := fun f => if v1 = 0 then evT f 82 8 [oR 100 0, oI a1, oI a2, nn] [] s else evT f 82 11 [oR 100 0, oI a1, oI a2, nn] [] s) (fun _ => rfl) (rg_if h (fun h => ?_) fun h => ?_)
  · exact rg_end 2 (fun _ => rfl) (by cases h; rfl)
  · refine rg_step 4 (G' := fun f => ev_after (evT f 308 0 [oI a2, oI (cI 1), oI (cI 100000)] [] s) (fun q => evT f 82 18 [oR 100 0, oI a1, oI a2, nn] (q.2 ++ []) q.1)) (fun _ => rfl) (rg_bd1 h fun v2 hc h => rg_call (q := cvP s v2) (T_fPH_outside hc) ?_)
    refine rg_step 1 (G' := fun f => if v2 = 0 then evT f 82 24 [oR 100 0, oI a1, oI a2, nn] [] s else evT f 82 21 [oR 100 0, oI a1, oI a2, nn] [] s) (fun _ => rfl) (rg_if h (fun h => ?_) fun h => ?_)
    · refine rg_step 4 (G' := fun f => ev_after (evT f 52 0 [oR 100 0, oI a1, oI (cI 8)] [] s) (fun q => evT f 82 31 [oR 100 0, oI a1, oI a2, nn] (q.2 ++ []) q.1)) (fun _ => rfl) (rg_bd1 h fun v3 hc h => rg_call (q := cvP s v3) (T_fItems_is hc) ?_)
      refine rg_step 1 (G' := fun f => if v3 = 0 then evT f 82 56 [oR 100 0, oI a1, oI a2, nn] [] s else evT f 82 34 [oR 100 0, oI a1, oI a2, nn] [] s) (fun _ => rfl) (rg_if h (fun h => ?_) fun h => ?_)
      · exact rg_end 2 (fun _ => rfl) (by cases h; rfl)
      · refine rg_step 4 (G' := fun f => ev_after (evT f 53 0 [oR 100 0, oI a1, oI (cI 1)] [] s) (fun q => evT f 82 40 [oR 100 0, oI a1, oI a2, nn] (q.2 ++ []) q.1)) (fun _ => rfl) (rg_bd1 h fun v4 hc h => rg_call (q := cvP s v4) (T_fItems_serves hc) ?_)
        refine rg_step 1 (G' := fun f => if v4 = 0 then evT f 82 56 [oR 100 0, oI a1, oI a2, nn] [] s else evT f 82 43 [oR 100 0, oI a1, oI a2, nn] [] s) (fun _ => rfl) (rg_if h (fun h => ?_) fun h => ?_)
        · exact rg_end 2 (fun _ => rfl) (by cases h; rfl)
        · refine rg_step 6 (G' := fun f => if inb a1 300 = true then evT f 82 52 [oR 100 0, oI a1, oI a2, nn] [vI (s.1 (102 + (ix (cI 18))) (ix a1))] s else none) (fun _ => rfl) (rg_gd h fun h => ?_)
          refine rg_step 2 (G' := fun f => if (s.1 (102 + (ix (cI 18))) (ix a1)) = (cI 1) then evT f 82 56 [oR 100 0, oI a1, oI a2, nn] [] s else evT f 82 59 [oR 100 0, oI a1, oI a2, nn] [] s) (fun _ => rfl) (rg_if h (fun h => ?_) fun h => ?_)
          · exact rg_end 2 (fun _ => rfl) (by cases h; rfl)
          · refine rg_step 4 (G' := fun f => ev_after (evT f 152 0 [oR 78 0, oI (cI 1)] [] s) (fun q => evT f 82 67 [oR 100 0, oI a1, oI a2, nn] (q.2 ++ []) q.1)) (fun _ => rfl) (rg_bd1 h fun v5 hc h => rg_call (q := cvP s v5) (T_fMoney_hasRoomFor hc) ?_)
            refine rg_step 1 (G' := fun f => if v5 = 0 then evT f 82 80 [oR 100 0, oI a1, oI a2, nn] [] s else evT f 82 70 [oR 100 0, oI a1, oI a2, nn] [] s) (fun _ => rfl) (rg_if h (fun h => ?_) fun h => ?_)
            · exact rg_end 2 (fun _ => rfl) (by cases h; rfl)
            · refine rg_step 3 (G' := fun f => ev_after (evT f 123 0 [oR 9 0, nn] [] s) (fun q => evT f 82 77 [oR 100 0, oI a1, oI a2, nn] (q.2 ++ []) q.1)) (fun _ => rfl) (rg_bd2 h fun s6 v7 hc h => rg_call (q := cvI (s6, v7)) (T_fLog_admits hc) ?_)
              refine rg_step 1 (G' := fun f => if v7 = 0 then evT f 82 80 [oR 100 0, oI a1, oI a2, nn] [] s6 else evT f 82 83 [oR 100 0, oI a1, oI a2, nn] [] s6) (fun _ => rfl) (rg_if h (fun h => ?_) fun h => ?_)
              · exact rg_end 2 (fun _ => rfl) (by cases h; rfl)
              · refine rg_step 3 (G' := fun f => ev_after (evT f 535 0 [oI a2, oI (cI 5000)] [] s6) (fun q => evT f 82 90 [oR 100 0, oI a1, oI a2, nn] (q.2 ++ []) q.1)) (fun _ => rfl) (rg_bd1 h fun v8 hc h => rg_call (q := cvP s6 v8) (T_fMath_min hc) ?_)
                refine rg_step 10 (G' := fun f => if inb a1 300 = true then evT f 82 104 [oR 100 0, oI a1, oI a2, oI v8] [vI (s6.1 (102 + (ix (cI 4))) (ix a1)), vI (cI 2), vR 78 0] s6 else none) (fun _ => rfl) (rg_gd h fun h => ?_)
                refine rg_step 3 (G' := fun f => ev_after (evT f 153 0 [oR 78 0, oI (cI 2), oI (s6.1 (102 + (ix (cI 4))) (ix a1)), oI v8, oI a1] [] s6) (fun q => evT f 82 109 [oR 100 0, oI a1, oI a2, oI v8] (q.2 ++ []) q.1)) (fun _ => rfl) (rg_bd1 h fun s9 hc h => rg_call (q := cvV s9) (T_fMoney_transfer hc) ?_)
                refine rg_step 7 (G' := fun f => if inb a1 300 = true then evT f 82 119 [oR 100 0, oI a1, oI a2, oI v8] [] (wI s9 (102 + (ix (cI 18))) (ix a1) (cI 1)) else none) (fun _ => rfl) (rg_gd h fun h => rg_ltM h fun s10 h => ?_)
                exact rg_end 2 (fun _ => rfl) (by cases h; rfl)
    · exact rg_end 2 (fun _ => rfl) (by cases h; rfl)
theorem ti_fArr_fillI_130_h5 : ∀ (n : Nat) (s : ev_M) (i0 : Nat) (x1 : Int32) (x2 : Int32) (x3 : Int32) (q : ev_M), fArr_fillI_130_h5 n s i0 x1 x2 x3 = some q → RR 537 5 [oR 130 i0, oI x1, oI x2, oI x3] [] s (cvV q) := by
  intro n
  induction n with
  | zero => intro s i0 x1 x2 x3 q h; cases h
  | succ n ih =>
    have hk5 : ∀ {s : ev_M} {i0 : Nat} {x1 : Int32} {x2 : Int32} {x3 : Int32} {q : ev_M}, fArr_fillI_130_h5 n s i0 x1 x2 x3 = some q → RR 537 5 [oR 130 i0, oI x1, oI x2, oI x3] [] s (cvV q) := fun h => ih _ _ _ _ _ _ h
    intro s i0 x1 x2 x3 q h
    refine rg_step 3 (G' := fun f => if x2 < x3 then evT f 537 10 [oR 130 i0, oI x1, oI x2, oI x3] [] s else evT f 537 20 [oR 130 i0, oI x1, oI x2, oI x3] [] s) (fun _ => rfl) (rg_if h (fun h => ?_) fun h => ?_)
    · refine rg_step 4 (G' := fun f => if inb x2 10 = true then evT f 537 14 [oR 130 i0, oI x1, oI x2, oI x3] [] (wI s (130 + i0) (ix x2) x1) else none) (fun _ => rfl) (rg_gd h fun h => rg_ltM h fun s1 h => ?_)
      exact rg_step 2 (G' := fun f => evT f 537 5 [oR 130 i0, oI x1, oI (x2 + cI 1), oI x3] [] s1) (fun _ => rfl) (hk5 h)
    · exact rg_end 1 (fun _ => rfl) (by cases h; rfl)
theorem t_fArr_fillI_130_h5 {n : Nat} {s : ev_M} {i0 : Nat} {x1 : Int32} {x2 : Int32} {x3 : Int32} {q : ev_M} (h : fArr_fillI_130_h5 n s i0 x1 x2 x3 = some q) : RR 537 5 [oR 130 i0, oI x1, oI x2, oI x3] [] s (cvV q) := ti_fArr_fillI_130_h5 n s i0 x1 x2 x3 q h
theorem T_fArr_fillI_130 {s : ev_M} {i0 : Nat} {a1 : Int32} {q : ev_M} (h : fArr_fillI_130 s i0 a1 = some q) : RR 537 0 [oR 130 i0, oI a1, nn, nn] [] s (cvV q) := by
  exact rg_step 5 (G' := fun f => evT f 537 5 [oR 130 i0, oI a1, oI (cI 0), oI (cI 10)] [] s) (fun _ => rfl) ((t_fArr_fillI_130_h5) h)
theorem T_fLock_make {s : ev_M} {a1 : Int32} {a2 : Int32} {q : ev_M × Int32} (h : fLock_make s a1 a2 = some q) : RR 111 0 [oR 125 0, oI a1, oI a2] [] s (cvI q) := by
  refine rg_step 4 (G' := fun f => ev_after (evT f 27 0 [oR 30 0, oI a1] [] s) (fun q => evT f 111 8 [oR 125 0, oI a1, oI a2] (q.2 ++ []) q.1)) (fun _ => rfl) (rg_bd1 h fun v1 hc h => rg_call (q := cvP s v1) (T_fBook_hasPlace hc) ?_)
  refine rg_step 1 (G' := fun f => if v1 = 0 then evT f 111 11 [oR 125 0, oI a1, oI a2] [] s else evT f 111 14 [oR 125 0, oI a1, oI a2] [] s) (fun _ => rfl) (rg_if h (fun h => ?_) fun h => ?_)
  · exact rg_end 2 (fun _ => rfl) (by cases h; rfl)
  · refine rg_step 4 (G' := fun f => ev_after (evT f 308 0 [oI a2, oI (cI 1), oI (cI 10)] [] s) (fun q => evT f 111 21 [oR 125 0, oI a1, oI a2] (q.2 ++ []) q.1)) (fun _ => rfl) (rg_bd1 h fun v2 hc h => rg_call (q := cvP s v2) (T_fPH_outside hc) ?_)
    refine rg_step 1 (G' := fun f => if v2 = 0 then evT f 111 27 [oR 125 0, oI a1, oI a2] [] s else evT f 111 24 [oR 125 0, oI a1, oI a2] [] s) (fun _ => rfl) (rg_if h (fun h => ?_) fun h => ?_)
    · refine rg_step 4 (G' := fun f => if (s.1 125 3) < (cI 8) then evT f 111 36 [oR 125 0, oI a1, oI a2] [] s else evT f 111 46 [oR 125 0, oI a1, oI a2] [] s) (fun _ => rfl) (rg_if h (fun h => ?_) fun h => ?_)
      · refine rg_step 3 (G' := fun f => ev_after (evT f 123 0 [oR 9 0, nn] [] s) (fun q => evT f 111 43 [oR 125 0, oI a1, oI a2] (q.2 ++ []) q.1)) (fun _ => rfl) (rg_bd2 h fun s3 v4 hc h => rg_call (q := cvI (s3, v4)) (T_fLog_admits hc) ?_)
        refine rg_step 1 (G' := fun f => if v4 = 0 then evT f 111 46 [oR 125 0, oI a1, oI a2] [] s3 else evT f 111 49 [oR 125 0, oI a1, oI a2] [] s3) (fun _ => rfl) (rg_if h (fun h => ?_) fun h => ?_)
        · exact rg_end 2 (fun _ => rfl) (by cases h; rfl)
        · refine rg_step 6 (G' := fun f => if inb (s3.1 125 3) 8 = true then evT f 111 59 [oR 125 0, oI a1, oI a2] [] (wI s3 126 (ix (s3.1 125 3)) a1) else none) (fun _ => rfl) (rg_gd h fun h => rg_ltM h fun s5 h => ?_)
          refine rg_step 6 (G' := fun f => if inb (s5.1 125 3) 8 = true then evT f 111 69 [oR 125 0, oI a1, oI a2] [] (wI s5 127 (ix (s5.1 125 3)) a2) else none) (fun _ => rfl) (rg_gd h fun h => rg_ltM h fun s6 h => ?_)
          refine rg_step 6 (G' := fun f => if inb (s6.1 125 3) 8 = true then evT f 111 79 [oR 125 0, oI a1, oI a2] [] (wI s6 128 (ix (s6.1 125 3)) (cI 0)) else none) (fun _ => rfl) (rg_gd h fun h => rg_ltM h fun s7 h => ?_)
          refine rg_step 5 (G' := fun f => if inb (s7.1 125 3) 8 = true then evT f 111 88 [oR 125 0, oI a1, oI a2] [vR 130 (ix (s7.1 125 3))] s7 else none) (fun _ => rfl) (rg_gd h fun h => ?_)
          refine rg_step 2 (G' := fun f => ev_after (evT f 537 0 [oR 130 (ix (s7.1 125 3)), oI (cI (-1)), nn, nn] [] s7) (fun q => evT f 111 92 [oR 125 0, oI a1, oI a2] (q.2 ++ []) q.1)) (fun _ => rfl) (rg_bd1 h fun s8 hc h => rg_call (q := cvV s8) (T_fArr_fillI_130 hc) ?_)
          refine rg_step 7 (G' := fun f => evT f 111 103 [oR 125 0, oI a1, oI a2] [vI (s8.1 125 3)] (wI s8 125 3 ((s8.1 125 3) + (cI 1)))) (fun _ => rfl) (rg_ltM h fun s9 h => ?_)
          exact rg_end 1 (fun _ => rfl) (by cases h; rfl)
      · exact rg_end 2 (fun _ => rfl) (by cases h; rfl)
    · exact rg_end 2 (fun _ => rfl) (by cases h; rfl)
theorem T_fChron_setDevice {s : ev_M} {a1 : Int32} {a2 : Int32} {q : ev_M × Int32} (h : fChron_setDevice s a1 a2 = some q) : RR 47 0 [oR 15 0, oI a1, oI a2] [] s (cvI q) := by
  refine rg_step 4 (G' := fun f => ev_after (evT f 308 0 [oI a1, oI (cI 0), oI (cI 7)] [] s) (fun q => evT f 47 7 [oR 15 0, oI a1, oI a2] (q.2 ++ []) q.1)) (fun _ => rfl) (rg_bd1 h fun v1 hc h => rg_call (q := cvP s v1) (T_fPH_outside hc) ?_)
  refine rg_step 1 (G' := fun f => if v1 = 0 then evT f 47 13 [oR 15 0, oI a1, oI a2] [] s else evT f 47 10 [oR 15 0, oI a1, oI a2] [] s) (fun _ => rfl) (rg_if h (fun h => ?_) fun h => ?_)
  · refine rg_step 4 (G' := fun f => ev_after (evT f 308 0 [oI a2, oI (cI 0), oI (cI 1000000000)] [] s) (fun q => evT f 47 20 [oR 15 0, oI a1, oI a2] (q.2 ++ []) q.1)) (fun _ => rfl) (rg_bd1 h fun v2 hc h => rg_call (q := cvP s v2) (T_fPH_outside hc) ?_)
    refine rg_step 1 (G' := fun f => if v2 = 0 then evT f 47 26 [oR 15 0, oI a1, oI a2] [] s else evT f 47 23 [oR 15 0, oI a1, oI a2] [] s) (fun _ => rfl) (rg_if h (fun h => ?_) fun h => ?_)
    · refine rg_step 3 (G' := fun f => ev_after (evT f 123 0 [oR 9 0, nn] [] s) (fun q => evT f 47 33 [oR 15 0, oI a1, oI a2] (q.2 ++ []) q.1)) (fun _ => rfl) (rg_bd2 h fun s3 v4 hc h => rg_call (q := cvI (s3, v4)) (T_fLog_admits hc) ?_)
      refine rg_step 1 (G' := fun f => if v4 = 0 then evT f 47 36 [oR 15 0, oI a1, oI a2] [] s3 else evT f 47 39 [oR 15 0, oI a1, oI a2] [] s3) (fun _ => rfl) (rg_if h (fun h => ?_) fun h => ?_)
      · exact rg_end 2 (fun _ => rfl) (by cases h; rfl)
      · refine rg_step 8 (G' := fun f => if inb a1 8 = true then evT f 47 51 [oR 15 0, oI a1, oI a2] [] (wI s3 29 (ix a1) ((s3.1 15 1) - a2)) else none) (fun _ => rfl) (rg_gd h fun h => rg_ltM h fun s5 h => ?_)
        refine rg_step 4 (G' := fun f => if inb a1 8 = true then evT f 47 57 [oR 15 0, oI a1, oI a2] [vI (s5.1 29 (ix a1))] s5 else none) (fun _ => rfl) (rg_gd h fun h => ?_)
        exact rg_end 1 (fun _ => rfl) (by cases h; rfl)
    · exact rg_end 2 (fun _ => rfl) (by cases h; rfl)
  · exact rg_end 2 (fun _ => rfl) (by cases h; rfl)
theorem T_fChron_scanBy {s : ev_M} {a1 : Int32} {a2 : Int32} {a3 : Int32} {a4 : Int32} {q : ev_M × Int32} (h : fChron_scanBy s a1 a2 a3 a4 = some q) : RR 48 0 [oR 15 0, oI a1, oI a2, oI a3, oI a4, nn] [] s (cvI q) := by
  refine rg_step 4 (G' := fun f => ev_after (evT f 308 0 [oI a1, oI (cI 0), oI (cI 7)] [] s) (fun q => evT f 48 7 [oR 15 0, oI a1, oI a2, oI a3, oI a4, nn] (q.2 ++ []) q.1)) (fun _ => rfl) (rg_bd1 h fun v1 hc h => rg_call (q := cvP s v1) (T_fPH_outside hc) ?_)
  refine rg_step 1 (G' := fun f => if v1 = 0 then evT f 48 13 [oR 15 0, oI a1, oI a2, oI a3, oI a4, nn] [] s else evT f 48 10 [oR 15 0, oI a1, oI a2, oI a3, oI a4, nn] [] s) (fun _ => rfl) (rg_if h (fun h => ?_) fun h => ?_)
  · refine rg_step 4 (G' := fun f => ev_after (evT f 308 0 [oI a3, oI (cI 0), oI (cI 9)] [] s) (fun q => evT f 48 20 [oR 15 0, oI a1, oI a2, oI a3, oI a4, nn] (q.2 ++ []) q.1)) (fun _ => rfl) (rg_bd1 h fun v2 hc h => rg_call (q := cvP s v2) (T_fPH_outside hc) ?_)
    refine rg_step 1 (G' := fun f => if v2 = 0 then evT f 48 23 [oR 15 0, oI a1, oI a2, oI a3, oI a4, nn] [] s else evT f 48 34 [oR 15 0, oI a1, oI a2, oI a3, oI a4, nn] [] s) (fun _ => rfl) (rg_if h (fun h => ?_) fun h => ?_)
    · refine rg_step 4 (G' := fun f => ev_after (evT f 308 0 [oI a4, oI (cI 0), oI (cI 1000000000)] [] s) (fun q => evT f 48 31 [oR 15 0, oI a1, oI a2, oI a3, oI a4, nn] (q.2 ++ []) q.1)) (fun _ => rfl) (rg_bd1 h fun v3 hc h => rg_call (q := cvP s v3) (T_fPH_outside hc) ?_)
      refine rg_step 1 (G' := fun f => if v3 = 0 then evT f 48 37 [oR 15 0, oI a1, oI a2, oI a3, oI a4, nn] [] s else evT f 48 34 [oR 15 0, oI a1, oI a2, oI a3, oI a4, nn] [] s) (fun _ => rfl) (rg_if h (fun h => ?_) fun h => ?_)
      · refine rg_step 5 (G' := fun f => if inb a1 8 = true then evT f 48 45 [oR 15 0, oI a1, oI a2, oI a3, oI a4, nn] [vI (s.1 29 (ix a1)), vI a4] s else none) (fun _ => rfl) (rg_gd h fun h => ?_)
        refine rg_step 2 (G' := fun f => evT f 48 48 [oR 15 0, oI a1, oI a2, oI a3, oI a4, oI (a4 + (s.1 29 (ix a1)))] [] s) (fun _ => rfl) (rg_ltI (P := fun v4 => RG (fun f => evT f 48 48 [oR 15 0, oI a1, oI a2, oI a3, oI a4, oI v4] [] s) (cvI q)) h fun v4 h => ?_)
        refine rg_step 5 (G' := fun f => ev_after (evT f 308 0 [oI v4, oI (cI 0), oI (s.1 15 1)] [] s) (fun q => evT f 48 58 [oR 15 0, oI a1, oI a2, oI a3, oI a4, oI v4] (q.2 ++ []) q.1)) (fun _ => rfl) (rg_bd1 h fun v5 hc h => rg_call (q := cvP s v5) (T_fPH_outside hc) ?_)
        refine rg_step 1 (G' := fun f => if v5 = 0 then evT f 48 64 [oR 15 0, oI a1, oI a2, oI a3, oI a4, oI v4] [] s else evT f 48 61 [oR 15 0, oI a1, oI a2, oI a3, oI a4, oI v4] [] s) (fun _ => rfl) (rg_if h (fun h => ?_) fun h => ?_)
        · refine rg_step 3 (G' := fun f => ev_after (evT f 123 0 [oR 9 0, nn] [] s) (fun q => evT f 48 71 [oR 15 0, oI a1, oI a2, oI a3, oI a4, oI v4] (q.2 ++ []) q.1)) (fun _ => rfl) (rg_bd2 h fun s6 v7 hc h => rg_call (q := cvI (s6, v7)) (T_fLog_admits hc) ?_)
          refine rg_step 1 (G' := fun f => if v7 = 0 then evT f 48 74 [oR 15 0, oI a1, oI a2, oI a3, oI a4, oI v4] [] s6 else evT f 48 77 [oR 15 0, oI a1, oI a2, oI a3, oI a4, oI v4] [] s6) (fun _ => rfl) (rg_if h (fun h => ?_) fun h => ?_)
          · exact rg_end 2 (fun _ => rfl) (by cases h; rfl)
          · refine rg_step 8 (G' := fun f => ev_after (evT f 43 0 [oR 15 0, oI a2, oI ((cI 20) + a3), oI (cI (-1)), oI v4, nn, nn, nn, nn] [] s6) (fun q => evT f 48 89 [oR 15 0, oI a1, oI a2, oI a3, oI a4, oI v4] (q.2 ++ []) q.1)) (fun _ => rfl) (rg_bd1 h fun s8 hc h => rg_call (q := cvV s8) (T_fChron_keep hc) ?_)
            exact rg_end 2 (fun _ => rfl) (by cases h; rfl)
        · exact rg_end 2 (fun _ => rfl) (by cases h; rfl)
      · exact rg_end 2 (fun _ => rfl) (by cases h; rfl)
    · exact rg_end 2 (fun _ => rfl) (by cases h; rfl)
  · exact rg_end 2 (fun _ => rfl) (by cases h; rfl)
theorem T_fPH_scanItem {s : ev_M} {a1 : Int32} {a2 : Int32} {a3 : Int32} {a4 : Int32} {q : ev_M × Int32} (h : fPH_scanItem s a1 a2 a3 a4 = some q) : RR 304 0 [oR 0 0, oI a1, oI a2, oI a3, oI a4] [] s (cvI q) := by
  refine rg_step 4 (G' := fun f => ev_after (evT f 51 0 [oR 100 0, oI a2] [] s) (fun q => evT f 304 8 [oR 0 0, oI a1, oI a2, oI a3, oI a4] (q.2 ++ []) q.1)) (fun _ => rfl) (rg_bd1 h fun v1 hc h => rg_call (q := cvP s v1) (T_fItems_has hc) ?_)
  refine rg_step 1 (G' := fun f => if v1 = 0 then evT f 304 26 [oR 0 0, oI a1, oI a2, oI a3, oI a4] [] s else evT f 304 11 [oR 0 0, oI a1, oI a2, oI a3, oI a4] [] s) (fun _ => rfl) (rg_if h (fun h => ?_) fun h => ?_)
  · exact rg_end 2 (fun _ => rfl) (by cases h; rfl)
  · refine rg_step 7 (G' := fun f => ev_after (evT f 48 0 [oR 15 0, oI a1, oI a2, oI a3, oI a4, nn] [] s) (fun q => evT f 304 23 [oR 0 0, oI a1, oI a2, oI a3, oI a4] (q.2 ++ []) q.1)) (fun _ => rfl) (rg_bd2 h fun s2 v3 hc h => rg_call (q := cvI (s2, v3)) (T_fChron_scanBy hc) ?_)
    exact rg_end 2 (fun _ => rfl) (by cases h; rfl)
theorem t_fLines_arrive_b93 {k2 : ev_M → Int32 → Option ev_M} (hk2 : ∀ {s : ev_M} {x1 : Int32} {q : ev_M}, k2 s x1 = some q → RR 102 2 [oR 449 0, oI x1] [] s (cvV q)) {s : ev_M} {x1 : Int32} {q : ev_M} (h : fLines_arrive_b93 k2 s x1 = some q) : RR 102 93 [oR 449 0, oI x1] [] s (cvV q) := by
  exact rg_step 2 (G' := fun f => evT f 102 2 [oR 449 0, oI (x1 + cI 1)] [] s) (fun _ => rfl) (hk2 h)
theorem ti_fLines_arrive_h2 : ∀ (n : Nat) (s : ev_M) (x1 : Int32) (q : ev_M), fLines_arrive_h2 n s x1 = some q → RR 102 2 [oR 449 0, oI x1] [] s (cvV q) := by
  intro n
  induction n with
  | zero => intro s x1 q h; cases h
  | succ n ih =>
    have hk2 : ∀ {s : ev_M} {x1 : Int32} {q : ev_M}, fLines_arrive_h2 n s x1 = some q → RR 102 2 [oR 449 0, oI x1] [] s (cvV q) := fun h => ih _ _ _ h
    intro s x1 q h
    refine rg_step 4 (G' := fun f => if x1 < (s.1 449 6) then evT f 102 10 [oR 449 0, oI x1] [] s else evT f 102 99 [oR 449 0, oI x1] [] s) (fun _ => rfl) (rg_if h (fun h => ?_) fun h => ?_)
    · refine rg_step 6 (G' := fun f => if inb x1 80 = true then evT f 102 18 [oR 449 0, oI x1] [vI (s.1 (459 + (ix (cI 0))) (ix x1))] s else none) (fun _ => rfl) (rg_gd h fun h => ?_)
      refine rg_step 2 (G' := fun f => if (s.1 (459 + (ix (cI 0))) (ix x1)) = (cI 2) then evT f 102 22 [oR 449 0, oI x1] [] s else evT f 102 93 [oR 449 0, oI x1] [] s) (fun _ => rfl) (rg_if h (fun h => ?_) fun h => ?_)
      · refine rg_step 6 (G' := fun f => if inb x1 80 = true then evT f 102 30 [oR 449 0, oI x1] [vI (s.1 (459 + (ix (cI 5))) (ix x1))] s else none) (fun _ => rfl) (rg_gd h fun h => ?_)
        refine rg_step 4 (G' := fun f => if (s.1 (459 + (ix (cI 5))) (ix x1)) = (s.1 15 1) then evT f 102 43 [oR 449 0, oI x1] [] s else evT f 102 40 [oR 449 0, oI x1] [] s) (fun _ => rfl) (rg_if h (fun h => ?_) fun h => ?_)
        · refine rg_step 7 (G' := fun f => if inb x1 80 = true then evT f 102 52 [oR 449 0, oI x1] [] (wI s (459 + (ix (cI 0))) (ix x1) (cI 1)) else none) (fun _ => rfl) (rg_gd h fun h => rg_ltM h fun s1 h => ?_)
          refine rg_step 15 (G' := fun f => if inb x1 80 = true then evT f 102 73 [oR 449 0, oI x1] [vI (s1.1 (459 + (ix (cI 4))) (ix x1)), vR 451 (ix (cI 1)), vI x1, vR 459 (ix (cI 1))] s1 else none) (fun _ => rfl) (rg_gd h fun h => ?_)
          refine rg_step 1 (G' := fun f => if inb (s1.1 (459 + (ix (cI 4))) (ix x1)) 20 = true then evT f 102 74 [oR 449 0, oI x1] [vI (s1.1 (451 + (ix (cI 1))) (ix (s1.1 (459 + (ix (cI 4))) (ix x1)))), vI x1, vR 459 (ix (cI 1))] s1 else none) (fun _ => rfl) (rg_gd h fun h => ?_)
          refine rg_step 1 (G' := fun f => if inb x1 80 = true then evT f 102 75 [oR 449 0, oI x1] [] (wI s1 (459 + (ix (cI 1))) (ix x1) (s1.1 (451 + (ix (cI 1))) (ix (s1.1 (459 + (ix (cI 4))) (ix x1))))) else none) (fun _ => rfl) (rg_gd h fun h => rg_ltM h fun s2 h => ?_)
          refine rg_step 7 (G' := fun f => if inb x1 80 = true then evT f 102 84 [oR 449 0, oI x1] [] (wI s2 (459 + (ix (cI 4))) (ix x1) (cI (-1))) else none) (fun _ => rfl) (rg_gd h fun h => rg_ltM h fun s3 h => ?_)
          refine rg_step 7 (G' := fun f => if inb x1 80 = true then evT f 102 93 [oR 449 0, oI x1] [] (wI s3 (459 + (ix (cI 5))) (ix x1) (cI (-1))) else none) (fun _ => rfl) (rg_gd h fun h => rg_ltM h fun s4 h => ?_)
          exact (t_fLines_arrive_b93 hk2) h
        · exact rg_step 1 (G' := fun f => evT f 102 93 [oR 449 0, oI x1] [] s) (fun _ => rfl) ((t_fLines_arrive_b93 hk2) h)
      · exact (t_fLines_arrive_b93 hk2) h
    · exact rg_end 1 (fun _ => rfl) (by cases h; rfl)
theorem t_fLines_arrive_h2 {n : Nat} {s : ev_M} {x1 : Int32} {q : ev_M} (h : fLines_arrive_h2 n s x1 = some q) : RR 102 2 [oR 449 0, oI x1] [] s (cvV q) := ti_fLines_arrive_h2 n s x1 q h
theorem T_fLines_arrive {s : ev_M} {q : ev_M} (h : fLines_arrive s = some q) : RR 102 0 [oR 449 0, nn] [] s (cvV q) := by
  exact rg_step 2 (G' := fun f => evT f 102 2 [oR 449 0, oI (cI 0)] [] s) (fun _ => rfl) ((t_fLines_arrive_h2) h)
theorem t_fLines_reachBy_b127 {s : ev_M} {y1 : Int32} {y2 : Int32} {j0 : Option ev_V} {j1 : Option ev_V} {j2 : Option ev_V} {j3 : Option ev_V} {j4 : Option ev_V} {j5 : Option ev_V} {j6 : Option ev_V} {q : ev_M} (h : fLines_reachBy_b127 s y1 y2 = some q) : RR 100 127 [j0, j1, j2, j3, j4, j5, j6] [vI y2, vI y1, vR 547 0] s (cvV q) := by
  refine rg_step 1 (G' := fun f => if inb y1 12 = true then evT f 100 128 [nn, nn, nn, nn, nn, nn, nn] [] (wI s 547 (ix y1) y2) else none) (fun _ => rfl) (rg_gd h fun h => rg_ltM h fun s1 h => ?_)
  exact rg_end 1 (fun _ => rfl) (by cases h; rfl)
theorem t_fLines_reachBy_b94 {s : ev_M} {x1 : Int32} {x2 : Int32} {x3 : Int32} {x6 : Int32} {j4 : Option ev_V} {j5 : Option ev_V} {q : ev_M} (h : fLines_reachBy_b94 s x1 x2 x3 x6 = some q) : RR 100 94 [oR 449 0, oI x1, oI x2, oI x3, j4, j5, oI x6] [] s (cvV q) := by
  refine rg_step 5 (G' := fun f => if inb x3 12 = true then evT f 100 102 [oR 449 0, oI x1, oI x2, oI x3, nn, nn, oI x6] [] (wI s 546 (ix x3) x6) else none) (fun _ => rfl) (rg_gd h fun h => rg_ltM h fun s2 h => ?_)
  refine rg_step 7 (G' := fun f => if inb x2 12 = true then evT f 100 113 [oR 449 0, oI x1, oI x2, oI x3, nn, nn, oI x6] [vI (s2.1 547 (ix x2)), vI x3, vR 547 0] s2 else none) (fun _ => rfl) (rg_gd h fun h => ?_)
  refine rg_step 2 (G' := fun f => if (s2.1 547 (ix x2)) = (cI (-1)) then evT f 100 117 [oR 449 0, oI x1, oI x2, oI x3, nn, nn, oI x6] [vI x3, vR 547 0] s2 else evT f 100 121 [oR 449 0, oI x1, oI x2, oI x3, nn, nn, oI x6] [vI x3, vR 547 0] s2) (fun _ => rfl) (rg_if h (fun h => ?_) fun h => ?_)
  · exact rg_step 2 (G' := fun f => evT f 100 127 [oR 449 0, oI x1, oI x2, oI x3, nn, nn, oI x6] [vI x1, vI x3, vR 547 0] s2) (fun _ => rfl) ((t_fLines_reachBy_b127) h)
  · refine rg_step 4 (G' := fun f => if inb x2 12 = true then evT f 100 127 [oR 449 0, oI x1, oI x2, oI x3, nn, nn, oI x6] [vI (s2.1 547 (ix x2)), vI x3, vR 547 0] s2 else none) (fun _ => rfl) (rg_gd h fun h => ?_)
    exact (t_fLines_reachBy_b127) h
theorem t_fLines_reachBy_b57 {s : ev_M} {x1 : Int32} {x2 : Int32} {x3 : Int32} {y0 : Int32} {j4 : Option ev_V} {j5 : Option ev_V} {j6 : Option ev_V} {q : ev_M} (h : fLines_reachBy_b57 s x1 x2 x3 y0 = some q) : RR 100 57 [oR 449 0, oI x1, oI x2, oI x3, j4, j5, j6] [vI y0] s (cvV q) := by
  refine rg_step 8 (G' := fun f => if inb x1 20 = true then evT f 100 69 [oR 449 0, oI x1, oI x2, oI x3, nn, oI y0, nn] [vI (s.1 (451 + (ix (cI 3))) (ix x1)), vI y0] s else none) (fun _ => rfl) (rg_gd h fun h => ?_)
  refine rg_step 2 (G' := fun f => evT f 100 72 [oR 449 0, oI x1, oI x2, oI x3, nn, oI y0, oI (y0 + (s.1 (451 + (ix (cI 3))) (ix x1)))] [] s) (fun _ => rfl) (rg_ltI (P := fun v3 => RG (fun f => evT f 100 72 [oR 449 0, oI x1, oI x2, oI x3, nn, oI y0, oI v3] [] s) (cvV q)) h fun v3 h => ?_)
  refine rg_step 4 (G' := fun f => if inb x3 12 = true then evT f 100 78 [oR 449 0, oI x1, oI x2, oI x3, nn, oI y0, oI v3] [vI (s.1 546 (ix x3))] s else none) (fun _ => rfl) (rg_gd h fun h => ?_)
  refine rg_step 2 (G' := fun f => if (s.1 546 (ix x3)) = (cI (-1)) then evT f 100 94 [oR 449 0, oI x1, oI x2, oI x3, nn, oI y0, oI v3] [] s else evT f 100 82 [oR 449 0, oI x1, oI x2, oI x3, nn, oI y0, oI v3] [] s) (fun _ => rfl) (rg_if h (fun h => ?_) fun h => ?_)
  · exact (t_fLines_reachBy_b94) h
  · refine rg_step 4 (G' := fun f => if inb x3 12 = true then evT f 100 88 [oR 449 0, oI x1, oI x2, oI x3, nn, oI y0, oI v3] [vI (s.1 546 (ix x3))] s else none) (fun _ => rfl) (rg_gd h fun h => ?_)
    refine rg_step 2 (G' := fun f => if (s.1 546 (ix x3)) ≤ v3 then evT f 100 93 [oR 449 0, oI x1, oI x2, oI x3, nn, oI y0, oI v3] [] s else evT f 100 94 [oR 449 0, oI x1, oI x2, oI x3, nn, oI y0, oI v3] [] s) (fun _ => rfl) (rg_if h (fun h => ?_) fun h => ?_)
    · exact rg_end 1 (fun _ => rfl) (by cases h; rfl)
    · exact (t_fLines_reachBy_b94) h
theorem T_fLines_reachBy {s : ev_M} {a1 : Int32} {q : ev_M} (h : fLines_reachBy s a1 = some q) : RR 100 0 [oR 449 0, oI a1, nn, nn, nn, nn, nn] [] s (cvV q) := by
  refine rg_step 6 (G' := fun f => if inb a1 20 = true then evT f 100 8 [oR 449 0, oI a1, nn, nn, nn, nn, nn] [vI (s.1 (451 + (ix (cI 0))) (ix a1))] s else none) (fun _ => rfl) (rg_gd h fun h => ?_)
  refine rg_step 1 (G' := fun f => evT f 100 9 [oR 449 0, oI a1, oI (s.1 (451 + (ix (cI 0))) (ix a1)), nn, nn, nn, nn] [] s) (fun _ => rfl) (rg_ltI (P := fun v4 => RG (fun f => evT f 100 9 [oR 449 0, oI a1, oI v4, nn, nn, nn, nn] [] s) (cvV q)) h fun v4 h => ?_)
  refine rg_step 6 (G' := fun f => if inb a1 20 = true then evT f 100 17 [oR 449 0, oI a1, oI v4, nn, nn, nn, nn] [vI (s.1 (451 + (ix (cI 1))) (ix a1))] s else none) (fun _ => rfl) (rg_gd h fun h => ?_)
  refine rg_step 1 (G' := fun f => evT f 100 18 [oR 449 0, oI a1, oI v4, oI (s.1 (451 + (ix (cI 1))) (ix a1)), nn, nn, nn] [] s) (fun _ => rfl) (rg_ltI (P := fun v5 => RG (fun f => evT f 100 18 [oR 449 0, oI a1, oI v4, oI v5, nn, nn, nn] [] s) (cvV q)) h fun v5 h => ?_)
  refine rg_step 4 (G' := fun f => if inb v4 12 = true then evT f 100 24 [oR 449 0, oI a1, oI v4, oI v5, nn, nn, nn] [vI (s.1 546 (ix v4))] s else none) (fun _ => rfl) (rg_gd h fun h => ?_)
  refine rg_step 1 (G' := fun f => evT f 100 26 [oR 449 0, oI a1, oI v4, oI v5, oI (s.1 546 (ix v4)), nn, nn] [] s) (fun _ => rfl) (rg_ltI (P := fun v6 => RG (fun f => evT f 100 26 [oR 449 0, oI a1, oI v4, oI v5, oI v6, nn, nn] [] s) (cvV q)) h fun v6 h => ?_)
  refine rg_step 6 (G' := fun f => if inb a1 20 = true then evT f 100 34 [oR 449 0, oI a1, oI v4, oI v5, oI v6, nn, nn] [vI (s.1 (451 + (ix (cI 5))) (ix a1))] s else none) (fun _ => rfl) (rg_gd h fun h => ?_)
  refine rg_step 2 (G' := fun f => if (s.1 (451 + (ix (cI 5))) (ix a1)) < v6 then evT f 100 50 [oR 449 0, oI a1, oI v4, oI v5, oI v6, nn, nn] [] s else evT f 100 39 [oR 449 0, oI a1, oI v4, oI v5, oI v6, nn, nn] [] s) (fun _ => rfl) (rg_if h (fun h => ?_) fun h => ?_)
  · refine rg_step 4 (G' := fun f => ev_after (evT f 90 0 [oR 449 0, oI a1, oI v6] [] s) (fun q => evT f 100 57 [oR 449 0, oI a1, oI v4, oI v5, oI v6, nn, nn] (q.2 ++ []) q.1)) (fun _ => rfl) (rg_bd1 h fun v7 hc h => rg_call (q := cvP s v7) (T_fLines_firstFrom hc) ?_)
    exact (t_fLines_reachBy_b57) h
  · refine rg_step 6 (G' := fun f => if inb a1 20 = true then evT f 100 47 [oR 449 0, oI a1, oI v4, oI v5, oI v6, nn, nn] [vI (s.1 (451 + (ix (cI 5))) (ix a1))] s else none) (fun _ => rfl) (rg_gd h fun h => ?_)
    exact rg_step 1 (G' := fun f => evT f 100 57 [oR 449 0, oI a1, oI v4, oI v5, oI v6, nn, nn] [vI (s.1 (451 + (ix (cI 5))) (ix a1))] s) (fun _ => rfl) ((t_fLines_reachBy_b57) h)
theorem t_fLines_soonestReached_b59 {s : ev_M} {k4 : Int32 → Int32 → Option Int32} (hk4 : ∀ {x1 : Int32} {x2 : Int32} {q : Int32}, k4 x1 x2 = some q → RR 99 4 [oR 449 0, oI x1, oI x2] [] s (cvP s q)) {x1 : Int32} {x2 : Int32} {q : Int32} (h : fLines_soonestReached_b59 s k4 x1 x2 = some q) : RR 99 59 [oR 449 0, oI x1, oI x2] [] s (cvP s q) := by
  exact rg_step 2 (G' := fun f => evT f 99 4 [oR 449 0, oI x1, oI (x2 + cI 1)] [] s) (fun _ => rfl) (hk4 h)
theorem t_fLines_soonestReached_b57 {s : ev_M} {k4 : Int32 → Int32 → Option Int32} (hk4 : ∀ {x1 : Int32} {x2 : Int32} {q : Int32}, k4 x1 x2 = some q → RR 99 4 [oR 449 0, oI x1, oI x2] [] s (cvP s q)) {x2 : Int32} {j1 : Option ev_V} {q : Int32} (h : fLines_soonestReached_b57 s k4 x2 = some q) : RR 99 57 [oR 449 0, j1, oI x2] [] s (cvP s q) := by
  exact rg_step 2 (G' := fun f => evT f 99 59 [oR 449 0, oI x2, oI x2] [] s) (fun _ => rfl) ((t_fLines_soonestReached_b59 hk4) h)
theorem ti_fLines_soonestReached_h4 {s : ev_M} : ∀ (n : Nat) (x1 : Int32) (x2 : Int32) (q : Int32), fLines_soonestReached_h4 s n x1 x2 = some q → RR 99 4 [oR 449 0, oI x1, oI x2] [] s (cvP s q) := by
  intro n
  induction n with
  | zero => intro x1 x2 q h; cases h
  | succ n ih =>
    have hk4 : ∀ {x1 : Int32} {x2 : Int32} {q : Int32}, fLines_soonestReached_h4 s n x1 x2 = some q → RR 99 4 [oR 449 0, oI x1, oI x2] [] s (cvP s q) := fun h => ih _ _ _ h
    intro x1 x2 q h
    refine rg_step 5 (G' := fun f => if x2 < (s.1 30 2) then evT f 99 15 [oR 449 0, oI x1, oI x2] [] s else evT f 99 65 [oR 449 0, oI x1, oI x2] [] s) (fun _ => rfl) (rg_if h (fun h => ?_) fun h => ?_)
    · refine rg_step 4 (G' := fun f => if inb x2 12 = true then evT f 99 21 [oR 449 0, oI x1, oI x2] [vI (s.1 546 (ix x2))] s else none) (fun _ => rfl) (rg_gd h fun h => ?_)
      refine rg_step 2 (G' := fun f => if (s.1 546 (ix x2)) = (cI (-1)) then evT f 99 59 [oR 449 0, oI x1, oI x2] [] s else evT f 99 25 [oR 449 0, oI x1, oI x2] [] s) (fun _ => rfl) (rg_if h (fun h => ?_) fun h => ?_)
      · exact (t_fLines_soonestReached_b59 hk4) h
      · refine rg_step 4 (G' := fun f => if inb x2 12 = true then evT f 99 31 [oR 449 0, oI x1, oI x2] [vI (s.1 548 (ix x2))] s else none) (fun _ => rfl) (rg_gd h fun h => ?_)
        refine rg_step 1 (G' := fun f => if (s.1 548 (ix x2)) = 0 then evT f 99 37 [oR 449 0, oI x1, oI x2] [] s else evT f 99 34 [oR 449 0, oI x1, oI x2] [] s) (fun _ => rfl) (rg_if h (fun h => ?_) fun h => ?_)
        · refine rg_step 3 (G' := fun f => if x1 = (cI (-1)) then evT f 99 57 [oR 449 0, oI x1, oI x2] [] s else evT f 99 42 [oR 449 0, oI x1, oI x2] [] s) (fun _ => rfl) (rg_if h (fun h => ?_) fun h => ?_)
          · exact (t_fLines_soonestReached_b57 hk4) h
          · refine rg_step 4 (G' := fun f => if inb x2 12 = true then evT f 99 48 [oR 449 0, oI x1, oI x2] [vI (s.1 546 (ix x2))] s else none) (fun _ => rfl) (rg_gd h fun h => ?_)
            refine rg_step 4 (G' := fun f => if inb x1 12 = true then evT f 99 54 [oR 449 0, oI x1, oI x2] [vI (s.1 546 (ix x1)), vI (s.1 546 (ix x2))] s else none) (fun _ => rfl) (rg_gd h fun h => ?_)
            refine rg_step 1 (G' := fun f => if (s.1 546 (ix x2)) < (s.1 546 (ix x1)) then evT f 99 57 [oR 449 0, oI x1, oI x2] [] s else evT f 99 59 [oR 449 0, oI x1, oI x2] [] s) (fun _ => rfl) (rg_if h (fun h => ?_) fun h => ?_)
            · exact (t_fLines_soonestReached_b57 hk4) h
            · exact (t_fLines_soonestReached_b59 hk4) h
        · exact rg_step 1 (G' := fun f => evT f 99 59 [oR 449 0, oI x1, oI x2] [] s) (fun _ => rfl) ((t_fLines_soonestReached_b59 hk4) h)
    · exact rg_end 2 (fun _ => rfl) (by cases h; rfl)
theorem t_fLines_soonestReached_h4 {s : ev_M} {n : Nat} {x1 : Int32} {x2 : Int32} {q : Int32} (h : fLines_soonestReached_h4 s n x1 x2 = some q) : RR 99 4 [oR 449 0, oI x1, oI x2] [] s (cvP s q) := ti_fLines_soonestReached_h4 n x1 x2 q h
theorem T_fLines_soonestReached {s : ev_M} {q : Int32} (h : fLines_soonestReached s = some q) : RR 99 0 [oR 449 0, nn, nn] [] s (cvP s q) := by
  exact rg_step 4 (G' := fun f => evT f 99 4 [oR 449 0, oI (cI (-1)), oI (cI 0)] [] s) (fun _ => rfl) ((t_fLines_soonestReached_h4) h)
theorem t_fLines_search_b115 {k55 : ev_M → Int32 → Option ev_M} {k87 : ev_M → Int32 → Int32 → Int32 → Option ev_M} (hk55 : ∀ {s : ev_M} {x2 : Int32} {j1 : Option ev_V} {j3 : Option ev_V} {j4 : Option ev_V} {q : ev_M}, k55 s x2 = some q → RR 98 55 [oR 449 0, j1, oI x2, j3, j4] [] s (cvV q)) (hk87 : ∀ {s : ev_M} {x2 : Int32} {x3 : Int32} {x4 : Int32} {j1 : Option ev_V} {q : ev_M}, k87 s x2 x3 x4 = some q → RR 98 87 [oR 449 0, j1, oI x2, oI x3, oI x4] [] s (cvV q)) {s : ev_M} {x2 : Int32} {x3 : Int32} {x4 : Int32} {j1 : Option ev_V} {q : ev_M} (h : fLines_search_b115 k55 k87 s x2 x3 x4 = some q) : RR 98 115 [oR 449 0, j1, oI x2, oI x3, oI x4] [] s (cvV q) := by
  exact rg_step 2 (G' := fun f => evT f 98 87 [oR 449 0, nn, oI x2, oI x3, oI (x4 + cI 1)] [] s) (fun _ => rfl) (hk87 h)
theorem ti_fLines_search_h87 {k55 : ev_M → Int32 → Option ev_M} (hk55 : ∀ {s : ev_M} {x2 : Int32} {j1 : Option ev_V} {j3 : Option ev_V} {j4 : Option ev_V} {q : ev_M}, k55 s x2 = some q → RR 98 55 [oR 449 0, j1, oI x2, j3, j4] [] s (cvV q)) : ∀ (n : Nat) (s : ev_M) (x2 : Int32) (x3 : Int32) (x4 : Int32) (j1 : Option ev_V) (q : ev_M), fLines_search_h87 k55 n s x2 x3 x4 = some q → RR 98 87 [oR 449 0, j1, oI x2, oI x3, oI x4] [] s (cvV q) := by
  intro n
  induction n with
  | zero => intro s x2 x3 x4 j1 q h; cases h
  | succ n ih =>
    have hk87 : ∀ {s : ev_M} {x2 : Int32} {x3 : Int32} {x4 : Int32} {j1 : Option ev_V} {q : ev_M}, fLines_search_h87 k55 n s x2 x3 x4 = some q → RR 98 87 [oR 449 0, j1, oI x2, oI x3, oI x4] [] s (cvV q) := fun h => ih _ _ _ _ _ _ h
    intro s x2 x3 x4 j1 q h
    refine rg_step 4 (G' := fun f => if x4 < (s.1 449 4) then evT f 98 96 [oR 449 0, nn, oI x2, oI x3, oI x4] [] s else evT f 98 121 [oR 449 0, nn, oI x2, oI x3, oI x4] [] s) (fun _ => rfl) (rg_if h (fun h => ?_) fun h => ?_)
    · refine rg_step 6 (G' := fun f => if inb x4 20 = true then evT f 98 105 [oR 449 0, nn, oI x2, oI x3, oI x4] [vI (s.1 (451 + (ix (cI 0))) (ix x4))] s else none) (fun _ => rfl) (rg_gd h fun h => ?_)
      refine rg_step 2 (G' := fun f => if (s.1 (451 + (ix (cI 0))) (ix x4)) = x3 then evT f 98 109 [oR 449 0, nn, oI x2, oI x3, oI x4] [] s else evT f 98 115 [oR 449 0, nn, oI x2, oI x3, oI x4] [] s) (fun _ => rfl) (rg_if h (fun h => ?_) fun h => ?_)
      · refine rg_step 3 (G' := fun f => ev_after (evT f 100 0 [oR 449 0, oI x4, nn, nn, nn, nn, nn] [] s) (fun q => evT f 98 115 [oR 449 0, nn, oI x2, oI x3, oI x4] (q.2 ++ []) q.1)) (fun _ => rfl) (rg_bd1 h fun s1 hc h => rg_call (q := cvV s1) (T_fLines_reachBy hc) ?_)
        exact (t_fLines_search_b115 hk55 hk87) h
      · exact (t_fLines_search_b115 hk55 hk87) h
    · exact rg_step 2 (G' := fun f => evT f 98 55 [oR 449 0, nn, oI (x2 + cI 1), oI x3, oI x4] [] s) (fun _ => rfl) (hk55 h)
theorem t_fLines_search_h87 {k55 : ev_M → Int32 → Option ev_M} (hk55 : ∀ {s : ev_M} {x2 : Int32} {j1 : Option ev_V} {j3 : Option ev_V} {j4 : Option ev_V} {q : ev_M}, k55 s x2 = some q → RR 98 55 [oR 449 0, j1, oI x2, j3, j4] [] s (cvV q)) {n : Nat} {s : ev_M} {x2 : Int32} {x3 : Int32} {x4 : Int32} {j1 : Option ev_V} {q : ev_M} (h : fLines_search_h87 k55 n s x2 x3 x4 = some q) : RR 98 87 [oR 449 0, j1, oI x2, oI x3, oI x4] [] s (cvV q) := ti_fLines_search_h87 hk55 n s x2 x3 x4 j1 q h
theorem ti_fLines_search_h55 : ∀ (n : Nat) (s : ev_M) (x2 : Int32) (j1 : Option ev_V) (j3 : Option ev_V) (j4 : Option ev_V) (q : ev_M), fLines_search_h55 n s x2 = some q → RR 98 55 [oR 449 0, j1, oI x2, j3, j4] [] s (cvV q) := by
  intro n
  induction n with
  | zero => intro s x2 j1 j3 j4 q h; cases h
  | succ n ih =>
    have hk55 : ∀ {s : ev_M} {x2 : Int32} {j1 : Option ev_V} {j3 : Option ev_V} {j4 : Option ev_V} {q : ev_M}, fLines_search_h55 n s x2 = some q → RR 98 55 [oR 449 0, j1, oI x2, j3, j4] [] s (cvV q) := fun h => ih _ _ _ _ _ _ h
    intro s x2 j1 j3 j4 q h
    refine rg_step 5 (G' := fun f => if x2 < (s.1 30 2) then evT f 98 66 [oR 449 0, nn, oI x2, nn, nn] [] s else evT f 98 127 [oR 449 0, nn, oI x2, nn, nn] [] s) (fun _ => rfl) (rg_if h (fun h => ?_) fun h => ?_)
    · refine rg_step 2 (G' := fun f => ev_after (evT f 99 0 [oR 449 0, nn, nn] [] s) (fun q => evT f 98 70 [oR 449 0, nn, oI x2, nn, nn] (q.2 ++ []) q.1)) (fun _ => rfl) (rg_bd1 h fun v2 hc h => rg_call (q := cvP s v2) (T_fLines_soonestReached hc) ?_)
      refine rg_step 4 (G' := fun f => if v2 = (cI (-1)) then evT f 98 76 [oR 449 0, nn, oI x2, oI v2, nn] [] s else evT f 98 77 [oR 449 0, nn, oI x2, oI v2, nn] [] s) (fun _ => rfl) (rg_if h (fun h => ?_) fun h => ?_)
      · exact rg_end 1 (fun _ => rfl) (by cases h; rfl)
      · refine rg_step 5 (G' := fun f => if inb v2 12 = true then evT f 98 84 [oR 449 0, nn, oI x2, oI v2, nn] [] (wI s 548 (ix v2) ((cI 1) &&& 1)) else none) (fun _ => rfl) (rg_gd h fun h => rg_ltM h fun s3 h => ?_)
        exact rg_step 2 (G' := fun f => evT f 98 87 [oR 449 0, nn, oI x2, oI v2, oI (cI 0)] [] s3) (fun _ => rfl) ((t_fLines_search_h87 hk55) h)
    · exact rg_end 1 (fun _ => rfl) (by cases h; rfl)
theorem t_fLines_search_h55 {n : Nat} {s : ev_M} {x2 : Int32} {j1 : Option ev_V} {j3 : Option ev_V} {j4 : Option ev_V} {q : ev_M} (h : fLines_search_h55 n s x2 = some q) : RR 98 55 [oR 449 0, j1, oI x2, j3, j4] [] s (cvV q) := ti_fLines_search_h55 n s x2 j1 j3 j4 q h
theorem ti_fLines_search_h2 : ∀ (n : Nat) (s : ev_M) (x1 : Int32) (x2 : Int32) (j3 : Option ev_V) (j4 : Option ev_V) (q : ev_M), fLines_search_h2 n s x1 x2 = some q → RR 98 2 [oR 449 0, oI x1, oI x2, j3, j4] [] s (cvV q) := by
  intro n
  induction n with
  | zero => intro s x1 x2 j3 j4 q h; cases h
  | succ n ih =>
    have hk2 : ∀ {s : ev_M} {x1 : Int32} {x2 : Int32} {j3 : Option ev_V} {j4 : Option ev_V} {q : ev_M}, fLines_search_h2 n s x1 x2 = some q → RR 98 2 [oR 449 0, oI x1, oI x2, j3, j4] [] s (cvV q) := fun h => ih _ _ _ _ _ _ h
    intro s x1 x2 j3 j4 q h
    refine rg_step 5 (G' := fun f => if x2 < (s.1 30 2) then evT f 98 13 [oR 449 0, oI x1, oI x2, nn, nn] [] s else evT f 98 40 [oR 449 0, oI x1, oI x2, nn, nn] [] s) (fun _ => rfl) (rg_if h (fun h => ?_) fun h => ?_)
    · refine rg_step 5 (G' := fun f => if inb x2 12 = true then evT f 98 20 [oR 449 0, oI x1, oI x2, nn, nn] [] (wI s 546 (ix x2) (cI (-1))) else none) (fun _ => rfl) (rg_gd h fun h => rg_ltM h fun s4 h => ?_)
      refine rg_step 5 (G' := fun f => if inb x2 12 = true then evT f 98 27 [oR 449 0, oI x1, oI x2, nn, nn] [] (wI s4 547 (ix x2) (cI (-1))) else none) (fun _ => rfl) (rg_gd h fun h => rg_ltM h fun s5 h => ?_)
      refine rg_step 5 (G' := fun f => if inb x2 12 = true then evT f 98 34 [oR 449 0, oI x1, oI x2, nn, nn] [] (wI s5 548 (ix x2) ((cI 0) &&& 1)) else none) (fun _ => rfl) (rg_gd h fun h => rg_ltM h fun s6 h => ?_)
      exact rg_step 2 (G' := fun f => evT f 98 2 [oR 449 0, oI x1, oI (x2 + cI 1), nn, nn] [] s6) (fun _ => rfl) (hk2 h)
    · refine rg_step 7 (G' := fun f => if inb x1 12 = true then evT f 98 53 [oR 449 0, oI x1, oI x2, nn, nn] [] (wI s 546 (ix x1) (s.1 15 1)) else none) (fun _ => rfl) (rg_gd h fun h => rg_ltM h fun s7 h => ?_)
      exact rg_step 2 (G' := fun f => evT f 98 55 [oR 449 0, oI x1, oI (cI 0), nn, nn] [] s7) (fun _ => rfl) ((t_fLines_search_h55) h)
theorem t_fLines_search_h2 {n : Nat} {s : ev_M} {x1 : Int32} {x2 : Int32} {j3 : Option ev_V} {j4 : Option ev_V} {q : ev_M} (h : fLines_search_h2 n s x1 x2 = some q) : RR 98 2 [oR 449 0, oI x1, oI x2, j3, j4] [] s (cvV q) := ti_fLines_search_h2 n s x1 x2 j3 j4 q h
theorem T_fLines_search {s : ev_M} {a1 : Int32} {q : ev_M} (h : fLines_search s a1 = some q) : RR 98 0 [oR 449 0, oI a1, nn, nn, nn] [] s (cvV q) := by
  exact rg_step 2 (G' := fun f => evT f 98 2 [oR 449 0, oI a1, oI (cI 0), nn, nn] [] s) (fun _ => rfl) ((t_fLines_search_h2) h)
theorem t_fLines_carriedBy_b27 {s : ev_M} {k4 : Int32 → Int32 → Int32 → Option Int32} (hk4 : ∀ {x1 : Int32} {x2 : Int32} {x3 : Int32} {q : Int32}, k4 x1 x2 x3 = some q → RR 105 4 [oR 449 0, oI x1, oI x2, oI x3] [] s (cvP s q)) {x1 : Int32} {x2 : Int32} {x3 : Int32} {q : Int32} (h : fLines_carriedBy_b27 s k4 x1 x2 x3 = some q) : RR 105 27 [oR 449 0, oI x1, oI x2, oI x3] [] s (cvP s q) := by
  exact rg_step 2 (G' := fun f => evT f 105 4 [oR 449 0, oI x1, oI x2, oI (x3 + cI 1)] [] s) (fun _ => rfl) (hk4 h)
theorem ti_fLines_carriedBy_h4 {s : ev_M} : ∀ (n : Nat) (x1 : Int32) (x2 : Int32) (x3 : Int32) (q : Int32), fLines_carriedBy_h4 s n x1 x2 x3 = some q → RR 105 4 [oR 449 0, oI x1, oI x2, oI x3] [] s (cvP s q) := by
  intro n
  induction n with
  | zero => intro x1 x2 x3 q h; cases h
  | succ n ih =>
    have hk4 : ∀ {x1 : Int32} {x2 : Int32} {x3 : Int32} {q : Int32}, fLines_carriedBy_h4 s n x1 x2 x3 = some q → RR 105 4 [oR 449 0, oI x1, oI x2, oI x3] [] s (cvP s q) := fun h => ih _ _ _ _ h
    intro x1 x2 x3 q h
    refine rg_step 4 (G' := fun f => if x3 < (s.1 449 6) then evT f 105 12 [oR 449 0, oI x1, oI x2, oI x3] [] s else evT f 105 33 [oR 449 0, oI x1, oI x2, oI x3] [] s) (fun _ => rfl) (rg_if h (fun h => ?_) fun h => ?_)
    · refine rg_step 6 (G' := fun f => if inb x3 80 = true then evT f 105 20 [oR 449 0, oI x1, oI x2, oI x3] [vI (s.1 (459 + (ix (cI 4))) (ix x3))] s else none) (fun _ => rfl) (rg_gd h fun h => ?_)
      refine rg_step 2 (G' := fun f => if (s.1 (459 + (ix (cI 4))) (ix x3)) = x1 then evT f 105 24 [oR 449 0, oI x1, oI x2, oI x3] [] s else evT f 105 27 [oR 449 0, oI x1, oI x2, oI x3] [] s) (fun _ => rfl) (rg_if h (fun h => ?_) fun h => ?_)
      · exact rg_step 1 (G' := fun f => evT f 105 27 [oR 449 0, oI x1, oI (x2 + cI 1), oI x3] [] s) (fun _ => rfl) ((t_fLines_carriedBy_b27 hk4) h)
      · exact (t_fLines_carriedBy_b27 hk4) h
    · exact rg_end 2 (fun _ => rfl) (by cases h; rfl)
theorem t_fLines_carriedBy_h4 {s : ev_M} {n : Nat} {x1 : Int32} {x2 : Int32} {x3 : Int32} {q : Int32} (h : fLines_carriedBy_h4 s n x1 x2 x3 = some q) : RR 105 4 [oR 449 0, oI x1, oI x2, oI x3] [] s (cvP s q) := ti_fLines_carriedBy_h4 n x1 x2 x3 q h
theorem T_fLines_carriedBy {s : ev_M} {a1 : Int32} {q : Int32} (h : fLines_carriedBy s a1 = some q) : RR 105 0 [oR 449 0, oI a1, nn, nn] [] s (cvP s q) := by
  exact rg_step 4 (G' := fun f => evT f 105 4 [oR 449 0, oI a1, oI (cI 0), oI (cI 0)] [] s) (fun _ => rfl) ((t_fLines_carriedBy_h4) h)
theorem t_fLines_load_b158 {k29 : ev_M → Int32 → Int32 → Int32 → Option ev_M} (hk29 : ∀ {s : ev_M} {x1 : Int32} {x2 : Int32} {x3 : Int32} {j4 : Option ev_V} {q : ev_M}, k29 s x1 x2 x3 = some q → RR 104 29 [oR 449 0, oI x1, oI x2, oI x3, j4] [] s (cvV q)) {s : ev_M} {x1 : Int32} {x2 : Int32} {x3 : Int32} {j4 : Option ev_V} {q : ev_M} (h : fLines_load_b158 k29 s x1 x2 x3 = some q) : RR 104 158 [oR 449 0, oI x1, oI x2, oI x3, j4] [] s (cvV q) := by
  exact rg_step 2 (G' := fun f => evT f 104 29 [oR 449 0, oI x1, oI x2, oI (x3 + cI 1), nn] [] s) (fun _ => rfl) (hk29 h)
theorem t_fLines_load_b77 {k29 : ev_M → Int32 → Int32 → Int32 → Option ev_M} (hk29 : ∀ {s : ev_M} {x1 : Int32} {x2 : Int32} {x3 : Int32} {j4 : Option ev_V} {q : ev_M}, k29 s x1 x2 x3 = some q → RR 104 29 [oR 449 0, oI x1, oI x2, oI x3, j4] [] s (cvV q)) {s : ev_M} {x1 : Int32} {x2 : Int32} {x3 : Int32} {y0 : Int32} {j4 : Option ev_V} {q : ev_M} (h : fLines_load_b77 k29 s x1 x2 x3 y0 = some q) : RR 104 77 [oR 449 0, oI x1, oI x2, oI x3, j4] [vI y0] s (cvV q) := by
  refine rg_step 3 (G' := fun f => if y0 = 0 then evT f 104 158 [oR 449 0, oI x1, oI x2, oI x3, oI y0] [] s else evT f 104 84 [oR 449 0, oI x1, oI x2, oI x3, oI y0] [] s) (fun _ => rfl) (rg_if h (fun h => ?_) fun h => ?_)
  · exact (t_fLines_load_b158 hk29) h
  · refine rg_step 8 (G' := fun f => if inb x3 80 = true then evT f 104 96 [oR 449 0, oI x1, oI x2, oI x3, oI y0] [vI (s.1 (459 + (ix (cI 2))) (ix x3)), vR 547 0] s else none) (fun _ => rfl) (rg_gd h fun h => ?_)
    refine rg_step 1 (G' := fun f => if inb (s.1 (459 + (ix (cI 2))) (ix x3)) 12 = true then evT f 104 97 [oR 449 0, oI x1, oI x2, oI x3, oI y0] [vI (s.1 547 (ix (s.1 (459 + (ix (cI 2))) (ix x3))))] s else none) (fun _ => rfl) (rg_gd h fun h => ?_)
    refine rg_step 2 (G' := fun f => if (s.1 547 (ix (s.1 (459 + (ix (cI 2))) (ix x3)))) = x1 then evT f 104 104 [oR 449 0, oI x1, oI x2, oI x3, oI y0] [] s else evT f 104 101 [oR 449 0, oI x1, oI x2, oI x3, oI y0] [] s) (fun _ => rfl) (rg_if h (fun h => ?_) fun h => ?_)
    · refine rg_step 7 (G' := fun f => if inb x3 80 = true then evT f 104 113 [oR 449 0, oI x1, oI x2, oI x3, oI y0] [] (wI s (459 + (ix (cI 0))) (ix x3) (cI 2)) else none) (fun _ => rfl) (rg_gd h fun h => rg_ltM h fun s1 h => ?_)
      refine rg_step 7 (G' := fun f => if inb x3 80 = true then evT f 104 122 [oR 449 0, oI x1, oI x2, oI x3, oI y0] [] (wI s1 (459 + (ix (cI 1))) (ix x3) (cI (-1))) else none) (fun _ => rfl) (rg_gd h fun h => rg_ltM h fun s2 h => ?_)
      refine rg_step 7 (G' := fun f => if inb x3 80 = true then evT f 104 131 [oR 449 0, oI x1, oI x2, oI x3, oI y0] [] (wI s2 (459 + (ix (cI 4))) (ix x3) x1) else none) (fun _ => rfl) (rg_gd h fun h => rg_ltM h fun s3 h => ?_)
      refine rg_step 14 (G' := fun f => if inb x1 20 = true then evT f 104 153 [oR 449 0, oI x1, oI x2, oI x3, oI y0] [vI (s3.1 (451 + (ix (cI 3))) (ix x1)), vI (s3.1 15 1), vI x3, vR 459 (ix (cI 5))] s3 else none) (fun _ => rfl) (rg_gd h fun h => ?_)
      refine rg_step 2 (G' := fun f => if inb x3 80 = true then evT f 104 155 [oR 449 0, oI x1, oI x2, oI x3, oI y0] [] (wI s3 (459 + (ix (cI 5))) (ix x3) ((s3.1 15 1) + (s3.1 (451 + (ix (cI 3))) (ix x1)))) else none) (fun _ => rfl) (rg_gd h fun h => rg_ltM h fun s4 h => ?_)
      exact rg_step 1 (G' := fun f => evT f 104 158 [oR 449 0, oI x1, oI (x2 + cI (-1)), oI x3, oI y0] [] s4) (fun f => Eq.trans (b := evT (f + 1) 104 155 [oR 449 0, oI x1, oI x2, oI x3, oI y0] [] s4) rfl ((ev_inc (f := f) (M := 104) (pc := 155) (i := 2) (n := 3) (c := (-1)) (r := 0) (dl := []) (L := [oR 449 0, oI x1, oI x2, oI x3, oI y0]) (L' := [oR 449 0, oI x1, oI (x2 + cI (-1)), oI x3, oI y0]) (s := s4) (y := x2) rfl rfl rfl).trans rfl)) ((t_fLines_load_b158 hk29) h)
    · exact rg_step 1 (G' := fun f => evT f 104 158 [oR 449 0, oI x1, oI x2, oI x3, oI y0] [] s) (fun _ => rfl) ((t_fLines_load_b158 hk29) h)
theorem t_fLines_load_b76 {k29 : ev_M → Int32 → Int32 → Int32 → Option ev_M} (hk29 : ∀ {s : ev_M} {x1 : Int32} {x2 : Int32} {x3 : Int32} {j4 : Option ev_V} {q : ev_M}, k29 s x1 x2 x3 = some q → RR 104 29 [oR 449 0, oI x1, oI x2, oI x3, j4] [] s (cvV q)) {s : ev_M} {x1 : Int32} {x2 : Int32} {x3 : Int32} {j4 : Option ev_V} {q : ev_M} (h : fLines_load_b76 k29 s x1 x2 x3 = some q) : RR 104 76 [oR 449 0, oI x1, oI x2, oI x3, j4] [] s (cvV q) := by
  exact rg_step 1 (G' := fun f => evT f 104 77 [oR 449 0, oI x1, oI x2, oI x3, nn] [vI (cI 0)] s) (fun _ => rfl) ((t_fLines_load_b77 hk29) h)
theorem ti_fLines_load_h29 : ∀ (n : Nat) (s : ev_M) (x1 : Int32) (x2 : Int32) (x3 : Int32) (j4 : Option ev_V) (q : ev_M), fLines_load_h29 n s x1 x2 x3 = some q → RR 104 29 [oR 449 0, oI x1, oI x2, oI x3, j4] [] s (cvV q) := by
  intro n
  induction n with
  | zero => intro s x1 x2 x3 j4 q h; cases h
  | succ n ih =>
    have hk29 : ∀ {s : ev_M} {x1 : Int32} {x2 : Int32} {x3 : Int32} {j4 : Option ev_V} {q : ev_M}, fLines_load_h29 n s x1 x2 x3 = some q → RR 104 29 [oR 449 0, oI x1, oI x2, oI x3, j4] [] s (cvV q) := fun h => ih _ _ _ _ _ _ h
    intro s x1 x2 x3 j4 q h
    refine rg_step 4 (G' := fun f => if x3 < (s.1 449 6) then evT f 104 37 [oR 449 0, oI x1, oI x2, oI x3, nn] [] s else evT f 104 164 [oR 449 0, oI x1, oI x2, oI x3, nn] [] s) (fun _ => rfl) (rg_if h (fun h => ?_) fun h => ?_)
    · refine rg_step 2 (G' := fun f => if x2 ≤ 0 then evT f 104 164 [oR 449 0, oI x1, oI x2, oI x3, nn] [] s else evT f 104 41 [oR 449 0, oI x1, oI x2, oI x3, nn] [] s) (fun _ => rfl) (rg_if h (fun h => ?_) fun h => ?_)
      · exact rg_end 1 (fun _ => rfl) (by cases h; rfl)
      · refine rg_step 6 (G' := fun f => if inb x3 80 = true then evT f 104 49 [oR 449 0, oI x1, oI x2, oI x3, nn] [vI (s.1 (459 + (ix (cI 0))) (ix x3))] s else none) (fun _ => rfl) (rg_gd h fun h => ?_)
        refine rg_step 2 (G' := fun f => if (s.1 (459 + (ix (cI 0))) (ix x3)) = (cI 1) then evT f 104 53 [oR 449 0, oI x1, oI x2, oI x3, nn] [] s else evT f 104 76 [oR 449 0, oI x1, oI x2, oI x3, nn] [] s) (fun _ => rfl) (rg_if h (fun h => ?_) fun h => ?_)
        · refine rg_step 6 (G' := fun f => if inb x3 80 = true then evT f 104 61 [oR 449 0, oI x1, oI x2, oI x3, nn] [vI (s.1 (459 + (ix (cI 1))) (ix x3))] s else none) (fun _ => rfl) (rg_gd h fun h => ?_)
          refine rg_step 6 (G' := fun f => if inb x1 20 = true then evT f 104 69 [oR 449 0, oI x1, oI x2, oI x3, nn] [vI (s.1 (451 + (ix (cI 0))) (ix x1)), vI (s.1 (459 + (ix (cI 1))) (ix x3))] s else none) (fun _ => rfl) (rg_gd h fun h => ?_)
          refine rg_step 1 (G' := fun f => if (s.1 (459 + (ix (cI 1))) (ix x3)) = (s.1 (451 + (ix (cI 0))) (ix x1)) then evT f 104 72 [oR 449 0, oI x1, oI x2, oI x3, nn] [] s else evT f 104 76 [oR 449 0, oI x1, oI x2, oI x3, nn] [] s) (fun _ => rfl) (rg_if h (fun h => ?_) fun h => ?_)
          · exact rg_step 2 (G' := fun f => evT f 104 77 [oR 449 0, oI x1, oI x2, oI x3, nn] [vI (cI 1)] s) (fun _ => rfl) ((t_fLines_load_b77 hk29) h)
          · exact (t_fLines_load_b76 hk29) h
        · exact (t_fLines_load_b76 hk29) h
    · exact rg_end 1 (fun _ => rfl) (by cases h; rfl)
theorem t_fLines_load_h29 {n : Nat} {s : ev_M} {x1 : Int32} {x2 : Int32} {x3 : Int32} {j4 : Option ev_V} {q : ev_M} (h : fLines_load_h29 n s x1 x2 x3 = some q) : RR 104 29 [oR 449 0, oI x1, oI x2, oI x3, j4] [] s (cvV q) := ti_fLines_load_h29 n s x1 x2 x3 j4 q h
theorem T_fLines_load {s : ev_M} {a1 : Int32} {q : ev_M} (h : fLines_load s a1 = some q) : RR 104 0 [oR 449 0, oI a1, nn, nn, nn] [] s (cvV q) := by
  refine rg_step 7 (G' := fun f => if inb a1 20 = true then evT f 104 9 [oR 449 0, oI a1, nn, nn, nn] [vI (s.1 (451 + (ix (cI 0))) (ix a1)), vR 449 0] s else none) (fun _ => rfl) (rg_gd h fun h => ?_)
  refine rg_step 1 (G' := fun f => ev_after (evT f 98 0 [oR 449 0, oI (s.1 (451 + (ix (cI 0))) (ix a1)), nn, nn, nn] [] s) (fun q => evT f 104 12 [oR 449 0, oI a1, nn, nn, nn] (q.2 ++ []) q.1)) (fun _ => rfl) (rg_bd1 h fun s5 hc h => rg_call (q := cvV s5) (T_fLines_search hc) ?_)
  refine rg_step 6 (G' := fun f => if inb a1 20 = true then evT f 104 20 [oR 449 0, oI a1, nn, nn, nn] [vI (s5.1 (451 + (ix (cI 4))) (ix a1))] s5 else none) (fun _ => rfl) (rg_gd h fun h => ?_)
  refine rg_step 3 (G' := fun f => ev_after (evT f 105 0 [oR 449 0, oI a1, nn, nn] [] s5) (fun q => evT f 104 25 [oR 449 0, oI a1, nn, nn, nn] (q.2 ++ [vI (s5.1 (451 + (ix (cI 4))) (ix a1))]) q.1)) (fun _ => rfl) (rg_bd1 h fun v6 hc h => rg_call (q := cvP s5 v6) (T_fLines_carriedBy hc) ?_)
  refine rg_step 2 (G' := fun f => evT f 104 27 [oR 449 0, oI a1, oI ((s5.1 (451 + (ix (cI 4))) (ix a1)) - v6), nn, nn] [] s5) (fun _ => rfl) (rg_ltI (P := fun v7 => RG (fun f => evT f 104 27 [oR 449 0, oI a1, oI v7, nn, nn] [] s5) (cvV q)) h fun v7 h => ?_)
  exact rg_step 2 (G' := fun f => evT f 104 29 [oR 449 0, oI a1, oI v7, oI (cI 0), nn] [] s5) (fun _ => rfl) ((t_fLines_load_h29) h)
theorem t_fLines_leaveAll_b41 {k2 : ev_M → Int32 → Option ev_M} (hk2 : ∀ {s : ev_M} {x1 : Int32} {q : ev_M}, k2 s x1 = some q → RR 103 2 [oR 449 0, oI x1] [] s (cvV q)) {s : ev_M} {x1 : Int32} {q : ev_M} (h : fLines_leaveAll_b41 k2 s x1 = some q) : RR 103 41 [oR 449 0, oI x1] [] s (cvV q) := by
  exact rg_step 2 (G' := fun f => evT f 103 2 [oR 449 0, oI (x1 + cI 1)] [] s) (fun _ => rfl) (hk2 h)
theorem ti_fLines_leaveAll_h2 : ∀ (n : Nat) (s : ev_M) (x1 : Int32) (q : ev_M), fLines_leaveAll_h2 n s x1 = some q → RR 103 2 [oR 449 0, oI x1] [] s (cvV q) := by
  intro n
  induction n with
  | zero => intro s x1 q h; cases h
  | succ n ih =>
    have hk2 : ∀ {s : ev_M} {x1 : Int32} {q : ev_M}, fLines_leaveAll_h2 n s x1 = some q → RR 103 2 [oR 449 0, oI x1] [] s (cvV q) := fun h => ih _ _ _ h
    intro s x1 q h
    refine rg_step 4 (G' := fun f => if x1 < (s.1 449 4) then evT f 103 10 [oR 449 0, oI x1] [] s else evT f 103 47 [oR 449 0, oI x1] [] s) (fun _ => rfl) (rg_if h (fun h => ?_) fun h => ?_)
    · refine rg_step 6 (G' := fun f => if inb x1 20 = true then evT f 103 18 [oR 449 0, oI x1] [vI (s.1 (451 + (ix (cI 5))) (ix x1))] s else none) (fun _ => rfl) (rg_gd h fun h => ?_)
      refine rg_step 4 (G' := fun f => if (s.1 (451 + (ix (cI 5))) (ix x1)) = (s.1 15 1) then evT f 103 31 [oR 449 0, oI x1] [] s else evT f 103 28 [oR 449 0, oI x1] [] s) (fun _ => rfl) (rg_if h (fun h => ?_) fun h => ?_)
      · refine rg_step 3 (G' := fun f => ev_after (evT f 104 0 [oR 449 0, oI x1, nn, nn, nn] [] s) (fun q => evT f 103 36 [oR 449 0, oI x1] (q.2 ++ []) q.1)) (fun _ => rfl) (rg_bd1 h fun s1 hc h => rg_call (q := cvV s1) (T_fLines_load hc) ?_)
        refine rg_step 3 (G' := fun f => ev_after (evT f 89 0 [oR 449 0, oI x1] [] s1) (fun q => evT f 103 41 [oR 449 0, oI x1] (q.2 ++ []) q.1)) (fun _ => rfl) (rg_bd1 h fun s2 hc h => rg_call (q := cvV s2) (T_fLines_setNext hc) ?_)
        exact (t_fLines_leaveAll_b41 hk2) h
      · exact rg_step 1 (G' := fun f => evT f 103 41 [oR 449 0, oI x1] [] s) (fun _ => rfl) ((t_fLines_leaveAll_b41 hk2) h)
    · exact rg_end 1 (fun _ => rfl) (by cases h; rfl)
theorem t_fLines_leaveAll_h2 {n : Nat} {s : ev_M} {x1 : Int32} {q : ev_M} (h : fLines_leaveAll_h2 n s x1 = some q) : RR 103 2 [oR 449 0, oI x1] [] s (cvV q) := ti_fLines_leaveAll_h2 n s x1 q h
theorem T_fLines_leaveAll {s : ev_M} {q : ev_M} (h : fLines_leaveAll s = some q) : RR 103 0 [oR 449 0, nn] [] s (cvV q) := by
  exact rg_step 2 (G' := fun f => evT f 103 2 [oR 449 0, oI (cI 0)] [] s) (fun _ => rfl) ((t_fLines_leaveAll_h2) h)
theorem t_fLines_nextMinute_b67 {s : ev_M} {k34 : Int32 → Int32 → Option Int32} (hk34 : ∀ {x1 : Int32} {x2 : Int32} {q : Int32}, k34 x1 x2 = some q → RR 101 34 [oR 449 0, oI x1, oI x2] [] s (cvP s q)) {x1 : Int32} {x2 : Int32} {q : Int32} (h : fLines_nextMinute_b67 s k34 x1 x2 = some q) : RR 101 67 [oR 449 0, oI x1, oI x2] [] s (cvP s q) := by
  exact rg_step 2 (G' := fun f => evT f 101 34 [oR 449 0, oI x1, oI (x2 + cI 1)] [] s) (fun _ => rfl) (hk34 h)
theorem ti_fLines_nextMinute_h34 {s : ev_M} : ∀ (n : Nat) (x1 : Int32) (x2 : Int32) (q : Int32), fLines_nextMinute_h34 s n x1 x2 = some q → RR 101 34 [oR 449 0, oI x1, oI x2] [] s (cvP s q) := by
  intro n
  induction n with
  | zero => intro x1 x2 q h; cases h
  | succ n ih =>
    have hk34 : ∀ {x1 : Int32} {x2 : Int32} {q : Int32}, fLines_nextMinute_h34 s n x1 x2 = some q → RR 101 34 [oR 449 0, oI x1, oI x2] [] s (cvP s q) := fun h => ih _ _ _ h
    intro x1 x2 q h
    refine rg_step 4 (G' := fun f => if x2 < (s.1 449 6) then evT f 101 42 [oR 449 0, oI x1, oI x2] [] s else evT f 101 73 [oR 449 0, oI x1, oI x2] [] s) (fun _ => rfl) (rg_if h (fun h => ?_) fun h => ?_)
    · refine rg_step 6 (G' := fun f => if inb x2 80 = true then evT f 101 50 [oR 449 0, oI x1, oI x2] [vI (s.1 (459 + (ix (cI 0))) (ix x2))] s else none) (fun _ => rfl) (rg_gd h fun h => ?_)
      refine rg_step 2 (G' := fun f => if (s.1 (459 + (ix (cI 0))) (ix x2)) = (cI 2) then evT f 101 54 [oR 449 0, oI x1, oI x2] [] s else evT f 101 67 [oR 449 0, oI x1, oI x2] [] s) (fun _ => rfl) (rg_if h (fun h => ?_) fun h => ?_)
      · refine rg_step 7 (G' := fun f => if inb x2 80 = true then evT f 101 63 [oR 449 0, oI x1, oI x2] [vI (s.1 (459 + (ix (cI 5))) (ix x2)), vI x1] s else none) (fun _ => rfl) (rg_gd h fun h => ?_)
        refine rg_step 1 (G' := fun f => ev_after (evT f 535 0 [oI x1, oI (s.1 (459 + (ix (cI 5))) (ix x2))] [] s) (fun q => evT f 101 66 [oR 449 0, oI x1, oI x2] (q.2 ++ []) q.1)) (fun _ => rfl) (rg_bd1 h fun v1 hc h => rg_call (q := cvP s v1) (T_fMath_min hc) ?_)
        exact rg_step 1 (G' := fun f => evT f 101 67 [oR 449 0, oI v1, oI x2] [] s) (fun _ => rfl) ((t_fLines_nextMinute_b67 hk34) h)
      · exact (t_fLines_nextMinute_b67 hk34) h
    · exact rg_end 2 (fun _ => rfl) (by cases h; rfl)
theorem t_fLines_nextMinute_h34 {s : ev_M} {n : Nat} {x1 : Int32} {x2 : Int32} {q : Int32} (h : fLines_nextMinute_h34 s n x1 x2 = some q) : RR 101 34 [oR 449 0, oI x1, oI x2] [] s (cvP s q) := ti_fLines_nextMinute_h34 n x1 x2 q h
theorem ti_fLines_nextMinute_h5 {s : ev_M} : ∀ (n : Nat) (x1 : Int32) (x2 : Int32) (q : Int32), fLines_nextMinute_h5 s n x1 x2 = some q → RR 101 5 [oR 449 0, oI x1, oI x2] [] s (cvP s q) := by
  intro n
  induction n with
  | zero => intro x1 x2 q h; cases h
  | succ n ih =>
    have hk5 : ∀ {x1 : Int32} {x2 : Int32} {q : Int32}, fLines_nextMinute_h5 s n x1 x2 = some q → RR 101 5 [oR 449 0, oI x1, oI x2] [] s (cvP s q) := fun h => ih _ _ _ h
    intro x1 x2 q h
    refine rg_step 4 (G' := fun f => if x2 < (s.1 449 4) then evT f 101 13 [oR 449 0, oI x1, oI x2] [] s else evT f 101 32 [oR 449 0, oI x1, oI x2] [] s) (fun _ => rfl) (rg_if h (fun h => ?_) fun h => ?_)
    · refine rg_step 7 (G' := fun f => if inb x2 20 = true then evT f 101 22 [oR 449 0, oI x1, oI x2] [vI (s.1 (451 + (ix (cI 5))) (ix x2)), vI x1] s else none) (fun _ => rfl) (rg_gd h fun h => ?_)
      refine rg_step 1 (G' := fun f => ev_after (evT f 535 0 [oI x1, oI (s.1 (451 + (ix (cI 5))) (ix x2))] [] s) (fun q => evT f 101 25 [oR 449 0, oI x1, oI x2] (q.2 ++ []) q.1)) (fun _ => rfl) (rg_bd1 h fun v2 hc h => rg_call (q := cvP s v2) (T_fMath_min hc) ?_)
      exact rg_step 3 (G' := fun f => evT f 101 5 [oR 449 0, oI v2, oI (x2 + cI 1)] [] s) (fun _ => rfl) (hk5 h)
    · exact rg_step 2 (G' := fun f => evT f 101 34 [oR 449 0, oI x1, oI (cI 0)] [] s) (fun _ => rfl) ((t_fLines_nextMinute_h34) h)
theorem t_fLines_nextMinute_h5 {s : ev_M} {n : Nat} {x1 : Int32} {x2 : Int32} {q : Int32} (h : fLines_nextMinute_h5 s n x1 x2 = some q) : RR 101 5 [oR 449 0, oI x1, oI x2] [] s (cvP s q) := ti_fLines_nextMinute_h5 n x1 x2 q h
theorem T_fLines_nextMinute {s : ev_M} {q : Int32} (h : fLines_nextMinute s = some q) : RR 101 0 [oR 449 0, nn, nn] [] s (cvP s q) := by
  exact rg_step 4 (G' := fun f => evT f 101 5 [oR 449 0, oI (cI 2147483647), oI (cI 0)] [] s) (fun _ => rfl) ((t_fLines_nextMinute_h5) h)
theorem T_fItems_isHeldTill {s : ev_M} {a1 : Int32} {a2 : Int32} {q : Int32} (h : fItems_isHeldTill s a1 a2 = some q) : RR 61 0 [oR 100 0, oI a1, oI a2] [] s (cvP s q) := by
  refine rg_step 4 (G' := fun f => ev_after (evT f 52 0 [oR 100 0, oI a1, oI (cI 6)] [] s) (fun q => evT f 61 7 [oR 100 0, oI a1, oI a2] (q.2 ++ []) q.1)) (fun _ => rfl) (rg_bd1 h fun v1 hc h => rg_call (q := cvP s v1) (T_fItems_is hc) ?_)
  refine rg_step 1 (G' := fun f => if v1 = 0 then evT f 61 27 [oR 100 0, oI a1, oI a2] [] s else evT f 61 10 [oR 100 0, oI a1, oI a2] [] s) (fun _ => rfl) (rg_if h (fun h => ?_) fun h => ?_)
  · exact rg_end 2 (fun _ => rfl) (by cases h; rfl)
  · refine rg_step 6 (G' := fun f => if inb a1 300 = true then evT f 61 19 [oR 100 0, oI a1, oI a2] [vI (s.1 (102 + (ix (cI 14))) (ix a1))] s else none) (fun _ => rfl) (rg_gd h fun h => ?_)
    refine rg_step 2 (G' := fun f => if (s.1 (102 + (ix (cI 14))) (ix a1)) ≤ a2 then evT f 61 23 [oR 100 0, oI a1, oI a2] [] s else evT f 61 27 [oR 100 0, oI a1, oI a2] [] s) (fun _ => rfl) (rg_if h (fun h => ?_) fun h => ?_)
    · exact rg_end 3 (fun _ => rfl) (by cases h; rfl)
    · exact rg_end 2 (fun _ => rfl) (by cases h; rfl)
theorem t_fMoney_giveBack_b47 {k2 : ev_M → Int32 → Int32 → Option ev_M} (hk2 : ∀ {s : ev_M} {x1 : Int32} {x2 : Int32} {q : ev_M}, k2 s x1 x2 = some q → RR 163 2 [oR 78 0, oI x1, oI x2] [] s (cvV q)) {s : ev_M} {x1 : Int32} {x2 : Int32} {q : ev_M} (h : fMoney_giveBack_b47 k2 s x1 x2 = some q) : RR 163 47 [oR 78 0, oI x1, oI x2] [] s (cvV q) := by
  exact rg_step 2 (G' := fun f => evT f 163 2 [oR 78 0, oI x1, oI (x2 + cI 1)] [] s) (fun _ => rfl) (hk2 h)
theorem ti_fMoney_giveBack_h2 : ∀ (n : Nat) (s : ev_M) (x1 : Int32) (x2 : Int32) (q : ev_M), fMoney_giveBack_h2 n s x1 x2 = some q → RR 163 2 [oR 78 0, oI x1, oI x2] [] s (cvV q) := by
  intro n
  induction n with
  | zero => intro s x1 x2 q h; cases h
  | succ n ih =>
    have hk2 : ∀ {s : ev_M} {x1 : Int32} {x2 : Int32} {q : ev_M}, fMoney_giveBack_h2 n s x1 x2 = some q → RR 163 2 [oR 78 0, oI x1, oI x2] [] s (cvV q) := fun h => ih _ _ _ _ h
    intro s x1 x2 q h
    refine rg_step 4 (G' := fun f => if x2 < (s.1 78 8) then evT f 163 10 [oR 78 0, oI x1, oI x2] [] s else evT f 163 53 [oR 78 0, oI x1, oI x2] [] s) (fun _ => rfl) (rg_if h (fun h => ?_) fun h => ?_)
    · refine rg_step 6 (G' := fun f => if inb x2 60 = true then evT f 163 18 [oR 78 0, oI x1, oI x2] [vI (s.1 (87 + (ix (cI 0))) (ix x2))] s else none) (fun _ => rfl) (rg_gd h fun h => ?_)
      refine rg_step 1 (G' := fun f => if (s.1 (87 + (ix (cI 0))) (ix x2)) = 0 then evT f 163 21 [oR 78 0, oI x1, oI x2] [] s else evT f 163 47 [oR 78 0, oI x1, oI x2] [] s) (fun _ => rfl) (rg_if h (fun h => ?_) fun h => ?_)
      · refine rg_step 6 (G' := fun f => if inb x2 60 = true then evT f 163 29 [oR 78 0, oI x1, oI x2] [vI (s.1 (87 + (ix (cI 4))) (ix x2))] s else none) (fun _ => rfl) (rg_gd h fun h => ?_)
        refine rg_step 2 (G' := fun f => if (s.1 (87 + (ix (cI 4))) (ix x2)) ≤ x1 then evT f 163 33 [oR 78 0, oI x1, oI x2] [] s else evT f 163 47 [oR 78 0, oI x1, oI x2] [] s) (fun _ => rfl) (rg_if h (fun h => ?_) fun h => ?_)
        · refine rg_step 9 (G' := fun f => if inb x2 60 = true then evT f 163 44 [oR 78 0, oI x1, oI x2] [vI (s.1 (87 + (ix (cI 1))) (ix x2)), vI (cI 2), vI x2, vR 78 0] s else none) (fun _ => rfl) (rg_gd h fun h => ?_)
          refine rg_step 1 (G' := fun f => ev_after (evT f 164 0 [oR 78 0, oI x2, oI (cI 2), oI (s.1 (87 + (ix (cI 1))) (ix x2))] [] s) (fun q => evT f 163 47 [oR 78 0, oI x1, oI x2] (q.2 ++ []) q.1)) (fun _ => rfl) (rg_bd1 h fun s1 hc h => rg_call (q := cvV s1) (T_fMoney_settle hc) ?_)
          exact (t_fMoney_giveBack_b47 hk2) h
        · exact (t_fMoney_giveBack_b47 hk2) h
      · exact (t_fMoney_giveBack_b47 hk2) h
    · exact rg_end 1 (fun _ => rfl) (by cases h; rfl)
theorem t_fMoney_giveBack_h2 {n : Nat} {s : ev_M} {x1 : Int32} {x2 : Int32} {q : ev_M} (h : fMoney_giveBack_h2 n s x1 x2 = some q) : RR 163 2 [oR 78 0, oI x1, oI x2] [] s (cvV q) := ti_fMoney_giveBack_h2 n s x1 x2 q h
theorem T_fMoney_giveBack {s : ev_M} {a1 : Int32} {q : ev_M} (h : fMoney_giveBack s a1 = some q) : RR 163 0 [oR 78 0, oI a1, nn] [] s (cvV q) := by
  exact rg_step 2 (G' := fun f => evT f 163 2 [oR 78 0, oI a1, oI (cI 0)] [] s) (fun _ => rfl) ((t_fMoney_giveBack_h2) h)
theorem ti_fLock_unbar_h2 : ∀ (n : Nat) (s : ev_M) (x1 : Int32) (q : ev_M), fLock_unbar_h2 n s x1 = some q → RR 119 2 [oR 125 0, oI x1] [] s (cvV q) := by
  intro n
  induction n with
  | zero => intro s x1 q h; cases h
  | succ n ih =>
    have hk2 : ∀ {s : ev_M} {x1 : Int32} {q : ev_M}, fLock_unbar_h2 n s x1 = some q → RR 119 2 [oR 125 0, oI x1] [] s (cvV q) := fun h => ih _ _ _ h
    intro s x1 q h
    refine rg_step 4 (G' := fun f => if x1 < (s.1 125 3) then evT f 119 10 [oR 125 0, oI x1] [] s else evT f 119 23 [oR 125 0, oI x1] [] s) (fun _ => rfl) (rg_if h (fun h => ?_) fun h => ?_)
    · refine rg_step 5 (G' := fun f => if inb x1 8 = true then evT f 119 17 [oR 125 0, oI x1] [] (wI s 128 (ix x1) (cI 0)) else none) (fun _ => rfl) (rg_gd h fun h => rg_ltM h fun s1 h => ?_)
      exact rg_step 2 (G' := fun f => evT f 119 2 [oR 125 0, oI (x1 + cI 1)] [] s1) (fun _ => rfl) (hk2 h)
    · exact rg_end 1 (fun _ => rfl) (by cases h; rfl)
theorem t_fLock_unbar_h2 {n : Nat} {s : ev_M} {x1 : Int32} {q : ev_M} (h : fLock_unbar_h2 n s x1 = some q) : RR 119 2 [oR 125 0, oI x1] [] s (cvV q) := ti_fLock_unbar_h2 n s x1 q h
theorem T_fLock_unbar {s : ev_M} {q : ev_M} (h : fLock_unbar s = some q) : RR 119 0 [oR 125 0, nn] [] s (cvV q) := by
  exact rg_step 2 (G' := fun f => evT f 119 2 [oR 125 0, oI (cI 0)] [] s) (fun _ => rfl) ((t_fLock_unbar_h2) h)
theorem t_fPH_beginDay_b50 {k10 : ev_M → Int32 → Int32 → Option ev_M} (hk10 : ∀ {s : ev_M} {x1 : Int32} {x2 : Int32} {q : ev_M}, k10 s x1 x2 = some q → RR 307 10 [oR 0 0, oI x1, oI x2] [] s (cvV q)) {s : ev_M} {x1 : Int32} {x2 : Int32} {q : ev_M} (h : fPH_beginDay_b50 k10 s x1 x2 = some q) : RR 307 50 [oR 0 0, oI x1, oI x2] [] s (cvV q) := by
  exact rg_step 2 (G' := fun f => evT f 307 10 [oR 0 0, oI x1, oI (x2 + cI 1)] [] s) (fun _ => rfl) (hk10 h)
theorem ti_fPH_beginDay_h10 : ∀ (n : Nat) (s : ev_M) (x1 : Int32) (x2 : Int32) (q : ev_M), fPH_beginDay_h10 n s x1 x2 = some q → RR 307 10 [oR 0 0, oI x1, oI x2] [] s (cvV q) := by
  intro n
  induction n with
  | zero => intro s x1 x2 q h; cases h
  | succ n ih =>
    have hk10 : ∀ {s : ev_M} {x1 : Int32} {x2 : Int32} {q : ev_M}, fPH_beginDay_h10 n s x1 x2 = some q → RR 307 10 [oR 0 0, oI x1, oI x2] [] s (cvV q) := fun h => ih _ _ _ _ h
    intro s x1 x2 q h
    refine rg_step 5 (G' := fun f => if x2 < (s.1 100 5) then evT f 307 21 [oR 0 0, oI x1, oI x2] [] s else evT f 307 56 [oR 0 0, oI x1, oI x2] [] s) (fun _ => rfl) (rg_if h (fun h => ?_) fun h => ?_)
    · refine rg_step 5 (G' := fun f => ev_after (evT f 61 0 [oR 100 0, oI x2, oI x1] [] s) (fun q => evT f 307 30 [oR 0 0, oI x1, oI x2] (q.2 ++ []) q.1)) (fun _ => rfl) (rg_bd1 h fun v1 hc h => rg_call (q := cvP s v1) (T_fItems_isHeldTill hc) ?_)
      refine rg_step 1 (G' := fun f => if v1 = 0 then evT f 307 50 [oR 0 0, oI x1, oI x2] [] s else evT f 307 33 [oR 0 0, oI x1, oI x2] [] s) (fun _ => rfl) (rg_if h (fun h => ?_) fun h => ?_)
      · exact (t_fPH_beginDay_b50 hk10) h
      · refine rg_step 4 (G' := fun f => ev_after (evT f 118 0 [oR 125 0, oI x2, nn, nn] [] s) (fun q => evT f 307 41 [oR 0 0, oI x1, oI x2] (q.2 ++ []) q.1)) (fun _ => rfl) (rg_bd1 h fun s2 hc h => rg_call (q := cvV s2) (T_fLock_drop hc) ?_)
        refine rg_step 4 (G' := fun f => ev_after (evT f 58 0 [oR 100 0, oI x2, nn] [] s2) (fun q => evT f 307 49 [oR 0 0, oI x1, oI x2] (q.2 ++ []) q.1)) (fun _ => rfl) (rg_bd2 h fun s3 v4 hc h => rg_call (q := cvI (s3, v4)) (T_fItems_goBack hc) ?_)
        exact rg_step 1 (G' := fun f => evT f 307 50 [oR 0 0, oI x1, oI x2] [] s3) (fun _ => rfl) ((t_fPH_beginDay_b50 hk10) h)
    · refine rg_step 4 (G' := fun f => ev_after (evT f 163 0 [oR 78 0, oI x1, nn] [] s) (fun q => evT f 307 64 [oR 0 0, oI x1, oI x2] (q.2 ++ []) q.1)) (fun _ => rfl) (rg_bd1 h fun s5 hc h => rg_call (q := cvV s5) (T_fMoney_giveBack hc) ?_)
      refine rg_step 3 (G' := fun f => ev_after (evT f 119 0 [oR 125 0, nn] [] s5) (fun q => evT f 307 71 [oR 0 0, oI x1, oI x2] (q.2 ++ []) q.1)) (fun _ => rfl) (rg_bd1 h fun s6 hc h => rg_call (q := cvV s6) (T_fLock_unbar hc) ?_)
      exact rg_end 1 (fun _ => rfl) (by cases h; rfl)
theorem t_fPH_beginDay_h10 {n : Nat} {s : ev_M} {x1 : Int32} {x2 : Int32} {q : ev_M} (h : fPH_beginDay_h10 n s x1 x2 = some q) : RR 307 10 [oR 0 0, oI x1, oI x2] [] s (cvV q) := ti_fPH_beginDay_h10 n s x1 x2 q h
theorem T_fPH_beginDay {s : ev_M} {q : ev_M} (h : fPH_beginDay s = some q) : RR 307 0 [oR 0 0, nn, nn] [] s (cvV q) := by
  refine rg_step 3 (G' := fun f => ev_after (evT f 41 0 [oR 15 0] [] s) (fun q => evT f 307 7 [oR 0 0, nn, nn] (q.2 ++ []) q.1)) (fun _ => rfl) (rg_bd1 h fun v7 hc h => rg_call (q := cvP s v7) (T_fChron_today hc) ?_)
  exact rg_step 3 (G' := fun f => evT f 307 10 [oR 0 0, oI v7, oI (cI 0)] [] s) (fun _ => rfl) ((t_fPH_beginDay_h10) h)
theorem t_fPH_goOn_b124 {k54 : ev_M → Int32 → Int32 → Int32 → Option (ev_M × Int32)} (hk54 : ∀ {s : ev_M} {x1 : Int32} {x2 : Int32} {x3 : Int32} {j4 : Option ev_V} {q : ev_M × Int32}, k54 s x1 x2 x3 = some q → RR 306 54 [oR 0 0, oI x1, oI x2, oI x3, j4] [] s (cvI q)) {s : ev_M} {x1 : Int32} {x2 : Int32} {x3 : Int32} {j4 : Option ev_V} {q : ev_M × Int32} (h : fPH_goOn_b124 k54 s x1 x2 x3 = some q) : RR 306 124 [oR 0 0, oI x1, oI x2, oI x3, j4] [] s (cvI q) := by
  refine rg_step 3 (G' := fun f => ev_after (evT f 102 0 [oR 449 0, nn] [] s) (fun q => evT f 306 131 [oR 0 0, oI x1, oI x2, oI x3, nn] (q.2 ++ []) q.1)) (fun _ => rfl) (rg_bd1 h fun s1 hc h => rg_call (q := cvV s1) (T_fLines_arrive hc) ?_)
  refine rg_step 3 (G' := fun f => ev_after (evT f 103 0 [oR 449 0, nn] [] s1) (fun q => evT f 306 138 [oR 0 0, oI x1, oI x2, oI x3, nn] (q.2 ++ []) q.1)) (fun _ => rfl) (rg_bd1 h fun s2 hc h => rg_call (q := cvV s2) (T_fLines_leaveAll hc) ?_)
  exact rg_step 2 (G' := fun f => evT f 306 54 [oR 0 0, oI x1, oI x2, oI (x3 + cI 1), nn] [] s2) (fun _ => rfl) (hk54 h)
theorem t_fPH_goOn_b144 {s : ev_M} {j1 : Option ev_V} {j2 : Option ev_V} {j3 : Option ev_V} {j4 : Option ev_V} {q : ev_M × Int32} (h : fPH_goOn_b144 s = some q) : RR 306 144 [oR 0 0, j1, j2, j3, j4] [] s (cvI q) := by
  exact rg_end 4 (fun _ => rfl) (by cases h; rfl)
theorem ti_fPH_goOn_h54 : ∀ (n : Nat) (s : ev_M) (x1 : Int32) (x2 : Int32) (x3 : Int32) (j4 : Option ev_V) (q : ev_M × Int32), fPH_goOn_h54 n s x1 x2 x3 = some q → RR 306 54 [oR 0 0, oI x1, oI x2, oI x3, j4] [] s (cvI q) := by
  intro n
  induction n with
  | zero => intro s x1 x2 x3 j4 q h; cases h
  | succ n ih =>
    have hk54 : ∀ {s : ev_M} {x1 : Int32} {x2 : Int32} {x3 : Int32} {j4 : Option ev_V} {q : ev_M × Int32}, fPH_goOn_h54 n s x1 x2 x3 = some q → RR 306 54 [oR 0 0, oI x1, oI x2, oI x3, j4] [] s (cvI q) := fun h => ih _ _ _ _ _ _ h
    intro s x1 x2 x3 j4 q h
    refine rg_step 3 (G' := fun f => if x3 < x1 then evT f 306 59 [oR 0 0, oI x1, oI x2, oI x3, nn] [] s else evT f 306 144 [oR 0 0, oI x1, oI x2, oI x3, nn] [] s) (fun _ => rfl) (rg_if h (fun h => ?_) fun h => ?_)
    · refine rg_step 5 (G' := fun f => if (s.1 15 1) < x2 then evT f 306 70 [oR 0 0, oI x1, oI x2, oI x3, nn] [] s else evT f 306 144 [oR 0 0, oI x1, oI x2, oI x3, nn] [] s) (fun _ => rfl) (rg_if h (fun h => ?_) fun h => ?_)
      · refine rg_step 3 (G' := fun f => ev_after (evT f 41 0 [oR 15 0] [] s) (fun q => evT f 306 77 [oR 0 0, oI x1, oI x2, oI x3, nn] (q.2 ++ []) q.1)) (fun _ => rfl) (rg_bd1 h fun v3 hc h => rg_call (q := cvP s v3) (T_fChron_today hc) ?_)
        refine rg_step 5 (G' := fun f => evT f 306 85 [oR 0 0, oI x1, oI x2, oI x3, oI ((v3 + (cI 1)) * (cI 1440))] [] s) (fun _ => rfl) (rg_ltI (P := fun v4 => RG (fun f => evT f 306 85 [oR 0 0, oI x1, oI x2, oI x3, oI v4] [] s) (cvI q)) h fun v4 h => ?_)
        refine rg_step 7 (G' := fun f => ev_after (evT f 101 0 [oR 449 0, nn, nn] [] s) (fun q => evT f 306 99 [oR 0 0, oI x1, oI x2, oI x3, oI v4] (q.2 ++ [vI v4, vI x2, vR 15 0]) q.1)) (fun _ => rfl) (rg_bd1 h fun v5 hc h => rg_call (q := cvP s v5) (T_fLines_nextMinute hc) ?_)
        refine rg_step 1 (G' := fun f => ev_after (evT f 535 0 [oI v4, oI v5] [] s) (fun q => evT f 306 102 [oR 0 0, oI x1, oI x2, oI x3, oI v4] (q.2 ++ [vI x2, vR 15 0]) q.1)) (fun _ => rfl) (rg_bd1 h fun v6 hc h => rg_call (q := cvP s v6) (T_fMath_min hc) ?_)
        refine rg_step 1 (G' := fun f => ev_after (evT f 535 0 [oI x2, oI v6] [] s) (fun q => evT f 306 105 [oR 0 0, oI x1, oI x2, oI x3, oI v4] (q.2 ++ [vR 15 0]) q.1)) (fun _ => rfl) (rg_bd1 h fun v7 hc h => rg_call (q := cvP s v7) (T_fMath_min hc) ?_)
        refine rg_step 1 (G' := fun f => evT f 306 108 [oR 0 0, oI x1, oI x2, oI x3, oI v4] [] (wI s 15 1 v7)) (fun _ => rfl) (rg_ltM h fun s8 h => ?_)
        refine rg_step 5 (G' := fun f => if (s8.1 15 1) = v4 then evT f 306 120 [oR 0 0, oI x1, oI x2, oI x3, oI v4] [] s8 else evT f 306 124 [oR 0 0, oI x1, oI x2, oI x3, oI v4] [] s8) (fun _ => rfl) (rg_if h (fun h => ?_) fun h => ?_)
        · refine rg_step 2 (G' := fun f => ev_after (evT f 307 0 [oR 0 0, nn, nn] [] s8) (fun q => evT f 306 124 [oR 0 0, oI x1, oI x2, oI x3, oI v4] (q.2 ++ []) q.1)) (fun _ => rfl) (rg_bd1 h fun s9 hc h => rg_call (q := cvV s9) (T_fPH_beginDay hc) ?_)
          exact (t_fPH_goOn_b124 hk54) h
        · exact (t_fPH_goOn_b124 hk54) h
      · exact (t_fPH_goOn_b144) h
    · exact (t_fPH_goOn_b144) h
theorem t_fPH_goOn_h54 {n : Nat} {s : ev_M} {x1 : Int32} {x2 : Int32} {x3 : Int32} {j4 : Option ev_V} {q : ev_M × Int32} (h : fPH_goOn_h54 n s x1 x2 x3 = some q) : RR 306 54 [oR 0 0, oI x1, oI x2, oI x3, j4] [] s (cvI q) := ti_fPH_goOn_h54 n s x1 x2 x3 j4 q h
theorem T_fPH_goOn {s : ev_M} {a1 : Int32} {q : ev_M × Int32} (h : fPH_goOn s a1 = some q) : RR 306 0 [oR 0 0, oI a1, nn, nn, nn] [] s (cvI q) := by
  refine rg_step 4 (G' := fun f => ev_after (evT f 308 0 [oI a1, oI (cI 1), oI (cI 1440)] [] s) (fun q => evT f 306 8 [oR 0 0, oI a1, nn, nn, nn] (q.2 ++ []) q.1)) (fun _ => rfl) (rg_bd1 h fun v10 hc h => rg_call (q := cvP s v10) (T_fPH_outside hc) ?_)
  refine rg_step 1 (G' := fun f => if v10 = 0 then evT f 306 11 [oR 0 0, oI a1, nn, nn, nn] [] s else evT f 306 26 [oR 0 0, oI a1, nn, nn, nn] [] s) (fun _ => rfl) (rg_if h (fun h => ?_) fun h => ?_)
  · refine rg_step 1 (G' := fun f => evT f 306 12 [oR 0 0, oI a1, nn, nn, nn] [vI a1] s) (fun _ => rfl) ?_
    refine rg_step 1 (G' := fun f => evT f 306 15 [oR 0 0, oI a1, nn, nn, nn] [vI (cI 1000000000), vI a1] s) (fun f => ev_ldcw (f := f) (M := 306) (pc := 12) (idx := 522) (r := 1000000000) rfl (by decide)) ?_
    refine rg_step 3 (G' := fun f => evT f 306 22 [oR 0 0, oI a1, nn, nn, nn] [vI (s.1 15 1), vI (cI 1000000000), vI a1] s) (fun _ => rfl) ?_
    refine rg_step 1 (G' := fun f => evT f 306 23 [oR 0 0, oI a1, nn, nn, nn] [vI ((cI 1000000000) - (s.1 15 1)), vI a1] s) (fun f => ev_sub1 (f := f) (M := 306) (pc := 22) rfl) ?_
    refine rg_step 1 (G' := fun f => if a1 ≤ ((cI 1000000000) - (s.1 15 1)) then evT f 306 29 [oR 0 0, oI a1, nn, nn, nn] [] s else evT f 306 26 [oR 0 0, oI a1, nn, nn, nn] [] s) (fun f => ev_cle (f := f) (M := 306) (pc := 23) (o := 6) (r := 29) rfl) (rg_if h (fun h => ?_) fun h => ?_)
    · refine rg_step 3 (G' := fun f => ev_after (evT f 123 0 [oR 9 0, nn] [] s) (fun q => evT f 306 36 [oR 0 0, oI a1, nn, nn, nn] (q.2 ++ []) q.1)) (fun _ => rfl) (rg_bd2 h fun s11 v12 hc h => rg_call (q := cvI (s11, v12)) (T_fLog_admits hc) ?_)
      refine rg_step 1 (G' := fun f => if v12 = 0 then evT f 306 39 [oR 0 0, oI a1, nn, nn, nn] [] s11 else evT f 306 42 [oR 0 0, oI a1, nn, nn, nn] [] s11) (fun _ => rfl) (rg_if h (fun h => ?_) fun h => ?_)
      · exact rg_end 2 (fun _ => rfl) (by cases h; rfl)
      · refine rg_step 6 (G' := fun f => evT f 306 52 [oR 0 0, oI a1, oI ((s11.1 15 1) + a1), nn, nn] [] s11) (fun _ => rfl) (rg_ltI (P := fun v13 => RG (fun f => evT f 306 52 [oR 0 0, oI a1, oI v13, nn, nn] [] s11) (cvI q)) h fun v13 h => ?_)
        exact rg_step 2 (G' := fun f => evT f 306 54 [oR 0 0, oI a1, oI v13, oI (cI 0), nn] [] s11) (fun _ => rfl) ((t_fPH_goOn_h54) h)
    · exact rg_end 2 (fun _ => rfl) (by cases h; rfl)
  · exact rg_end 2 (fun _ => rfl) (by cases h; rfl)
theorem t_fPH_act_1_b677 {s : ev_M} {y1 : Int32} {y2 : Int32} {y3 : Int32} {j0 : Option ev_V} {j1 : Option ev_V} {j2 : Option ev_V} {j3 : Option ev_V} {j4 : Option ev_V} {j5 : Option ev_V} {j6 : Option ev_V} {j7 : Option ev_V} {q : ev_M × Int32} (h : fPH_act_1_b677 s y1 y2 y3 = some q) : RR 302 677 [j0, j1, j2, j3, j4, j5, j6, j7] [vI y3, vI y2, vI y1, vR 15 0] s (cvI q) := by
  refine rg_step 1 (G' := fun f => ev_after (evT f 46 0 [oR 15 0, oI y1, oI y2, oI y3, nn] [] s) (fun q => evT f 302 680 [nn, nn, nn, nn, nn, nn, nn, nn] (q.2 ++ []) q.1)) (fun _ => rfl) (rg_bd2 h fun s1 v2 hc h => rg_call (q := cvI (s1, v2)) (T_fChron_setWish hc) ?_)
  exact rg_end 2 (fun _ => rfl) (by cases h; rfl)
theorem T_fPH_act_1 {s : ev_M} {q : ev_M × Int32} (h : fPH_act_1 s = some q) : RR 302 0 [oR 0 0, oR 1 0, nn, nn, nn, nn, nn, nn] [] s (cvI q) := by
  refine rg_step 6 (G' := fun f => evT f 302 10 [oR 0 0, oR 1 0, oI (s.1 14 (ix (cI 0))), nn, nn, nn, nn, nn] [] s) (fun _ => rfl) (rg_ltI (P := fun v3 => RG (fun f => evT f 302 10 [oR 0 0, oR 1 0, oI v3, nn, nn, nn, nn, nn] [] s) (cvI q)) h fun v3 h => ?_)
  refine rg_step 6 (G' := fun f => evT f 302 20 [oR 0 0, oR 1 0, oI v3, oI (s.1 14 (ix (cI 1))), nn, nn, nn, nn] [] s) (fun _ => rfl) (rg_ltI (P := fun v4 => RG (fun f => evT f 302 20 [oR 0 0, oR 1 0, oI v3, oI v4, nn, nn, nn, nn] [] s) (cvI q)) h fun v4 h => ?_)
  refine rg_step 6 (G' := fun f => evT f 302 31 [oR 0 0, oR 1 0, oI v3, oI v4, oI (s.1 14 (ix (cI 2))), nn, nn, nn] [] s) (fun _ => rfl) (rg_ltI (P := fun v5 => RG (fun f => evT f 302 31 [oR 0 0, oR 1 0, oI v3, oI v4, oI v5, nn, nn, nn] [] s) (cvI q)) h fun v5 h => ?_)
  refine rg_step 6 (G' := fun f => evT f 302 42 [oR 0 0, oR 1 0, oI v3, oI v4, oI v5, oI (s.1 14 (ix (cI 3))), nn, nn] [] s) (fun _ => rfl) (rg_ltI (P := fun v6 => RG (fun f => evT f 302 42 [oR 0 0, oR 1 0, oI v3, oI v4, oI v5, oI v6, nn, nn] [] s) (cvI q)) h fun v6 h => ?_)
  refine rg_step 6 (G' := fun f => evT f 302 53 [oR 0 0, oR 1 0, oI v3, oI v4, oI v5, oI v6, oI (s.1 14 (ix (cI 4))), nn] [] s) (fun _ => rfl) (rg_ltI (P := fun v7 => RG (fun f => evT f 302 53 [oR 0 0, oR 1 0, oI v3, oI v4, oI v5, oI v6, oI v7, nn] [] s) (cvI q)) h fun v7 h => ?_)
  refine rg_step 6 (G' := fun f => evT f 302 64 [oR 0 0, oR 1 0, oI v3, oI v4, oI v5, oI v6, oI v7, oI (s.1 14 (ix (cI 5)))] [] s) (fun _ => rfl) (rg_ltI (P := fun v8 => RG (fun f => evT f 302 64 [oR 0 0, oR 1 0, oI v3, oI v4, oI v5, oI v6, oI v7, oI v8] [] s) (cvI q)) h fun v8 h => ?_)
  refine rg_step 4 (G' := fun f => if (s.1 9 14) = cI 1 then evT f 302 244 [oR 0 0, oR 1 0, oI v3, oI v4, oI v5, oI v6, oI v7, oI v8] [] s else if (s.1 9 14) = cI 2 then evT f 302 253 [oR 0 0, oR 1 0, oI v3, oI v4, oI v5, oI v6, oI v7, oI v8] [] s else if (s.1 9 14) = cI 3 then evT f 302 267 [oR 0 0, oR 1 0, oI v3, oI v4, oI v5, oI v6, oI v7, oI v8] [] s else if (s.1 9 14) = cI 4 then evT f 302 279 [oR 0 0, oR 1 0, oI v3, oI v4, oI v5, oI v6, oI v7, oI v8] [] s else if (s.1 9 14) = cI 5 then evT f 302 289 [oR 0 0, oR 1 0, oI v3, oI v4, oI v5, oI v6, oI v7, oI v8] [] s else if (s.1 9 14) = cI 6 then evT f 302 307 [oR 0 0, oR 1 0, oI v3, oI v4, oI v5, oI v6, oI v7, oI v8] [] s else if (s.1 9 14) = cI 7 then evT f 302 317 [oR 0 0, oR 1 0, oI v3, oI v4, oI v5, oI v6, oI v7, oI v8] [] s else if (s.1 9 14) = cI 8 then evT f 302 326 [oR 0 0, oR 1 0, oI v3, oI v4, oI v5, oI v6, oI v7, oI v8] [] s else if (s.1 9 14) = cI 9 then evT f 302 338 [oR 0 0, oR 1 0, oI v3, oI v4, oI v5, oI v6, oI v7, oI v8] [] s else if (s.1 9 14) = cI 10 then evT f 302 348 [oR 0 0, oR 1 0, oI v3, oI v4, oI v5, oI v6, oI v7, oI v8] [] s else if (s.1 9 14) = cI 11 then evT f 302 362 [oR 0 0, oR 1 0, oI v3, oI v4, oI v5, oI v6, oI v7, oI v8] [] s else if (s.1 9 14) = cI 12 then evT f 302 374 [oR 0 0, oR 1 0, oI v3, oI v4, oI v5, oI v6, oI v7, oI v8] [] s else if (s.1 9 14) = cI 13 then evT f 302 384 [oR 0 0, oR 1 0, oI v3, oI v4, oI v5, oI v6, oI v7, oI v8] [] s else if (s.1 9 14) = cI 14 then evT f 302 393 [oR 0 0, oR 1 0, oI v3, oI v4, oI v5, oI v6, oI v7, oI v8] [] s else if (s.1 9 14) = cI 15 then evT f 302 402 [oR 0 0, oR 1 0, oI v3, oI v4, oI v5, oI v6, oI v7, oI v8] [] s else if (s.1 9 14) = cI 16 then evT f 302 411 [oR 0 0, oR 1 0, oI v3, oI v4, oI v5, oI v6, oI v7, oI v8] [] s else if (s.1 9 14) = cI 17 then evT f 302 427 [oR 0 0, oR 1 0, oI v3, oI v4, oI v5, oI v6, oI v7, oI v8] [] s else if (s.1 9 14) = cI 18 then evT f 302 437 [oR 0 0, oR 1 0, oI v3, oI v4, oI v5, oI v6, oI v7, oI v8] [] s else if (s.1 9 14) = cI 19 then evT f 302 447 [oR 0 0, oR 1 0, oI v3, oI v4, oI v5, oI v6, oI v7, oI v8] [] s else if (s.1 9 14) = cI 20 then evT f 302 457 [oR 0 0, oR 1 0, oI v3, oI v4, oI v5, oI v6, oI v7, oI v8] [] s else if (s.1 9 14) = cI 21 then evT f 302 466 [oR 0 0, oR 1 0, oI v3, oI v4, oI v5, oI v6, oI v7, oI v8] [] s else if (s.1 9 14) = cI 22 then evT f 302 475 [oR 0 0, oR 1 0, oI v3, oI v4, oI v5, oI v6, oI v7, oI v8] [] s else if (s.1 9 14) = cI 23 then evT f 302 489 [oR 0 0, oR 1 0, oI v3, oI v4, oI v5, oI v6, oI v7, oI v8] [] s else if (s.1 9 14) = cI 24 then evT f 302 498 [oR 0 0, oR 1 0, oI v3, oI v4, oI v5, oI v6, oI v7, oI v8] [] s else if (s.1 9 14) = cI 25 then evT f 302 507 [oR 0 0, oR 1 0, oI v3, oI v4, oI v5, oI v6, oI v7, oI v8] [] s else if (s.1 9 14) = cI 26 then evT f 302 517 [oR 0 0, oR 1 0, oI v3, oI v4, oI v5, oI v6, oI v7, oI v8] [] s else if (s.1 9 14) = cI 27 then evT f 302 531 [oR 0 0, oR 1 0, oI v3, oI v4, oI v5, oI v6, oI v7, oI v8] [] s else if (s.1 9 14) = cI 28 then evT f 302 541 [oR 0 0, oR 1 0, oI v3, oI v4, oI v5, oI v6, oI v7, oI v8] [] s else if (s.1 9 14) = cI 29 then evT f 302 547 [oR 0 0, oR 1 0, oI v3, oI v4, oI v5, oI v6, oI v7, oI v8] [] s else if (s.1 9 14) = cI 30 then evT f 302 556 [oR 0 0, oR 1 0, oI v3, oI v4, oI v5, oI v6, oI v7, oI v8] [] s else if (s.1 9 14) = cI 31 then evT f 302 566 [oR 0 0, oR 1 0, oI v3, oI v4, oI v5, oI v6, oI v7, oI v8] [] s else if (s.1 9 14) = cI 32 then evT f 302 575 [oR 0 0, oR 1 0, oI v3, oI v4, oI v5, oI v6, oI v7, oI v8] [] s else if (s.1 9 14) = cI 33 then evT f 302 584 [oR 0 0, oR 1 0, oI v3, oI v4, oI v5, oI v6, oI v7, oI v8] [] s else if (s.1 9 14) = cI 34 then evT f 302 596 [oR 0 0, oR 1 0, oI v3, oI v4, oI v5, oI v6, oI v7, oI v8] [] s else if (s.1 9 14) = cI 35 then evT f 302 608 [oR 0 0, oR 1 0, oI v3, oI v4, oI v5, oI v6, oI v7, oI v8] [] s else if (s.1 9 14) = cI 36 then evT f 302 618 [oR 0 0, oR 1 0, oI v3, oI v4, oI v5, oI v6, oI v7, oI v8] [] s else if (s.1 9 14) = cI 37 then evT f 302 628 [oR 0 0, oR 1 0, oI v3, oI v4, oI v5, oI v6, oI v7, oI v8] [] s else if (s.1 9 14) = cI 38 then evT f 302 638 [oR 0 0, oR 1 0, oI v3, oI v4, oI v5, oI v6, oI v7, oI v8] [] s else if (s.1 9 14) = cI 39 then evT f 302 649 [oR 0 0, oR 1 0, oI v3, oI v4, oI v5, oI v6, oI v7, oI v8] [] s else if (s.1 9 14) = cI 40 then evT f 302 686 [oR 0 0, oR 1 0, oI v3, oI v4, oI v5, oI v6, oI v7, oI v8] [] s else evT f 302 692 [oR 0 0, oR 1 0, oI v3, oI v4, oI v5, oI v6, oI v7, oI v8] [] s) (fun _ => rfl) ?_
  refine rg_if h (fun h => ?_) fun h => ?_
  · refine rg_step 4 (G' := fun f => ev_after (evT f 13 0 [oR 30 0, oR 1 0, nn, nn, nn, nn, nn, nn, nn, nn] [] s) (fun q => evT f 302 252 [oR 0 0, oR 1 0, oI v3, oI v4, oI v5, oI v6, oI v7, oI v8] (q.2 ++ []) q.1)) (fun _ => rfl) (rg_bd2 h fun s9 v10 hc h => rg_call (q := cvI (s9, v10)) (T_fBook_readText_1 hc) ?_)
    exact rg_end 1 (fun _ => rfl) (by cases h; rfl)
  refine rg_if h (fun h => ?_) fun h => ?_
  · refine rg_step 7 (G' := fun f => ev_after (evT f 33 0 [oR 30 0, oI v3, oI v4, oI v5, oI v6] [] s) (fun q => evT f 302 266 [oR 0 0, oR 1 0, oI v3, oI v4, oI v5, oI v6, oI v7, oI v8] (q.2 ++ []) q.1)) (fun _ => rfl) (rg_bd2 h fun s11 v12 hc h => rg_call (q := cvI (s11, v12)) (T_fBook_tellForwarding hc) ?_)
    exact rg_end 1 (fun _ => rfl) (by cases h; rfl)
  refine rg_if h (fun h => ?_) fun h => ?_
  · refine rg_step 6 (G' := fun f => ev_after (evT f 34 0 [oR 30 0, oI v3, oI v4, oI v5] [] s) (fun q => evT f 302 278 [oR 0 0, oR 1 0, oI v3, oI v4, oI v5, oI v6, oI v7, oI v8] (q.2 ++ []) q.1)) (fun _ => rfl) (rg_bd2 h fun s13 v14 hc h => rg_call (q := cvI (s13, v14)) (T_fBook_tellHold hc) ?_)
    exact rg_end 1 (fun _ => rfl) (by cases h; rfl)
  refine rg_if h (fun h => ?_) fun h => ?_
  · refine rg_step 5 (G' := fun f => ev_after (evT f 197 0 [oR 52 0, oR 1 0, oI v3] [] s) (fun q => evT f 302 288 [oR 0 0, oR 1 0, oI v3, oI v4, oI v5, oI v6, oI v7, oI v8] (q.2 ++ []) q.1)) (fun _ => rfl) (rg_bd2 h fun s15 v16 hc h => rg_call (q := cvI (s15, v16)) (T_fSheet_show_1 hc) ?_)
    exact rg_end 1 (fun _ => rfl) (by cases h; rfl)
  refine rg_if h (fun h => ?_) fun h => ?_
  · refine rg_step 9 (G' := fun f => ev_after (evT f 54 0 [oR 100 0, oI v3, oI v4, oI v5, oI v6, oI v7, oI v8, nn, nn, nn] [] s) (fun q => evT f 302 306 [oR 0 0, oR 1 0, oI v3, oI v4, oI v5, oI v6, oI v7, oI v8] (q.2 ++ []) q.1)) (fun _ => rfl) (rg_bd2 h fun s17 v18 hc h => rg_call (q := cvI (s17, v18)) (T_fItems_tell hc) ?_)
    exact rg_end 1 (fun _ => rfl) (by cases h; rfl)
  refine rg_if h (fun h => ?_) fun h => ?_
  · refine rg_step 5 (G' := fun f => ev_after (evT f 63 0 [oR 100 0, oI v3, oI v4] [] s) (fun q => evT f 302 316 [oR 0 0, oR 1 0, oI v3, oI v4, oI v5, oI v6, oI v7, oI v8] (q.2 ++ []) q.1)) (fun _ => rfl) (rg_bd2 h fun s19 v20 hc h => rg_call (q := cvI (s19, v20)) (T_fItems_setAddress hc) ?_)
    exact rg_end 1 (fun _ => rfl) (by cases h; rfl)
  refine rg_if h (fun h => ?_) fun h => ?_
  · refine rg_step 4 (G' := fun f => ev_after (evT f 65 0 [oR 100 0, oI v3] [] s) (fun q => evT f 302 325 [oR 0 0, oR 1 0, oI v3, oI v4, oI v5, oI v6, oI v7, oI v8] (q.2 ++ []) q.1)) (fun _ => rfl) (rg_bd2 h fun s21 v22 hc h => rg_call (q := cvI (s21, v22)) (T_fItems_takeReading hc) ?_)
    exact rg_end 1 (fun _ => rfl) (by cases h; rfl)
  refine rg_if h (fun h => ?_) fun h => ?_
  · refine rg_step 6 (G' := fun f => ev_after (evT f 66 0 [oR 100 0, oI v3, oI v4, oI v5, nn, nn, nn] [] s) (fun q => evT f 302 337 [oR 0 0, oR 1 0, oI v3, oI v4, oI v5, oI v6, oI v7, oI v8] (q.2 ++ []) q.1)) (fun _ => rfl) (rg_bd2 h fun s23 v24 hc h => rg_call (q := cvI (s23, v24)) (T_fItems_hearClerk hc) ?_)
    exact rg_end 1 (fun _ => rfl) (by cases h; rfl)
  refine rg_if h (fun h => ?_) fun h => ?_
  · refine rg_step 5 (G' := fun f => ev_after (evT f 67 0 [oR 100 0, oI v3, oI v4] [] s) (fun q => evT f 302 347 [oR 0 0, oR 1 0, oI v3, oI v4, oI v5, oI v6, oI v7, oI v8] (q.2 ++ []) q.1)) (fun _ => rfl) (rg_bd2 h fun s25 v26 hc h => rg_call (q := cvI (s25, v26)) (T_fItems_postAt hc) ?_)
    exact rg_end 1 (fun _ => rfl) (by cases h; rfl)
  refine rg_if h (fun h => ?_) fun h => ?_
  · refine rg_step 7 (G' := fun f => ev_after (evT f 172 0 [oR 138 0, oI v3, oI v4, oI v5, oI v6] [] s) (fun q => evT f 302 361 [oR 0 0, oR 1 0, oI v3, oI v4, oI v5, oI v6, oI v7, oI v8] (q.2 ++ []) q.1)) (fun _ => rfl) (rg_bd2 h fun s27 v28 hc h => rg_call (q := cvI (s27, v28)) (T_fRounds_setMachine hc) ?_)
    exact rg_end 1 (fun _ => rfl) (by cases h; rfl)
  refine rg_if h (fun h => ?_) fun h => ?_
  · refine rg_step 6 (G' := fun f => ev_after (evT f 173 0 [oR 138 0, oI v3, oI v4, oI v5] [] s) (fun q => evT f 302 373 [oR 0 0, oR 1 0, oI v3, oI v4, oI v5, oI v6, oI v7, oI v8] (q.2 ++ []) q.1)) (fun _ => rfl) (rg_bd2 h fun s29 v30 hc h => rg_call (q := cvI (s29, v30)) (T_fRounds_make hc) ?_)
    exact rg_end 1 (fun _ => rfl) (by cases h; rfl)
  refine rg_if h (fun h => ?_) fun h => ?_
  · refine rg_step 5 (G' := fun f => ev_after (evT f 174 0 [oR 138 0, oI v3, oI v4] [] s) (fun q => evT f 302 383 [oR 0 0, oR 1 0, oI v3, oI v4, oI v5, oI v6, oI v7, oI v8] (q.2 ++ []) q.1)) (fun _ => rfl) (rg_bd2 h fun s31 v32 hc h => rg_call (q := cvI (s31, v32)) (T_fRounds_addStop hc) ?_)
    exact rg_end 1 (fun _ => rfl) (by cases h; rfl)
  refine rg_if h (fun h => ?_) fun h => ?_
  · refine rg_step 4 (G' := fun f => ev_after (evT f 175 0 [oR 138 0, oI v3, nn, nn, nn, nn, nn] [] s) (fun q => evT f 302 392 [oR 0 0, oR 1 0, oI v3, oI v4, oI v5, oI v6, oI v7, oI v8] (q.2 ++ []) q.1)) (fun _ => rfl) (rg_bd2 h fun s33 v34 hc h => rg_call (q := cvI (s33, v34)) (T_fRounds_arrangeStops hc) ?_)
    exact rg_end 1 (fun _ => rfl) (by cases h; rfl)
  refine rg_if h (fun h => ?_) fun h => ?_
  · refine rg_step 4 (G' := fun f => ev_after (evT f 183 0 [oR 138 0, oI v3, nn, nn] [] s) (fun q => evT f 302 401 [oR 0 0, oR 1 0, oI v3, oI v4, oI v5, oI v6, oI v7, oI v8] (q.2 ++ []) q.1)) (fun _ => rfl) (rg_bd2 h fun s35 v36 hc h => rg_call (q := cvI (s35, v36)) (T_fRounds_sortItems hc) ?_)
    exact rg_end 1 (fun _ => rfl) (by cases h; rfl)
  refine rg_if h (fun h => ?_) fun h => ?_
  · refine rg_step 4 (G' := fun f => ev_after (evT f 192 0 [oR 138 0, oI v3, nn, nn] [] s) (fun q => evT f 302 410 [oR 0 0, oR 1 0, oI v3, oI v4, oI v5, oI v6, oI v7, oI v8] (q.2 ++ []) q.1)) (fun _ => rfl) (rg_bd2 h fun s37 v38 hc h => rg_call (q := cvI (s37, v38)) (T_fRounds_sendOut hc) ?_)
    exact rg_end 1 (fun _ => rfl) (by cases h; rfl)
  refine rg_if h (fun h => ?_) fun h => ?_
  · refine rg_step 8 (G' := fun f => ev_after (evT f 88 0 [oR 449 0, oI v3, oI v4, oI v5, oI v6, oI v7] [] s) (fun q => evT f 302 426 [oR 0 0, oR 1 0, oI v3, oI v4, oI v5, oI v6, oI v7, oI v8] (q.2 ++ []) q.1)) (fun _ => rfl) (rg_bd2 h fun s39 v40 hc h => rg_call (q := cvI (s39, v40)) (T_fLines_make hc) ?_)
    exact rg_end 1 (fun _ => rfl) (by cases h; rfl)
  refine rg_if h (fun h => ?_) fun h => ?_
  · refine rg_step 5 (G' := fun f => ev_after (evT f 91 0 [oR 449 0, oI v3, oI v4] [] s) (fun q => evT f 302 436 [oR 0 0, oR 1 0, oI v3, oI v4, oI v5, oI v6, oI v7, oI v8] (q.2 ++ []) q.1)) (fun _ => rfl) (rg_bd2 h fun s41 v42 hc h => rg_call (q := cvI (s41, v42)) (T_fLines_delay hc) ?_)
    exact rg_end 1 (fun _ => rfl) (by cases h; rfl)
  refine rg_if h (fun h => ?_) fun h => ?_
  · refine rg_step 5 (G' := fun f => ev_after (evT f 92 0 [oR 449 0, oI v3, oI v4] [] s) (fun q => evT f 302 446 [oR 0 0, oR 1 0, oI v3, oI v4, oI v5, oI v6, oI v7, oI v8] (q.2 ++ []) q.1)) (fun _ => rfl) (rg_bd2 h fun s43 v44 hc h => rg_call (q := cvI (s43, v44)) (T_fLines_makeBag hc) ?_)
    exact rg_end 1 (fun _ => rfl) (by cases h; rfl)
  refine rg_if h (fun h => ?_) fun h => ?_
  · refine rg_step 5 (G' := fun f => ev_after (evT f 93 0 [oR 449 0, oI v3, oI v4, nn] [] s) (fun q => evT f 302 456 [oR 0 0, oR 1 0, oI v3, oI v4, oI v5, oI v6, oI v7, oI v8] (q.2 ++ []) q.1)) (fun _ => rfl) (rg_bd2 h fun s45 v46 hc h => rg_call (q := cvI (s45, v46)) (T_fLines_fillBag hc) ?_)
    exact rg_end 1 (fun _ => rfl) (by cases h; rfl)
  refine rg_if h (fun h => ?_) fun h => ?_
  · refine rg_step 4 (G' := fun f => ev_after (evT f 94 0 [oR 449 0, oI v3] [] s) (fun q => evT f 302 465 [oR 0 0, oR 1 0, oI v3, oI v4, oI v5, oI v6, oI v7, oI v8] (q.2 ++ []) q.1)) (fun _ => rfl) (rg_bd2 h fun s47 v48 hc h => rg_call (q := cvI (s47, v48)) (T_fLines_shutBag hc) ?_)
    exact rg_end 1 (fun _ => rfl) (by cases h; rfl)
  refine rg_if h (fun h => ?_) fun h => ?_
  · refine rg_step 4 (G' := fun f => ev_after (evT f 95 0 [oR 449 0, oI v3, nn, nn] [] s) (fun q => evT f 302 474 [oR 0 0, oR 1 0, oI v3, oI v4, oI v5, oI v6, oI v7, oI v8] (q.2 ++ []) q.1)) (fun _ => rfl) (rg_bd2 h fun s49 v50 hc h => rg_call (q := cvI (s49, v50)) (T_fLines_emptyBag hc) ?_)
    exact rg_end 1 (fun _ => rfl) (by cases h; rfl)
  refine rg_if h (fun h => ?_) fun h => ?_
  · refine rg_step 7 (G' := fun f => ev_after (evT f 76 0 [oR 100 0, oI v3, oI v4, oI v5, oI v6] [] s) (fun q => evT f 302 488 [oR 0 0, oR 1 0, oI v3, oI v4, oI v5, oI v6, oI v7, oI v8] (q.2 ++ []) q.1)) (fun _ => rfl) (rg_bd2 h fun s51 v52 hc h => rg_call (q := cvI (s51, v52)) (T_fItems_handAtDoor hc) ?_)
    exact rg_end 1 (fun _ => rfl) (by cases h; rfl)
  refine rg_if h (fun h => ?_) fun h => ?_
  · refine rg_step 4 (G' := fun f => ev_after (evT f 79 0 [oR 100 0, oI v3] [] s) (fun q => evT f 302 497 [oR 0 0, oR 1 0, oI v3, oI v4, oI v5, oI v6, oI v7, oI v8] (q.2 ++ []) q.1)) (fun _ => rfl) (rg_bd2 h fun s53 v54 hc h => rg_call (q := cvI (s53, v54)) (T_fItems_missAtDoor hc) ?_)
    exact rg_end 1 (fun _ => rfl) (by cases h; rfl)
  refine rg_if h (fun h => ?_) fun h => ?_
  · refine rg_step 4 (G' := fun f => ev_after (evT f 80 0 [oR 100 0, oI v3] [] s) (fun q => evT f 302 506 [oR 0 0, oR 1 0, oI v3, oI v4, oI v5, oI v6, oI v7, oI v8] (q.2 ++ []) q.1)) (fun _ => rfl) (rg_bd2 h fun s55 v56 hc h => rg_call (q := cvI (s55, v56)) (T_fItems_refuseItem hc) ?_)
    exact rg_end 1 (fun _ => rfl) (by cases h; rfl)
  refine rg_if h (fun h => ?_) fun h => ?_
  · refine rg_step 5 (G' := fun f => ev_after (evT f 115 0 [oR 125 0, oI v3, oI v4, nn, nn] [] s) (fun q => evT f 302 516 [oR 0 0, oR 1 0, oI v3, oI v4, oI v5, oI v6, oI v7, oI v8] (q.2 ++ []) q.1)) (fun _ => rfl) (rg_bd2 h fun s57 v58 hc h => rg_call (q := cvI (s57, v58)) (T_fLock_fill hc) ?_)
    exact rg_end 1 (fun _ => rfl) (by cases h; rfl)
  refine rg_if h (fun h => ?_) fun h => ?_
  · refine rg_step 7 (G' := fun f => ev_after (evT f 77 0 [oR 100 0, oI v3, oI v4, oI v5, oI v6] [] s) (fun q => evT f 302 530 [oR 0 0, oR 1 0, oI v3, oI v4, oI v5, oI v6, oI v7, oI v8] (q.2 ++ []) q.1)) (fun _ => rfl) (rg_bd2 h fun s59 v60 hc h => rg_call (q := cvI (s59, v60)) (T_fItems_handAtPost hc) ?_)
    exact rg_end 1 (fun _ => rfl) (by cases h; rfl)
  refine rg_if h (fun h => ?_) fun h => ?_
  · refine rg_step 5 (G' := fun f => ev_after (evT f 116 0 [oR 125 0, oI v3, oI v4, nn, nn] [] s) (fun q => evT f 302 540 [oR 0 0, oR 1 0, oI v3, oI v4, oI v5, oI v6, oI v7, oI v8] (q.2 ++ []) q.1)) (fun _ => rfl) (rg_bd2 h fun s61 v62 hc h => rg_call (q := cvI (s61, v62)) (T_fLock_tryKey hc) ?_)
    exact rg_end 1 (fun _ => rfl) (by cases h; rfl)
  refine rg_if h (fun h => ?_) fun h => ?_
  · refine rg_step 3 (G' := fun f => ev_after (evT f 305 0 [oR 0 0, oI v3] [] s) (fun q => evT f 302 546 [oR 0 0, oR 1 0, oI v3, oI v4, oI v5, oI v6, oI v7, oI v8] (q.2 ++ []) q.1)) (fun _ => rfl) (rg_bd2 h fun s63 v64 hc h => rg_call (q := cvI (s63, v64)) (T_fPH_loseItem hc) ?_)
    exact rg_end 1 (fun _ => rfl) (by cases h; rfl)
  refine rg_if h (fun h => ?_) fun h => ?_
  · refine rg_step 4 (G' := fun f => ev_after (evT f 150 0 [oR 78 0, oI v3, nn] [] s) (fun q => evT f 302 555 [oR 0 0, oR 1 0, oI v3, oI v4, oI v5, oI v6, oI v7, oI v8] (q.2 ++ []) q.1)) (fun _ => rfl) (rg_bd2 h fun s65 v66 hc h => rg_call (q := cvI (s65, v66)) (T_fMoney_openAccount hc) ?_)
    exact rg_end 1 (fun _ => rfl) (by cases h; rfl)
  refine rg_if h (fun h => ?_) fun h => ?_
  · refine rg_step 5 (G' := fun f => ev_after (evT f 151 0 [oR 78 0, oI v3, oI v4] [] s) (fun q => evT f 302 565 [oR 0 0, oR 1 0, oI v3, oI v4, oI v5, oI v6, oI v7, oI v8] (q.2 ++ []) q.1)) (fun _ => rfl) (rg_bd2 h fun s67 v68 hc h => rg_call (q := cvI (s67, v68)) (T_fMoney_payIn hc) ?_)
    exact rg_end 1 (fun _ => rfl) (by cases h; rfl)
  refine rg_if h (fun h => ?_) fun h => ?_
  · refine rg_step 4 (G' := fun f => ev_after (evT f 155 0 [oR 78 0, oR 1 0, nn, nn, nn, nn] [] s) (fun q => evT f 302 574 [oR 0 0, oR 1 0, oI v3, oI v4, oI v5, oI v6, oI v7, oI v8] (q.2 ++ []) q.1)) (fun _ => rfl) (rg_bd2 h fun s69 v70 hc h => rg_call (q := cvI (s69, v70)) (T_fMoney_readTariff_1 hc) ?_)
    exact rg_end 1 (fun _ => rfl) (by cases h; rfl)
  refine rg_if h (fun h => ?_) fun h => ?_
  · refine rg_step 4 (G' := fun f => ev_after (evT f 81 0 [oR 100 0, oI v3, nn, nn] [] s) (fun q => evT f 302 583 [oR 0 0, oR 1 0, oI v3, oI v4, oI v5, oI v6, oI v7, oI v8] (q.2 ++ []) q.1)) (fun _ => rfl) (rg_bd2 h fun s71 v72 hc h => rg_call (q := cvI (s71, v72)) (T_fItems_frankItem hc) ?_)
    exact rg_end 1 (fun _ => rfl) (by cases h; rfl)
  refine rg_if h (fun h => ?_) fun h => ?_
  · refine rg_step 6 (G' := fun f => ev_after (evT f 161 0 [oR 78 0, oI v3, oI v4, oI v5] [] s) (fun q => evT f 302 595 [oR 0 0, oR 1 0, oI v3, oI v4, oI v5, oI v6, oI v7, oI v8] (q.2 ++ []) q.1)) (fun _ => rfl) (rg_bd2 h fun s73 v74 hc h => rg_call (q := cvI (s73, v74)) (T_fMoney_makeOrder hc) ?_)
    exact rg_end 1 (fun _ => rfl) (by cases h; rfl)
  refine rg_if h (fun h => ?_) fun h => ?_
  · refine rg_step 6 (G' := fun f => ev_after (evT f 162 0 [oR 78 0, oI v3, oI v4, oI v5] [] s) (fun q => evT f 302 607 [oR 0 0, oR 1 0, oI v3, oI v4, oI v5, oI v6, oI v7, oI v8] (q.2 ++ []) q.1)) (fun _ => rfl) (rg_bd2 h fun s75 v76 hc h => rg_call (q := cvI (s75, v76)) (T_fMoney_payOrder hc) ?_)
    exact rg_end 1 (fun _ => rfl) (by cases h; rfl)
  refine rg_if h (fun h => ?_) fun h => ?_
  · refine rg_step 5 (G' := fun f => ev_after (evT f 82 0 [oR 100 0, oI v3, oI v4, nn] [] s) (fun q => evT f 302 617 [oR 0 0, oR 1 0, oI v3, oI v4, oI v5, oI v6, oI v7, oI v8] (q.2 ++ []) q.1)) (fun _ => rfl) (rg_bd2 h fun s77 v78 hc h => rg_call (q := cvI (s77, v78)) (T_fItems_claimFor hc) ?_)
    exact rg_end 1 (fun _ => rfl) (by cases h; rfl)
  refine rg_if h (fun h => ?_) fun h => ?_
  · refine rg_step 5 (G' := fun f => ev_after (evT f 111 0 [oR 125 0, oI v3, oI v4] [] s) (fun q => evT f 302 627 [oR 0 0, oR 1 0, oI v3, oI v4, oI v5, oI v6, oI v7, oI v8] (q.2 ++ []) q.1)) (fun _ => rfl) (rg_bd2 h fun s79 v80 hc h => rg_call (q := cvI (s79, v80)) (T_fLock_make hc) ?_)
    exact rg_end 1 (fun _ => rfl) (by cases h; rfl)
  refine rg_if h (fun h => ?_) fun h => ?_
  · refine rg_step 5 (G' := fun f => ev_after (evT f 47 0 [oR 15 0, oI v3, oI v4] [] s) (fun q => evT f 302 637 [oR 0 0, oR 1 0, oI v3, oI v4, oI v5, oI v6, oI v7, oI v8] (q.2 ++ []) q.1)) (fun _ => rfl) (rg_bd2 h fun s81 v82 hc h => rg_call (q := cvI (s81, v82)) (T_fChron_setDevice hc) ?_)
    exact rg_end 1 (fun _ => rfl) (by cases h; rfl)
  refine rg_if h (fun h => ?_) fun h => ?_
  · refine rg_step 6 (G' := fun f => ev_after (evT f 304 0 [oR 0 0, oI v3, oI v4, oI v5, oI v6] [] s) (fun q => evT f 302 648 [oR 0 0, oR 1 0, oI v3, oI v4, oI v5, oI v6, oI v7, oI v8] (q.2 ++ []) q.1)) (fun _ => rfl) (rg_bd2 h fun s83 v84 hc h => rg_call (q := cvI (s83, v84)) (T_fPH_scanItem hc) ?_)
    exact rg_end 1 (fun _ => rfl) (by cases h; rfl)
  refine rg_if h (fun h => ?_) fun h => ?_
  · refine rg_step 4 (G' := fun f => ev_after (evT f 148 0 [oR 78 0, oI v3] [] s) (fun q => evT f 302 657 [oR 0 0, oR 1 0, oI v3, oI v4, oI v5, oI v6, oI v7, oI v8] (q.2 ++ []) q.1)) (fun _ => rfl) (rg_bd1 h fun v85 hc h => rg_call (q := cvP s v85) (T_fMoney_isCustomer hc) ?_)
    refine rg_step 1 (G' := fun f => if v85 = 0 then evT f 302 683 [oR 0 0, oR 1 0, oI v3, oI v4, oI v5, oI v6, oI v7, oI v8] [] s else evT f 302 660 [oR 0 0, oR 1 0, oI v3, oI v4, oI v5, oI v6, oI v7, oI v8] [] s) (fun _ => rfl) (rg_if h (fun h => ?_) fun h => ?_)
    · exact rg_end 2 (fun _ => rfl) (by cases h; rfl)
    · refine rg_step 7 (G' := fun f => if v5 = (cI 1) then evT f 302 672 [oR 0 0, oR 1 0, oI v3, oI v4, oI v5, oI v6, oI v7, oI v8] [vI v4, vI v3, vR 15 0] s else evT f 302 676 [oR 0 0, oR 1 0, oI v3, oI v4, oI v5, oI v6, oI v7, oI v8] [vI v4, vI v3, vR 15 0] s) (fun _ => rfl) (rg_if h (fun h => ?_) fun h => ?_)
      · exact rg_step 2 (G' := fun f => evT f 302 677 [oR 0 0, oR 1 0, oI v3, oI v4, oI v5, oI v6, oI v7, oI v8] [vI (cI 1), vI v4, vI v3, vR 15 0] s) (fun _ => rfl) ((t_fPH_act_1_b677) h)
      · exact rg_step 1 (G' := fun f => evT f 302 677 [oR 0 0, oR 1 0, oI v3, oI v4, oI v5, oI v6, oI v7, oI v8] [vI (cI 0), vI v4, vI v3, vR 15 0] s) (fun _ => rfl) ((t_fPH_act_1_b677) h)
  refine rg_if h (fun h => ?_) fun h => ?_
  · refine rg_step 3 (G' := fun f => ev_after (evT f 306 0 [oR 0 0, oI v3, nn, nn, nn] [] s) (fun q => evT f 302 691 [oR 0 0, oR 1 0, oI v3, oI v4, oI v5, oI v6, oI v7, oI v8] (q.2 ++ []) q.1)) (fun _ => rfl) (rg_bd2 h fun s86 v87 hc h => rg_call (q := cvI (s86, v87)) (T_fPH_goOn hc) ?_)
    exact rg_end 1 (fun _ => rfl) (by cases h; rfl)
  exact rg_end 2 (fun _ => rfl) (by cases h; rfl)
theorem t_fPH_wish_b17 {s : ev_M} {y1 : Int32} {y2 : Int32} {y3 : Int32} {y4 : Int32} {j1 : Option ev_V} {j2 : Option ev_V} {j3 : Option ev_V} {q : ev_M × Int32} (h : fPH_wish_b17 s y1 y2 y3 y4 = some q) : RR 297 17 [oR 0 0, j1, j2, j3] [vI y4, vI y3, vI y2, vI y1, vR 9 0] s (cvI q) := by
  refine rg_step 4 (G' := fun f => ev_after (evT f 122 0 [oR 9 0, oI y1, oI y2, oI y3, oI y4, oI (cI 0), oI (cI 0), oI (cI 0)] [] s) (fun q => evT f 297 23 [oR 0 0, nn, nn, nn] (q.2 ++ []) q.1)) (fun _ => rfl) (rg_bd2 h fun s1 v2 hc h => rg_call (q := cvI (s1, v2)) (T_fLog_stages hc) ?_)
  refine rg_step 1 (G' := fun f => if v2 = 0 then evT f 297 37 [oR 0 0, nn, nn, nn] [] s1 else evT f 297 26 [oR 0 0, nn, nn, nn] [] s1) (fun _ => rfl) (rg_if h (fun h => ?_) fun h => ?_)
  · exact rg_end 2 (fun _ => rfl) (by cases h; rfl)
  · refine rg_step 4 (G' := fun f => ev_after (evT f 302 0 [oR 0 0, oR 1 0, nn, nn, nn, nn, nn, nn] [] s1) (fun q => evT f 297 34 [oR 0 0, nn, nn, nn] (q.2 ++ []) q.1)) (fun _ => rfl) (rg_bd2 h fun s3 v4 hc h => rg_call (q := cvI (s3, v4)) (T_fPH_act_1 hc) ?_)
    exact rg_end 2 (fun _ => rfl) (by cases h; rfl)
theorem T_fPH_wish {s : ev_M} {a1 : Int32} {a2 : Int32} {a3 : Int32} {q : ev_M × Int32} (h : fPH_wish s a1 a2 a3 = some q) : RR 297 0 [oR 0 0, oI a1, oI a2, oI a3] [] s (cvI q) := by
  refine rg_step 7 (G' := fun f => if a3 = 0 then evT f 297 16 [oR 0 0, oI a1, oI a2, oI a3] [vI a2, vI a1, vI (cI 39), vR 9 0] s else evT f 297 12 [oR 0 0, oI a1, oI a2, oI a3] [vI a2, vI a1, vI (cI 39), vR 9 0] s) (fun _ => rfl) (rg_if h (fun h => ?_) fun h => ?_)
  · exact rg_step 1 (G' := fun f => evT f 297 17 [oR 0 0, oI a1, oI a2, oI a3] [vI (cI 0), vI a2, vI a1, vI (cI 39), vR 9 0] s) (fun _ => rfl) ((t_fPH_wish_b17) h)
  · exact rg_step 2 (G' := fun f => evT f 297 17 [oR 0 0, oI a1, oI a2, oI a3] [vI (cI 1), vI a2, vI a1, vI (cI 39), vR 9 0] s) (fun _ => rfl) ((t_fPH_wish_b17) h)
theorem t_fM_feed_b87 {k34 : ev_M → Int32 → Int32 → Int32 → Int32 → Int32 → Int32 → Option (ev_M × Int32)} (hk34 : ∀ {s : ev_M} {x1 : Int32} {x2 : Int32} {x3 : Int32} {x4 : Int32} {x5 : Int32} {x6 : Int32} {j7 : Option ev_V} {q : ev_M × Int32}, k34 s x1 x2 x3 x4 x5 x6 = some q → RR 323 34 [oR 549 0, oI x1, oI x2, oI x3, oI x4, oI x5, oI x6, j7] [] s (cvI q)) {s : ev_M} {x1 : Int32} {x2 : Int32} {x3 : Int32} {x4 : Int32} {x5 : Int32} {x6 : Int32} {y0 : Int32} {j7 : Option ev_V} {q : ev_M × Int32} (h : fM_feed_b87 k34 s x1 x2 x3 x4 x5 x6 y0 = some q) : RR 323 87 [oR 549 0, oI x1, oI x2, oI x3, oI x4, oI x5, oI x6, j7] [vI y0] s (cvI q) := by
  refine rg_step 11 (G' := fun f => if (cI 4) = 0 then none else evT f 323 107 [oR 549 0, oI x1, oI x2, oI x3, oI x4, oI x5, oI x6, oI y0] [vI (irem x6 (cI 4)), vI (cI 8), vI (cI 24), vI y0, vI (s.1 549 2), vR 550 0] s) (fun _ => rfl) (rg_dv h fun h => ?_)
  refine rg_step 5 (G' := fun f => if inb (s.1 549 2) 4096 = true then evT f 323 112 [oR 549 0, oI x1, oI x2, oI x3, oI x4, oI x5, oI x6, oI y0] [] (wI s 550 (ix (s.1 549 2)) (i2b (i2b (y0 >>> (((cI 24) - ((cI 8) * (irem x6 (cI 4)))) &&& 31))))) else none) (fun _ => rfl) (rg_gd h fun h => rg_ltM h fun s1 h => ?_)
  refine rg_step 6 (G' := fun f => evT f 323 122 [oR 549 0, oI x1, oI x2, oI x3, oI x4, oI x5, oI x6, oI y0] [] (wI s1 549 2 ((s1.1 549 2) + (cI 1)))) (fun _ => rfl) (rg_ltM h fun s2 h => ?_)
  exact rg_step 2 (G' := fun f => evT f 323 34 [oR 549 0, oI x1, oI x2, oI x3, oI x4, oI x5, oI (x6 + cI 1), oI y0] [] s2) (fun _ => rfl) (hk34 h)
theorem ti_fM_feed_h34 : ∀ (n : Nat) (s : ev_M) (x1 : Int32) (x2 : Int32) (x3 : Int32) (x4 : Int32) (x5 : Int32) (x6 : Int32) (j7 : Option ev_V) (q : ev_M × Int32), fM_feed_h34 n s x1 x2 x3 x4 x5 x6 = some q → RR 323 34 [oR 549 0, oI x1, oI x2, oI x3, oI x4, oI x5, oI x6, j7] [] s (cvI q) := by
  intro n
  induction n with
  | zero => intro s x1 x2 x3 x4 x5 x6 j7 q h; cases h
  | succ n ih =>
    have hk34 : ∀ {s : ev_M} {x1 : Int32} {x2 : Int32} {x3 : Int32} {x4 : Int32} {x5 : Int32} {x6 : Int32} {j7 : Option ev_V} {q : ev_M × Int32}, fM_feed_h34 n s x1 x2 x3 x4 x5 x6 = some q → RR 323 34 [oR 549 0, oI x1, oI x2, oI x3, oI x4, oI x5, oI x6, j7] [] s (cvI q) := fun h => ih _ _ _ _ _ _ _ _ _ h
    intro s x1 x2 x3 x4 x5 x6 j7 q h
    refine rg_step 3 (G' := fun f => if x6 < (cI 20) then evT f 323 41 [oR 549 0, oI x1, oI x2, oI x3, oI x4, oI x5, oI x6, nn] [] s else evT f 323 128 [oR 549 0, oI x1, oI x2, oI x3, oI x4, oI x5, oI x6, nn] [] s) (fun _ => rfl) (rg_if h (fun h => ?_) fun h => ?_)
    · refine rg_step 3 (G' := fun f => if x6 < (cI 4) then evT f 323 47 [oR 549 0, oI x1, oI x2, oI x3, oI x4, oI x5, oI x6, nn] [] s else evT f 323 51 [oR 549 0, oI x1, oI x2, oI x3, oI x4, oI x5, oI x6, nn] [] s) (fun _ => rfl) (rg_if h (fun h => ?_) fun h => ?_)
      · exact rg_step 2 (G' := fun f => evT f 323 87 [oR 549 0, oI x1, oI x2, oI x3, oI x4, oI x5, oI x6, nn] [vI x1] s) (fun _ => rfl) ((t_fM_feed_b87 hk34) h)
      · refine rg_step 3 (G' := fun f => if x6 < (cI 8) then evT f 323 58 [oR 549 0, oI x1, oI x2, oI x3, oI x4, oI x5, oI x6, nn] [] s else evT f 323 62 [oR 549 0, oI x1, oI x2, oI x3, oI x4, oI x5, oI x6, nn] [] s) (fun _ => rfl) (rg_if h (fun h => ?_) fun h => ?_)
        · exact rg_step 2 (G' := fun f => evT f 323 87 [oR 549 0, oI x1, oI x2, oI x3, oI x4, oI x5, oI x6, nn] [vI x2] s) (fun _ => rfl) ((t_fM_feed_b87 hk34) h)
        · refine rg_step 3 (G' := fun f => if x6 < (cI 12) then evT f 323 69 [oR 549 0, oI x1, oI x2, oI x3, oI x4, oI x5, oI x6, nn] [] s else evT f 323 73 [oR 549 0, oI x1, oI x2, oI x3, oI x4, oI x5, oI x6, nn] [] s) (fun _ => rfl) (rg_if h (fun h => ?_) fun h => ?_)
          · exact rg_step 2 (G' := fun f => evT f 323 87 [oR 549 0, oI x1, oI x2, oI x3, oI x4, oI x5, oI x6, nn] [vI x3] s) (fun _ => rfl) ((t_fM_feed_b87 hk34) h)
          · refine rg_step 3 (G' := fun f => if x6 < (cI 16) then evT f 323 80 [oR 549 0, oI x1, oI x2, oI x3, oI x4, oI x5, oI x6, nn] [] s else evT f 323 85 [oR 549 0, oI x1, oI x2, oI x3, oI x4, oI x5, oI x6, nn] [] s) (fun _ => rfl) (rg_if h (fun h => ?_) fun h => ?_)
            · exact rg_step 2 (G' := fun f => evT f 323 87 [oR 549 0, oI x1, oI x2, oI x3, oI x4, oI x5, oI x6, nn] [vI x4] s) (fun _ => rfl) ((t_fM_feed_b87 hk34) h)
            · exact rg_step 1 (G' := fun f => evT f 323 87 [oR 549 0, oI x1, oI x2, oI x3, oI x4, oI x5, oI x6, nn] [vI x5] s) (fun _ => rfl) ((t_fM_feed_b87 hk34) h)
    · exact rg_end 3 (fun _ => rfl) (by cases h; rfl)
theorem t_fM_feed_h34 {n : Nat} {s : ev_M} {x1 : Int32} {x2 : Int32} {x3 : Int32} {x4 : Int32} {x5 : Int32} {x6 : Int32} {j7 : Option ev_V} {q : ev_M × Int32} (h : fM_feed_h34 n s x1 x2 x3 x4 x5 x6 = some q) : RR 323 34 [oR 549 0, oI x1, oI x2, oI x3, oI x4, oI x5, oI x6, j7] [] s (cvI q) := ti_fM_feed_h34 n s x1 x2 x3 x4 x5 x6 j7 q h
theorem t_fM_feed_b19 {s : ev_M} {x1 : Int32} {x2 : Int32} {x3 : Int32} {x4 : Int32} {x5 : Int32} {y1 : Int32} {j6 : Option ev_V} {j7 : Option ev_V} {q : ev_M × Int32} (h : fM_feed_b19 s x1 x2 x3 x4 x5 y1 = some q) : RR 323 19 [oR 549 0, oI x1, oI x2, oI x3, oI x4, oI x5, j6, j7] [vI y1, vR 549 0] s (cvI q) := by
  refine rg_step 1 (G' := fun f => evT f 323 22 [oR 549 0, oI x1, oI x2, oI x3, oI x4, oI x5, nn, nn] [] (wI s 549 0 y1)) (fun _ => rfl) (rg_ltM h fun s3 h => ?_)
  refine rg_step 3 (G' := fun f => if (s3.1 549 0) ≤ 0 then evT f 323 31 [oR 549 0, oI x1, oI x2, oI x3, oI x4, oI x5, nn, nn] [] s3 else evT f 323 29 [oR 549 0, oI x1, oI x2, oI x3, oI x4, oI x5, nn, nn] [] s3) (fun _ => rfl) (rg_if h (fun h => ?_) fun h => ?_)
  · exact rg_step 2 (G' := fun f => evT f 323 34 [oR 549 0, oI x1, oI x2, oI x3, oI x4, oI x5, oI (cI 0), nn] [] s3) (fun _ => rfl) ((t_fM_feed_h34) h)
  · exact rg_end 2 (fun _ => rfl) (by cases h; rfl)
theorem T_fM_feed {s : ev_M} {a1 : Int32} {a2 : Int32} {a3 : Int32} {a4 : Int32} {a5 : Int32} {q : ev_M × Int32} (h : fM_feed s a1 a2 a3 a4 a5 = some q) : RR 323 0 [oR 549 0, oI a1, oI a2, oI a3, oI a4, oI a5, nn, nn] [] s (cvI q) := by
  refine rg_step 7 (G' := fun f => if ((s.1 549 2) + (cI 20)) ≤ (cI 4096) then evT f 323 18 [oR 549 0, oI a1, oI a2, oI a3, oI a4, oI a5, nn, nn] [vR 549 0] s else evT f 323 14 [oR 549 0, oI a1, oI a2, oI a3, oI a4, oI a5, nn, nn] [vR 549 0] s) (fun _ => rfl) (rg_if h (fun h => ?_) fun h => ?_)
  · exact rg_step 1 (G' := fun f => evT f 323 19 [oR 549 0, oI a1, oI a2, oI a3, oI a4, oI a5, nn, nn] [vI (cI 0), vR 549 0] s) (fun _ => rfl) ((t_fM_feed_b19) h)
  · exact rg_step 2 (G' := fun f => evT f 323 19 [oR 549 0, oI a1, oI a2, oI a3, oI a4, oI a5, nn, nn] [vI (cI 1), vR 549 0] s) (fun _ => rfl) ((t_fM_feed_b19) h)
theorem T_fM_thrown {s : ev_M} {q : Int32} (h : fM_thrown s = some q) : RR 310 0 [oR 549 0] [] s (cvP s q) := by
  exact rg_end 3 (fun _ => rfl) (by cases h; rfl)
theorem t_fM_end_b37 {s : ev_M} {y1 : Int32} {j0 : Option ev_V} {j1 : Option ev_V} {q : ev_M} (h : fM_end_b37 s y1 = some q) : RR 324 37 [j0, j1] [vI y1, vR 549 0] s (cvV q) := by
  refine rg_step 1 (G' := fun f => evT f 324 40 [nn, nn] [] (wI s 549 2 y1)) (fun _ => rfl) (rg_ltM h fun s1 h => ?_)
  exact rg_end 1 (fun _ => rfl) (by cases h; rfl)
theorem t_fM_end_b18 {s : ev_M} {x1 : Int32} {y1 : Int32} {q : ev_M} (h : fM_end_b18 s x1 y1 = some q) : RR 324 18 [oR 549 0, oI x1] [vI y1, vR 549 0] s (cvV q) := by
  refine rg_step 1 (G' := fun f => evT f 324 21 [oR 549 0, oI x1] [] (wI s 549 0 y1)) (fun _ => rfl) (rg_ltM h fun s2 h => ?_)
  refine rg_step 4 (G' := fun f => if (s2.1 549 0) ≤ 0 then evT f 324 36 [oR 549 0, oI x1] [vR 549 0] s2 else evT f 324 29 [oR 549 0, oI x1] [vR 549 0] s2) (fun _ => rfl) (rg_if h (fun h => ?_) fun h => ?_)
  · exact rg_step 1 (G' := fun f => evT f 324 37 [oR 549 0, oI x1] [vI x1, vR 549 0] s2) (fun _ => rfl) ((t_fM_end_b37) h)
  · exact rg_step 3 (G' := fun f => evT f 324 37 [oR 549 0, oI x1] [vI (s2.1 549 2), vR 549 0] s2) (fun _ => rfl) ((t_fM_end_b37) h)
theorem T_fM_end {s : ev_M} {a1 : Int32} {q : ev_M} (h : fM_end s a1 = some q) : RR 324 0 [oR 549 0, oI a1] [] s (cvV q) := by
  refine rg_step 6 (G' := fun f => ev_after (evT f 311 0 [oI a1, oI (cI 0), oI (s.1 549 2)] [] s) (fun q => evT f 324 10 [oR 549 0, oI a1] (q.2 ++ [vR 549 0]) q.1)) (fun _ => rfl) (rg_bd1 h fun v3 hc h => rg_call (q := cvP s v3) (T_fM_in hc) ?_)
  refine rg_step 1 (G' := fun f => if v3 = 0 then evT f 324 17 [oR 549 0, oI a1] [vR 549 0] s else evT f 324 13 [oR 549 0, oI a1] [vR 549 0] s) (fun _ => rfl) (rg_if h (fun h => ?_) fun h => ?_)
  · exact rg_step 1 (G' := fun f => evT f 324 18 [oR 549 0, oI a1] [vI (cI 1), vR 549 0] s) (fun _ => rfl) ((t_fM_end_b18) h)
  · exact rg_step 2 (G' := fun f => evT f 324 18 [oR 549 0, oI a1] [vI (cI 0), vR 549 0] s) (fun _ => rfl) ((t_fM_end_b18) h)
theorem ti_fLog_sumOf_12_h4 {s : ev_M} : ∀ (n : Nat) (x1 : Int32) (x2 : Int32) (x3 : Int32) (j4 : Option ev_V) (q : Int32), fLog_sumOf_12_h4 s n x1 x2 x3 = some q → RR 132 4 [oR 12 0, oI x1, oI x2, oI x3, j4] [] s (cvP s q) := by
  intro n
  induction n with
  | zero => intro x1 x2 x3 j4 q h; cases h
  | succ n ih =>
    have hk4 : ∀ {x1 : Int32} {x2 : Int32} {x3 : Int32} {j4 : Option ev_V} {q : Int32}, fLog_sumOf_12_h4 s n x1 x2 x3 = some q → RR 132 4 [oR 12 0, oI x1, oI x2, oI x3, j4] [] s (cvP s q) := fun h => ih _ _ _ _ _ h
    intro x1 x2 x3 j4 q h
    refine rg_step 5 (G' := fun f => if x3 < (x1 + (cI 252)) then evT f 132 13 [oR 12 0, oI x1, oI x2, oI x3, nn] [] s else evT f 132 50 [oR 12 0, oI x1, oI x2, oI x3, nn] [] s) (fun _ => rfl) (rg_if h (fun h => ?_) fun h => ?_)
    · refine rg_step 4 (G' := fun f => if x3 < (cI 256) then evT f 132 19 [oR 12 0, oI x1, oI x2, oI x3, nn] [] s else evT f 132 50 [oR 12 0, oI x1, oI x2, oI x3, nn] [] s) (fun _ => rfl) (rg_if h (fun h => ?_) fun h => ?_)
      · refine rg_step 4 (G' := fun f => if inb x3 256 = true then evT f 132 23 [oR 12 0, oI x1, oI x2, oI x3, nn] [vI (s.1 12 (ix x3)), vI x2] s else none) (fun _ => rfl) (rg_gd h fun h => ?_)
        refine rg_step 4 (G' := fun f => evT f 132 30 [oR 12 0, oI x1, oI x2, oI x3, oI (x2 ^^^ ((s.1 12 (ix x3)) &&& (cI 255)))] [] s) (fun _ => rfl) (rg_ltI (P := fun v1 => RG (fun f => evT f 132 30 [oR 12 0, oI x1, oI x2, oI x3, oI v1] [] s) (cvP s q)) h fun v1 h => ?_)
        refine rg_step 7 (G' := fun f => evT f 132 40 [oR 12 0, oI x1, oI x2, oI x3, oI v1] [vI ((v1 <<< ((cI 3) &&& 31)) ||| (iushr v1 (cI 29)))] s) (fun _ => rfl) ?_
        refine rg_step 1 (G' := fun f => evT f 132 42 [oR 12 0, oI x1, oI x2, oI x3, oI v1] [vI (cI (-2048144777)), vI ((v1 <<< ((cI 3) &&& 31)) ||| (iushr v1 (cI 29)))] s) (fun f => ev_ldcs (f := f) (M := 132) (pc := 40) (idx := 123) (r := (-2048144777)) rfl (by decide)) ?_
        refine rg_step 1 (G' := fun f => evT f 132 43 [oR 12 0, oI x1, oI x2, oI x3, oI v1] [vI (((v1 <<< ((cI 3) &&& 31)) ||| (iushr v1 (cI 29))) * (cI (-2048144777)))] s) (fun f => ev_mul1 (f := f) (M := 132) (pc := 42) rfl) ?_
        refine rg_step 1 (G' := fun f => evT f 132 44 [oR 12 0, oI x1, oI (((v1 <<< ((cI 3) &&& 31)) ||| (iushr v1 (cI 29))) * (cI (-2048144777))), oI x3, oI v1] [] s) (fun _ => rfl) (rg_ltI (P := fun v2 => RG (fun f => evT f 132 44 [oR 12 0, oI x1, oI v2, oI x3, oI v1] [] s) (cvP s q)) h fun v2 h => ?_)
        exact rg_step 2 (G' := fun f => evT f 132 4 [oR 12 0, oI x1, oI v2, oI (x3 + cI 1), oI v1] [] s) (fun _ => rfl) (hk4 h)
      · exact rg_end 2 (fun _ => rfl) (by cases h; rfl)
    · exact rg_end 2 (fun _ => rfl) (by cases h; rfl)
theorem t_fLog_sumOf_12_h4 {s : ev_M} {n : Nat} {x1 : Int32} {x2 : Int32} {x3 : Int32} {j4 : Option ev_V} {q : Int32} (h : fLog_sumOf_12_h4 s n x1 x2 x3 = some q) : RR 132 4 [oR 12 0, oI x1, oI x2, oI x3, j4] [] s (cvP s q) := ti_fLog_sumOf_12_h4 n x1 x2 x3 j4 q h
theorem T_fLog_sumOf_12 {s : ev_M} {a1 : Int32} {q : Int32} (h : fLog_sumOf_12 s a1 = some q) : RR 132 0 [oR 12 0, oI a1, nn, nn, nn] [] s (cvP s q) := by
  exact rg_step 4 (G' := fun f => evT f 132 4 [oR 12 0, oI a1, oI (cI 0), oI a1, nn] [] s) (fun _ => rfl) ((t_fLog_sumOf_12_h4) h)
theorem ti_fArr_fillL_12_h5 : ∀ (n : Nat) (s : ev_M) (x1 : Int32) (x2 : Int32) (x3 : Int32) (q : ev_M), fArr_fillL_12_h5 n s x1 x2 x3 = some q → RR 538 5 [oR 12 0, oI x1, oI x2, oI x3] [] s (cvV q) := by
  intro n
  induction n with
  | zero => intro s x1 x2 x3 q h; cases h
  | succ n ih =>
    have hk5 : ∀ {s : ev_M} {x1 : Int32} {x2 : Int32} {x3 : Int32} {q : ev_M}, fArr_fillL_12_h5 n s x1 x2 x3 = some q → RR 538 5 [oR 12 0, oI x1, oI x2, oI x3] [] s (cvV q) := fun h => ih _ _ _ _ _ h
    intro s x1 x2 x3 q h
    refine rg_step 3 (G' := fun f => if x2 < x3 then evT f 538 10 [oR 12 0, oI x1, oI x2, oI x3] [] s else evT f 538 20 [oR 12 0, oI x1, oI x2, oI x3] [] s) (fun _ => rfl) (rg_if h (fun h => ?_) fun h => ?_)
    · refine rg_step 4 (G' := fun f => if inb x2 256 = true then evT f 538 14 [oR 12 0, oI x1, oI x2, oI x3] [] (wI s 12 (ix x2) (i2b x1)) else none) (fun _ => rfl) (rg_gd h fun h => rg_ltM h fun s1 h => ?_)
      exact rg_step 2 (G' := fun f => evT f 538 5 [oR 12 0, oI x1, oI (x2 + cI 1), oI x3] [] s1) (fun _ => rfl) (hk5 h)
    · exact rg_end 1 (fun _ => rfl) (by cases h; rfl)
theorem t_fArr_fillL_12_h5 {n : Nat} {s : ev_M} {x1 : Int32} {x2 : Int32} {x3 : Int32} {q : ev_M} (h : fArr_fillL_12_h5 n s x1 x2 x3 = some q) : RR 538 5 [oR 12 0, oI x1, oI x2, oI x3] [] s (cvV q) := ti_fArr_fillL_12_h5 n s x1 x2 x3 q h
theorem T_fArr_fillL_12 {s : ev_M} {a1 : Int32} {q : ev_M} (h : fArr_fillL_12 s a1 = some q) : RR 538 0 [oR 12 0, oI a1, nn, nn] [] s (cvV q) := by
  exact rg_step 5 (G' := fun f => evT f 538 5 [oR 12 0, oI a1, oI (cI 0), oI (cI 256)] [] s) (fun _ => rfl) ((t_fArr_fillL_12_h5) h)
theorem ti_fLog_makeBlock_h122 : ∀ (n : Nat) (s : ev_M) (x6 : Int32) (x7 : Int32) (j1 : Option ev_V) (j2 : Option ev_V) (j3 : Option ev_V) (j4 : Option ev_V) (j5 : Option ev_V) (q : ev_M), fLog_makeBlock_h122 n s x6 x7 = some q → RR 129 122 [oR 9 0, j1, j2, j3, j4, j5, oI x6, oI x7] [] s (cvV q) := by
  intro n
  induction n with
  | zero => intro s x6 x7 j1 j2 j3 j4 j5 q h; cases h
  | succ n ih =>
    have hk122 : ∀ {s : ev_M} {x6 : Int32} {x7 : Int32} {j1 : Option ev_V} {j2 : Option ev_V} {j3 : Option ev_V} {j4 : Option ev_V} {j5 : Option ev_V} {q : ev_M}, fLog_makeBlock_h122 n s x6 x7 = some q → RR 129 122 [oR 9 0, j1, j2, j3, j4, j5, oI x6, oI x7] [] s (cvV q) := fun h => ih _ _ _ _ _ _ _ _ _ h
    intro s x6 x7 j1 j2 j3 j4 j5 q h
    refine rg_step 3 (G' := fun f => if x7 < (cI 4) then evT f 129 128 [oR 9 0, nn, nn, nn, nn, nn, oI x6, oI x7] [] s else evT f 129 157 [oR 9 0, nn, nn, nn, nn, nn, oI x6, oI x7] [] s) (fun _ => rfl) (rg_if h (fun h => ?_) fun h => ?_)
    · refine rg_step 14 (G' := fun f => if inb ((cI 252) + x7) 256 = true then evT f 129 151 [oR 9 0, nn, nn, nn, nn, nn, oI x6, oI x7] [] (wI s 12 (ix ((cI 252) + x7)) (i2b (i2b (x6 >>> (((cI 24) - ((cI 8) * x7)) &&& 31))))) else none) (fun _ => rfl) (rg_gd h fun h => rg_ltM h fun s1 h => ?_)
      exact rg_step 2 (G' := fun f => evT f 129 122 [oR 9 0, nn, nn, nn, nn, nn, oI x6, oI (x7 + cI 1)] [] s1) (fun _ => rfl) (hk122 h)
    · exact rg_end 1 (fun _ => rfl) (by cases h; rfl)
theorem t_fLog_makeBlock_h122 {n : Nat} {s : ev_M} {x6 : Int32} {x7 : Int32} {j1 : Option ev_V} {j2 : Option ev_V} {j3 : Option ev_V} {j4 : Option ev_V} {j5 : Option ev_V} {q : ev_M} (h : fLog_makeBlock_h122 n s x6 x7 = some q) : RR 129 122 [oR 9 0, j1, j2, j3, j4, j5, oI x6, oI x7] [] s (cvV q) := ti_fLog_makeBlock_h122 n s x6 x7 j1 j2 j3 j4 j5 q h
theorem ti_fLog_makeBlock_h77 : ∀ (n : Nat) (s : ev_M) (x4 : Int32) (x5 : Int32) (x6 : Int32) (j1 : Option ev_V) (j2 : Option ev_V) (j3 : Option ev_V) (j7 : Option ev_V) (q : ev_M), fLog_makeBlock_h77 n s x4 x5 x6 = some q → RR 129 77 [oR 9 0, j1, j2, j3, oI x4, oI x5, oI x6, j7] [] s (cvV q) := by
  intro n
  induction n with
  | zero => intro s x4 x5 x6 j1 j2 j3 j7 q h; cases h
  | succ n ih =>
    have hk77 : ∀ {s : ev_M} {x4 : Int32} {x5 : Int32} {x6 : Int32} {j1 : Option ev_V} {j2 : Option ev_V} {j3 : Option ev_V} {j7 : Option ev_V} {q : ev_M}, fLog_makeBlock_h77 n s x4 x5 x6 = some q → RR 129 77 [oR 9 0, j1, j2, j3, oI x4, oI x5, oI x6, j7] [] s (cvV q) := fun h => ih _ _ _ _ _ _ _ _ _ h
    intro s x4 x5 x6 j1 j2 j3 j7 q h
    refine rg_step 3 (G' := fun f => if x6 < x5 then evT f 129 84 [oR 9 0, nn, nn, nn, oI x4, oI x5, oI x6, nn] [] s else evT f 129 109 [oR 9 0, nn, nn, nn, oI x4, oI x5, oI x6, nn] [] s) (fun _ => rfl) (rg_if h (fun h => ?_) fun h => ?_)
    · refine rg_step 11 (G' := fun f => if inb (x4 + x6) 37200 = true then evT f 129 102 [oR 9 0, nn, nn, nn, oI x4, oI x5, oI x6, nn] [vI (s.1 13 (ix (x4 + x6))), vI ((cI 4) + x6), vR 12 0] s else none) (fun _ => rfl) (rg_gd h fun h => ?_)
      refine rg_step 1 (G' := fun f => if inb ((cI 4) + x6) 256 = true then evT f 129 103 [oR 9 0, nn, nn, nn, oI x4, oI x5, oI x6, nn] [] (wI s 12 (ix ((cI 4) + x6)) (i2b (s.1 13 (ix (x4 + x6))))) else none) (fun _ => rfl) (rg_gd h fun h => rg_ltM h fun s2 h => ?_)
      exact rg_step 2 (G' := fun f => evT f 129 77 [oR 9 0, nn, nn, nn, oI x4, oI x5, oI (x6 + cI 1), nn] [] s2) (fun _ => rfl) (hk77 h)
    · refine rg_step 4 (G' := fun f => ev_after (evT f 132 0 [oR 12 0, oI (cI 0), nn, nn, nn] [] s) (fun q => evT f 129 117 [oR 9 0, nn, nn, nn, oI x4, oI x5, oI x6, nn] (q.2 ++ []) q.1)) (fun _ => rfl) (rg_bd1 h fun v3 hc h => rg_call (q := cvP s v3) (T_fLog_sumOf_12 hc) ?_)
      exact rg_step 3 (G' := fun f => evT f 129 122 [oR 9 0, nn, nn, nn, oI x4, oI x5, oI v3, oI (cI 0)] [] s) (fun _ => rfl) ((t_fLog_makeBlock_h122) h)
theorem t_fLog_makeBlock_h77 {n : Nat} {s : ev_M} {x4 : Int32} {x5 : Int32} {x6 : Int32} {j1 : Option ev_V} {j2 : Option ev_V} {j3 : Option ev_V} {j7 : Option ev_V} {q : ev_M} (h : fLog_makeBlock_h77 n s x4 x5 x6 = some q) : RR 129 77 [oR 9 0, j1, j2, j3, oI x4, oI x5, oI x6, j7] [] s (cvV q) := ti_fLog_makeBlock_h77 n s x4 x5 x6 j1 j2 j3 j7 q h
theorem t_fLog_makeBlock_b63 {s : ev_M} {x4 : Int32} {x5 : Int32} {y1 : Int32} {y2 : Int32} {j1 : Option ev_V} {j2 : Option ev_V} {j3 : Option ev_V} {j6 : Option ev_V} {j7 : Option ev_V} {q : ev_M} (h : fLog_makeBlock_b63 s x4 x5 y1 y2 = some q) : RR 129 63 [oR 9 0, j1, j2, j3, oI x4, oI x5, j6, j7] [vI y2, vI y1, vR 12 0] s (cvV q) := by
  refine rg_step 2 (G' := fun f => if inb y1 256 = true then evT f 129 65 [oR 9 0, nn, nn, nn, oI x4, oI x5, nn, nn] [] (wI s 12 (ix y1) (i2b (i2b y2))) else none) (fun _ => rfl) (rg_gd h fun h => rg_ltM h fun s4 h => ?_)
  refine rg_step 6 (G' := fun f => evT f 129 74 [oR 9 0, nn, nn, nn, oI x4, oI x5, nn, nn] [] (wI s4 12 (ix (cI 3)) (i2b (i2b x5)))) (fun _ => rfl) (rg_ltM h fun s5 h => ?_)
  exact rg_step 2 (G' := fun f => evT f 129 77 [oR 9 0, nn, nn, nn, oI x4, oI x5, oI (cI 0), nn] [] s5) (fun _ => rfl) ((t_fLog_makeBlock_h77) h)
theorem T_fLog_makeBlock {s : ev_M} {a1 : Int32} {a2 : Int32} {a3 : Int32} {q : ev_M} (h : fLog_makeBlock s a1 a2 a3 = some q) : RR 129 0 [oR 9 0, oI a1, oI a2, oI a3, nn, nn, nn, nn] [] s (cvV q) := by
  refine rg_step 4 (G' := fun f => evT f 129 7 [oR 9 0, oI a1, oI a2, oI a3, oI (a1 * (cI 248)), nn, nn, nn] [] s) (fun _ => rfl) (rg_ltI (P := fun v6 => RG (fun f => evT f 129 7 [oR 9 0, oI a1, oI a2, oI a3, oI v6, nn, nn, nn] [] s) (cvV q)) h fun v6 h => ?_)
  refine rg_step 6 (G' := fun f => ev_after (evT f 535 0 [oI (cI 248), oI ((s.1 9 6) - v6)] [] s) (fun q => evT f 129 20 [oR 9 0, oI a1, oI a2, oI a3, oI v6, nn, nn, nn] (q.2 ++ []) q.1)) (fun _ => rfl) (rg_bd1 h fun v7 hc h => rg_call (q := cvP s v7) (T_fMath_min hc) ?_)
  refine rg_step 5 (G' := fun f => ev_after (evT f 538 0 [oR 12 0, oI (cI 0), nn, nn] [] s) (fun q => evT f 129 30 [oR 9 0, oI a1, oI a2, oI a3, oI v6, oI v7, nn, nn] (q.2 ++ []) q.1)) (fun _ => rfl) (rg_bd1 h fun s8 hc h => rg_call (q := cvV s8) (T_fArr_fillL_12 hc) ?_)
  refine rg_step 8 (G' := fun f => evT f 129 41 [oR 9 0, oI a1, oI a2, oI a3, oI v6, oI v7, nn, nn] [] (wI s8 12 (ix (cI 0)) (i2b (i2b (a2 >>> ((cI 8) &&& 31)))))) (fun _ => rfl) (rg_ltM h fun s9 h => ?_)
  refine rg_step 6 (G' := fun f => evT f 129 49 [oR 9 0, oI a1, oI a2, oI a3, oI v6, oI v7, nn, nn] [] (wI s9 12 (ix (cI 1)) (i2b (i2b a2)))) (fun _ => rfl) (rg_ltM h fun s10 h => ?_)
  refine rg_step 5 (G' := fun f => if a3 = 0 then evT f 129 62 [oR 9 0, oI a1, oI a2, oI a3, oI v6, oI v7, nn, nn] [vI (cI 2), vR 12 0] s10 else evT f 129 58 [oR 9 0, oI a1, oI a2, oI a3, oI v6, oI v7, nn, nn] [vI (cI 2), vR 12 0] s10) (fun _ => rfl) (rg_if h (fun h => ?_) fun h => ?_)
  · exact rg_step 1 (G' := fun f => evT f 129 63 [oR 9 0, oI a1, oI a2, oI a3, oI v6, oI v7, nn, nn] [vI (cI 0), vI (cI 2), vR 12 0] s10) (fun _ => rfl) ((t_fLog_makeBlock_b63) h)
  · exact rg_step 2 (G' := fun f => evT f 129 63 [oR 9 0, oI a1, oI a2, oI a3, oI v6, oI v7, nn, nn] [vI (cI 1), vI (cI 2), vR 12 0] s10) (fun _ => rfl) ((t_fLog_makeBlock_b63) h)
theorem t_fLog_writes_b75 {s : ev_M} {x2 : Int32} {y1 : Int32} {y2 : Int32} {j1 : Option ev_V} {q : ev_M × Int32} (h : fLog_writes_b75 s x2 y1 y2 = some q) : RR 130 75 [oR 9 0, j1, oI x2] [vI y2, vI y1, vR 11 0] s (cvI q) := by
  refine rg_step 1 (G' := fun f => if inb y1 150 = true then evT f 130 76 [oR 9 0, nn, oI x2] [] (wI s 11 (ix y1) (y2 &&& 1)) else none) (fun _ => rfl) (rg_gd h fun h => rg_ltM h fun s1 h => ?_)
  refine rg_step 3 (G' := fun f => if (s1.1 9 10) ≤ 0 then evT f 130 93 [oR 9 0, nn, oI x2] [] s1 else evT f 130 83 [oR 9 0, nn, oI x2] [] s1) (fun _ => rfl) (rg_if h (fun h => ?_) fun h => ?_)
  · exact rg_step 2 (G' := fun f => if bz x2 = true then some (s1, [vI x2]) else none) (fun _ => rfl) (rg_gd h fun h => rg_end 0 (fun _ => rfl) (by cases h; rfl))
  · refine rg_step 6 (G' := fun f => evT f 130 93 [oR 9 0, nn, oI x2] [] (wI s1 9 10 ((s1.1 9 10) - (cI 1)))) (fun _ => rfl) (rg_ltM h fun s2 h => ?_)
    exact rg_step 2 (G' := fun f => if bz x2 = true then some (s2, [vI x2]) else none) (fun _ => rfl) (rg_gd h fun h => rg_end 0 (fun _ => rfl) (by cases h; rfl))
theorem t_fLog_writes_b56 {s : ev_M} {x1 : Int32} {x2 : Int32} {y1 : Int32} {y3 : Int32} {y4 : Int32} {q : ev_M × Int32} (h : fLog_writes_b56 s x1 x2 y1 y3 y4 = some q) : RR 130 56 [oR 9 0, oI x1, oI x2] [vI y4, vI y3, vR 10 0, vI y1, vR 12 0] s (cvI q) := by
  refine rg_step 1 (G' := fun f => ev_after ((fACP s 256 38400 12 10 y1 y3 y4).map cvV) (fun q => evT f 130 59 [oR 9 0, oI x1, oI x2] (q.2 ++ []) q.1)) (fun _ => rfl) (rg_bd1 h fun s3 hc h => rg_prm (q := cvV s3) (by rw [hc]; rfl) ?_)
  refine rg_step 7 (G' := fun f => if x2 = 0 then evT f 130 70 [oR 9 0, oI x1, oI x2] [vI (x1 - (cI 1)), vR 11 0] s3 else evT f 130 74 [oR 9 0, oI x1, oI x2] [vI (x1 - (cI 1)), vR 11 0] s3) (fun _ => rfl) (rg_if h (fun h => ?_) fun h => ?_)
  · exact rg_step 2 (G' := fun f => evT f 130 75 [oR 9 0, oI x1, oI x2] [vI (cI 1), vI (x1 - (cI 1)), vR 11 0] s3) (fun _ => rfl) ((t_fLog_writes_b75) h)
  · exact rg_step 1 (G' := fun f => evT f 130 75 [oR 9 0, oI x1, oI x2] [vI (cI 0), vI (x1 - (cI 1)), vR 11 0] s3) (fun _ => rfl) ((t_fLog_writes_b75) h)
theorem t_fLog_writes_b25 {s : ev_M} {x1 : Int32} {y0 : Int32} {j2 : Option ev_V} {q : ev_M × Int32} (h : fLog_writes_b25 s x1 y0 = some q) : RR 130 25 [oR 9 0, oI x1, j2] [vI y0] s (cvI q) := by
  refine rg_step 13 (G' := fun f => if y0 = 0 then evT f 130 52 [oR 9 0, oI x1, oI y0] [vI ((x1 - (cI 1)) * (cI 256)), vR 10 0, vI (cI 0), vR 12 0] s else evT f 130 46 [oR 9 0, oI x1, oI y0] [vI ((x1 - (cI 1)) * (cI 256)), vR 10 0, vI (cI 0), vR 12 0] s) (fun _ => rfl) (rg_if h (fun h => ?_) fun h => ?_)
  · exact rg_step 2 (G' := fun f => evT f 130 56 [oR 9 0, oI x1, oI y0] [vI (s.1 9 11), vI ((x1 - (cI 1)) * (cI 256)), vR 10 0, vI (cI 0), vR 12 0] s) (fun _ => rfl) ((t_fLog_writes_b56) h)
  · exact rg_step 2 (G' := fun f => evT f 130 56 [oR 9 0, oI x1, oI y0] [vI (cI 256), vI ((x1 - (cI 1)) * (cI 256)), vR 10 0, vI (cI 0), vR 12 0] s) (fun _ => rfl) ((t_fLog_writes_b56) h)
theorem T_fLog_writes {s : ev_M} {a1 : Int32} {q : ev_M × Int32} (h : fLog_writes s a1 = some q) : RR 130 0 [oR 9 0, oI a1, nn] [] s (cvI q) := by
  refine rg_step 4 (G' := fun f => ev_after (evT f 308 0 [oI a1, oI (cI 1), oI (cI 150)] [] s) (fun q => evT f 130 8 [oR 9 0, oI a1, nn] (q.2 ++ []) q.1)) (fun _ => rfl) (rg_bd1 h fun v4 hc h => rg_call (q := cvP s v4) (T_fPH_outside hc) ?_)
  refine rg_step 1 (G' := fun f => if v4 = 0 then evT f 130 13 [oR 9 0, oI a1, nn] [] s else evT f 130 11 [oR 9 0, oI a1, nn] [] s) (fun _ => rfl) (rg_if h (fun h => ?_) fun h => ?_)
  · refine rg_step 3 (G' := fun f => if (s.1 9 10) = 0 then evT f 130 24 [oR 9 0, oI a1, nn] [] s else evT f 130 20 [oR 9 0, oI a1, nn] [] s) (fun _ => rfl) (rg_if h (fun h => ?_) fun h => ?_)
    · exact rg_step 1 (G' := fun f => evT f 130 25 [oR 9 0, oI a1, nn] [vI (cI 0)] s) (fun _ => rfl) ((t_fLog_writes_b25) h)
    · exact rg_step 2 (G' := fun f => evT f 130 25 [oR 9 0, oI a1, nn] [vI (cI 1)] s) (fun _ => rfl) ((t_fLog_writes_b25) h)
  · exact rg_end 2 (fun _ => rfl) (by cases h; rfl)
