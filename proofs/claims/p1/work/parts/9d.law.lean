/-! ===== LEVEL 1: the law from its entry, out of what Level 3 says of it ===== -/
def fl_PH : List (Nat × Nat) := [(1, 0), (1, 3), (0, 0), (4, 0), (4, 3), (0, 1), (7, 0), (0, 2), (9, 1), (9, 2), (9, 3), (9, 5), (9, 15), (9, 0), (0, 3), (15, 3), (15, 4), (15, 5), (15, 6), (15, 8), (15, 9), (15, 10), (15, 0), (0, 4), (30, 3), (30, 5), (30, 6), (30, 8), (30, 10), (30, 12), (30, 13), (30, 0), (30, 1), (0, 5), (52, 6), (52, 7), (52, 10), (52, 11), (52, 12), (52, 14), (52, 15), (52, 16), (52, 17), (52, 0), (52, 1), (0, 6), (78, 4), (78, 5), (78, 7), (78, 10), (78, 12), (78, 14), (78, 0), (78, 1), (78, 2), (0, 7), (100, 7), (100, 8), (100, 0), (100, 1), (100, 2), (100, 3), (100, 4), (0, 8), (125, 4), (125, 5), (125, 6), (125, 7), (125, 0), (125, 1), (125, 2), (0, 9), (138, 4), (138, 5), (138, 6), (138, 7), (138, 8), (138, 11), (138, 13), (138, 14), (138, 15), (138, 16), (138, 17), (138, 18), (138, 19), (138, 0), (138, 1), (138, 2), (0, 10), (449, 5), (449, 7), (449, 8), (449, 9), (449, 10), (449, 11), (449, 0), (449, 1), (449, 2), (449, 3), (0, 11)]
def fl_M : List (Nat × Nat) := [(549, 1), (549, 3), (549, 8), (549, 11), (549, 12), (549, 17), (549, 18), (549, 19), (549, 25), (549, 26), (549, 28), (549, 29), (549, 30), (549, 31), (549, 32), (549, 34), (549, 35), (549, 36), (549, 37), (549, 39), (549, 40), (549, 41), (549, 42), (549, 44), (549, 45), (549, 46), (549, 47), (549, 52), (549, 53), (549, 54), (549, 55), (549, 56), (549, 57), (549, 59), (549, 60), (549, 61), (549, 62), (549, 63), (549, 64), (549, 65), (549, 66), (549, 67), (549, 68), (549, 69), (549, 70), (549, 71), (549, 72), (549, 73), (549, 74), (549, 75), (549, 76), (549, 77), (549, 78), (549, 79), (549, 80), (549, 81), (549, 82), (549, 88), (549, 89), (549, 90), (549, 92), (549, 94), (549, 95), (549, 96), (549, 97), (549, 98), (549, 99), (549, 100), (549, 102), (549, 103), (549, 104), (549, 105), (549, 106), (549, 108), (549, 109), (549, 110), (549, 112), (549, 113), (549, 115), (549, 116), (549, 117), (549, 118), (549, 120), (549, 121), (549, 122), (549, 123), (549, 124), (549, 126), (549, 127), (549, 128), (549, 130), (549, 131), (549, 132), (549, 133), (549, 135), (549, 136), (549, 137), (549, 138), (549, 142), (549, 143), (549, 144), (549, 145), (549, 147), (549, 148), (549, 149), (549, 150), (549, 151), (549, 154), (549, 155), (549, 156), (549, 157), (549, 158), (549, 159), (549, 160), (549, 162), (549, 163), (549, 164), (549, 165), (549, 167), (549, 168), (549, 169), (549, 170), (549, 171), (549, 172), (549, 173), (549, 174), (549, 175), (549, 176), (549, 177), (549, 178), (549, 179)]
theorem fty_hi (ci k : Nat) (hk : 200 ≤ k) : ftyT ci k ≠ 3 := by
  intro h
  unfold ftyT at h
  split at h
  · next r hr =>
    have h1 : ∀ r ∈ fty_tab, r.length ≤ 200 := by decide +kernel
    rw [nth_none r k (Nat.le_trans (h1 r (nth_mem hr)) hk)] at h
    cases h
  · cases h
theorem sw_all : ((List.range 682).all fun g => bif Nat.beq (shpT g).1 0 then ((List.range 200).all fun k => bif Nat.beq (ftyT (shpT g).2.1 k) 3 then (fl_PH.contains (g, k) || fl_M.contains (g, k)) else true) else true) = true := by decide +kernel
theorem sw_in {g ci k : Nat} {w : Nat × Nat} (hg : g < 682) (hs : shpT g = (0, (ci, w))) (hk : ftyT ci k = 3) : (g, k) ∈ fl_PH ∨ (g, k) ∈ fl_M := by
  have h1 := List.all_eq_true.mp sw_all g (List.mem_range.mpr hg)
  rw [hs] at h1
  have h1 : ((List.range 200).all fun k => bif Nat.beq (ftyT ci k) 3 then (fl_PH.contains (g, k) || fl_M.contains (g, k)) else true) = true := h1
  have hk2 : k < 200 := by
    apply Classical.byContradiction
    intro h
    exact fty_hi ci k (by omega) hk
  have h2 := List.all_eq_true.mp h1 k (List.mem_range.mpr hk2)
  rw [hk] at h2
  have h2 : (fl_PH.contains (g, k) || fl_M.contains (g, k)) = true := h2
  rcases (Bool.or_eq_true _ _).mp h2 with h | h
  · exact Or.inl (by simpa using h)
  · exact Or.inr (by simpa using h)
theorem fl_PHlt : fl_PH.all (fun q => Nat.blt q.1 549) = true := by decide +kernel
theorem fl_Mlt : fl_M.all (fun q => Nat.beq q.1 549) = true := by decide +kernel
def x_start (xs : Nat → Int32) (L : Nat) : ev_M := (stcT xs L, (fun _ _ => 0, (0, (fun _ _ => false, (0, 0)))))
/-- the law's memory behind its constructors -/
def x_init (xs : Nat → Int32) (L : Nat) (y : ev_M) : Prop := ∃ y1 y2, gPH_init (s_make 1 12 (x_start xs L)) = some y1 ∧ gM_init (s_make 1 180 y1) = some y2 ∧ y = s_make 1 1 y2
theorem zr_f {lo hi : Nat} {f : Nat → Nat → Bool} {a b : Nat} (h : ¬ (lo ≤ a ∧ a < hi)) : z_row false lo hi f a b = f a b := if_neg h
theorem x_flags {xs : Nat → Int32} {L : Nat} {y : ev_M} (h : x_init xs L y) : y.2.2.1 = 682 ∧ ∀ g, g < y.2.2.1 → ∀ ci w, shpT g = (0, (ci, w)) → ∀ k, ftyT ci k = 3 → y.2.2.2.1 g k = true := by
  obtain ⟨y1, y2, h1, h2, rfl⟩ := h
  obtain ⟨⟨-, -, -, a1⟩, a2⟩ := zi_gPH_init h1
  obtain ⟨⟨-, -, b0, b1⟩, b2⟩ := zi_gM_init h2
  have e : (s_make 1 1 y2).2.2.1 = 682 := by show y2.2.2.1 + 1 = 682; rw [b2]
  refine ⟨e, fun g hg ci w hs k hk => ?_⟩
  rw [e] at hg
  have hkeep : ∀ a b, a < 681 → y2.2.2.2.1 a b = true → (s_make 1 1 y2).2.2.2.1 a b = true := fun a b hab hb => by
    show z_row false y2.2.2.1 (y2.2.2.1 + 1) y2.2.2.2.1 a b = true
    rw [zr_f (by rw [b2]; omega)]
    exact hb
  rcases sw_in hg hs hk with h | h
  · have hlt := Nat.lt_of_lt_of_le (Nat.succ_le_of_lt (Nat.le_of_ble_eq_true (show Nat.ble (g + 1) 549 = true from List.all_eq_true.mp fl_PHlt _ h))) (Nat.le_refl _)
    refine hkeep g k (by omega) (b0 g k (by show g < y1.2.2.1 + 1; rw [a2]; omega) ?_)
    show z_row false y1.2.2.1 (y1.2.2.1 + 1) y1.2.2.2.1 g k = true
    rw [zr_f (by rw [a2]; omega)]
    exact (a1 _ h).2
  · have heq : g = 549 := Nat.eq_of_beq_eq_true (List.all_eq_true.mp fl_Mlt _ h)
    exact hkeep g k (by omega) (b1 _ h).2
/-- the law's own end, with 1 on the stack, nothing written that was there before, its room as the claim has it -/
theorem lw_retR {R9 : Room} {p : Program} {l : Launch} {e : Env} {s : State} {m : MethodId} {below : List Frame} {meth : Method} {c : Code} {b : Nat} (hx : p.tables.exec = Jvm.exec) (hb : c.code = code) (hr : meth.sig.returnType = ret) (hlocks : meth.locks = false) {pc : Nat} {H : Heap} {ls : Array Slot} (hdg : decode code pc = .ok (.ireturn, 1)) : W p l e R9 s m #[Value.ref b] below meth c H [] 600002 7302232 (lw_Z below #[Value.ref b] s) (F0 m pc ls [.int 1]) := by
  intro T hT X
  obtain ⟨fs, hret, hrun, hended, hW, hframe⟩ := X.leave (v := some (.int 1)) (hlocks := hlocks) (fun h => by rw [hr] at h; cases h)
  have hmeth' : T.vm.method? m = some meth := X.method'
  refine ⟨T.setFrames fs, ?_, .returned (some (.int 1)), hrun, hended, rfl, ⟨_, rfl⟩, hW, hframe⟩
  jvm_step X.here [X.here.top, hx, hb, hdg, hmeth', hr, ret, narrow_b1]
  (try refine ⟨rfl, ?_⟩); (try refine ⟨rfl, ?_⟩)
  first | (intro acts; rw [hret _ acts rfl rfl rfl]) | rw [hret _ _ rfl rfl rfl]
  exact Steps.refl _
section STL
variable {p : Program} {l : Launch} {e : Env} {s : State} {m : MethodId} {args : Array Value} {below : List Frame} {meth : Method} {c : Code} {Q : State → Prop} {H : Heap} {locs : List Loc} {cells slots : Nat}
theorem stand_room {R R' : Room} {T : State} (X : Stand p l e R s m args below meth c T locs cells slots) (hf : R'.frames ≤ R.frames) (hl : R'.locals ≤ R.locals) (hc : R'.cells ≤ R.cells) (hs : R'.slots ≤ R.slots) : Stand p l e R' s m args below meth c T locs cells slots := by
  refine ⟨X.admits, X.cas, X.clock, X.frames, ?_, X.hears, X.method, X.code, X.here, X.tail, X.warmed, X.limits, X.bytes, X.same⟩
  have h := X.room
  simp only [State.hasRoom, Bool.and_eq_true, decide_eq_true_eq] at h ⊢
  obtain ⟨⟨⟨⟨h1, h2, h3, h4, h5, h6⟩, h7⟩, h8⟩, h9⟩ := h
  exact ⟨⟨⟨⟨by omega, by omega, by omega, by omega, by omega, h6⟩, by omega⟩, by omega⟩, h9⟩
theorem W_room {R R' : Room} {g : JFrame} (hf : R'.frames ≤ R.frames) (hl : R'.locals ≤ R.locals) (hc : R'.cells ≤ R.cells) (hs : R'.slots ≤ R.slots) (kk : W p l e R' s m args below meth c H locs cells slots Q g) : W p l e R s m args below meth c H locs cells slots Q g := fun T hT X => kk T hT (stand_room X hf hl hc hs)
end STL
theorem cw_newa {f P g n t : Nat} {a : ClassFile.ArrayType} {r : Int} {L : ev_L} {st : List ev_V} {s : ev_M} {fin : ev_K} {k : Nat} (hn : s.2.2.1 = g) (h : ev_fnd2 (codT 539) P = some (.newarray a, (2, (r, [])))) (hs : shpT g = (t, (n, (1, 0)))) (hr : (Nat.beq t r.toNat && Nat.ble 1 t && Nat.ble t 4) = true) : ev_unt shpT rfT codT datT prmC true f 539 fin (k + 1) P L (vI (cI n) :: st) s = ev_unt shpT rfT codT datT prmC true f 539 fin k (P + 2) L (vR g 0 :: st) (s_make 1 n s) := by
  show (match ev_fnd2 (codT 539) P with
    | some q => bif ev_isret q.1 then none else ev_sem shpT rfT true (fun c => (datT c).2.1) (datT 539).2.2.1 q.1 q.2.1 q.2.2.1 P (fun c as s => match prmC c with
      | some w => w as s
      | none => bif ev_chk shpT (datT c).2.2.2 (datT c).1 as then ev shpT rfT codT datT prmC true f c 0 (ev_ent as (datT c).1) [] s else none) (ev_unt shpT rfT codT datT prmC true f 539 fin k) (ev_clr L q.2.2.2) (vI (cI n) :: st) s
    | none => none) = _
  rw [h]
  show s_newa shpT r.toNat P (ev_unt shpT rfT codT datT prmC true f 539 fin k) L _ s = _
  unfold s_newa
  rw [hn, hs]
  show (bif Nat.beq t r.toNat && Nat.ble 1 t && Nat.ble t 4 then (if cI n = cI n then _ else none) else none) = _
  rw [hr, if_pos rfl]
  rfl
theorem cw_new {f P idx g k : Nat} {r : Int} {L : ev_L} {st : List ev_V} {s : ev_M} {fin : ev_K} {ci w y : Nat} (hn : s.2.2.1 = g) (h : ev_fnd2 (codT 539) P = some (.new idx, (3, (r, [])))) (hs : shpT g = (0, (ci, (w, y)))) (hr : Nat.beq ci r.toNat = true) : ev_unt shpT rfT codT datT prmC true f 539 fin (k + 1) P L st s = ev_unt shpT rfT codT datT prmC true f 539 fin k (P + 3) L (vR g 0 :: st) (s_make 1 w s) := by
  show (match ev_fnd2 (codT 539) P with
    | some q => bif ev_isret q.1 then none else ev_sem shpT rfT true (fun c => (datT c).2.1) (datT 539).2.2.1 q.1 q.2.1 q.2.2.1 P (fun c as s => match prmC c with
      | some w => w as s
      | none => bif ev_chk shpT (datT c).2.2.2 (datT c).1 as then ev shpT rfT codT datT prmC true f c 0 (ev_ent as (datT c).1) [] s else none) (ev_unt shpT rfT codT datT prmC true f 539 fin k) (ev_clr L q.2.2.2) st s
    | none => none) = _
  rw [h]
  show s_new shpT r.toNat P (ev_unt shpT rfT codT datT prmC true f 539 fin k) L st s = _
  unfold s_new
  rw [hn, hs]
  show (bif Nat.beq ci r.toNat then _ else none) = _
  rw [hr]
  rfl
theorem ur_law {xs : Nat → Int32} {L f : Nat} {y1 y2 : ev_M} (fin : ev_K) (h1 : evC f 230 0 [oR 0 0] [] (s_make 1 12 (x_start xs L)) = some (cvV y1)) (e1 : y1.2.2.1 = 549) (h2 : evC f 312 0 [oR 549 0, nn] [] (s_make 1 180 y1) = some (cvV y2)) (e2 : y2.2.2.1 = 681) : ev_unt shpT rfT codT datT prmC true f 539 fin 13 0 (ev_ent [vR 1020 0] (datT 539).1) [] (x_start xs L) = fin 23 [oR 1020 0, oR 0 0, oR 549 0, oR 681 0, oI (cI 0), nn, nn] [] (s_make 1 1 y2) := by
  show ev_unt shpT rfT codT datT prmC true f 539 fin (12 + 1) 0 [oR 1020 0, nn, nn, nn, nn, nn, nn] [] (x_start xs L) = _
  rw [cw_new (s := x_start xs L) (g := 0) rfl rfl rfl rfl]
  generalize s_make 1 12 (x_start xs L) = x1 at h1
  show ev_after (evC f 230 0 [oR 0 0] [] x1) (fun q => ev_unt shpT rfT codT datT prmC true f 539 fin 10 7 [oR 1020 0, nn, nn, nn, nn, nn, nn] (q.2 ++ [vR 0 0]) q.1) = _
  rw [h1]
  show ev_unt shpT rfT codT datT prmC true f 539 fin (8 + 1) 8 [oR 1020 0, oR 0 0, nn, nn, nn, nn, nn] [] y1 = _
  rw [cw_new (s := y1) (g := 549) e1 rfl rfl rfl]
  generalize s_make 1 180 y1 = x2 at h2
  show ev_after (evC f 312 0 [oR 549 0, nn] [] x2) (fun q => ev_unt shpT rfT codT datT prmC true f 539 fin 6 15 [oR 1020 0, oR 0 0, nn, nn, nn, nn, nn] (q.2 ++ [vR 549 0]) q.1) = _
  rw [h2]
  show ev_unt shpT rfT codT datT prmC true f 539 fin (3 + 1) 17 [oR 1020 0, oR 0 0, oR 549 0, nn, nn, nn, nn] [vI (cI (1 : Nat))] y2 = _
  rw [cw_newa (a := .long) (r := 4) e2 rfl rfl rfl]
  rfl
set_option maxHeartbeats 1000000 in
theorem whole_of {p : Program} {e : Env} {s : State} {m : MethodId} {below : List Frame} {meth : Method} {c : Code} (l : Launch) {b L : Nat} {xs : Nat → Int32} (hl : l.stackTraces = false) (hL : L ≤ 448) (C0 : lw_At p s m meth c b L xs) (hnm : meth.name = (namT 539).name) (h3 : ∀ y, x_init xs L y → ∃ n q, fLaw_h23 n y (cI 0) = some (q, cI 1) ∧ q.2.2.2.2.1 ≤ 600002 ∧ q.2.2.2.2.2 ≤ 7302232) (hi : ∃ y, x_init xs L y) : W p l e room_1 s m #[Value.ref b] below meth c s.heap [] 0 0 (lw_Z below #[Value.ref b] s) (entryFrame m ([Value.ref b] : List Value).toArray 7) := by
  obtain ⟨D, cA, ad, had, h1020, hWK⟩ := st_worldB hL C0
  obtain ⟨y3, hi⟩ := hi
  obtain ⟨hf0, hf⟩ := x_flags hi
  obtain ⟨nf, q, hlaw, hc1, hc2⟩ := h3 y3 hi
  obtain ⟨y1, y2, hg1, hg2, hy3⟩ := hi
  have a2 := (zi_gPH_init hg1).2
  have b2 := (zi_gM_init hg2).2
  obtain ⟨f1, hf1⟩ := Tc_gPH_init hg1
  obtain ⟨f2, hf2⟩ := Tc_gM_init hg2
  obtain ⟨f3, hf3⟩ := t_fLaw_h23 (j5 := nn) (j6 := nn) hlaw
  have hout : evT f3 539 23 [oR 1020 0, oR 0 0, oR 549 0, oR 681 0, oI (cI 0), nn, nn] [] y3 = some (q, [vI (cI 1)]) := hf3 f3 (Nat.le_refl _)
  obtain ⟨hx, hb, hr, hml, hown, hts, hXa, hbl, hlk, hgv⟩ := id C0
  subst h1020
  have hXT : so_X shpT ftyT clsT ad s.heap.size codT datT prmT bysT namT rtyT frmT lcoT TsT nwsT stsT := soX had (fun c h => prmT_no h) prmT_le
  have hXc : so_X shpT ftyT clsT ad s.heap.size codT datT prmC bysT namT rtyT frmT lcoT TsT nwsT stsT := soXC had
  have hE : ∀ s1, exB ad s.heap.size s1 → exT ad s.heap.size s1 := fun s1 h => h.1.1
  have hSC : ∀ f, so_Sim shpT rfT ftyT D clsT cA ad s.heap.size (stcT xs L) codT datT prmC bysT namT rtyT frmT lcoT TsT nwsT stsT (exB ad s.heap.size) l false f := soSC had hE
  have hST : ∀ f, so_Sim shpT rfT ftyT D clsT cA ad s.heap.size (stcT xs L) codT datT prmT bysT namT rtyT frmT lcoT TsT nwsT stsT (exB ad s.heap.size) l false f := so_sim hXT (soP had hE (fun c h => by
    unfold prmT
    rw [Nat.ble_eq.mpr (show c ≤ 899 by omega)]
    rfl) (fun c w h _ => h) (soP9 (fun F => soX9 had F fun c as x o h => ev_mono prmT_le F c 0 _ [] x o h) (soS9y had hXT hXc hSC) (so_thr had hXT hXc hSC hl fun _ h => h))) (soT hE)
  have hF : so_F shpT D clsT cA ad s.heap.size (stcT xs L) datT bysT namT frmT lcoT TsT nwsT stsT (exB ad s.heap.size) p { frames := frmT 539, cells := 600002, slots := 7302232, locals := lcoT 539 } s m #[Value.ref (ad 1020)] meth c 539 := ⟨⟨hx, hb, hml, hown, fun w hw => hts w (TsT_in w hw)⟩, hnm, hWK, rfl, rfl⟩
  have hRR : sn_R { frames := frmT 539, cells := 600002, slots := 7302232, locals := lcoT 539 } 0 0 (q, [vI (cI 1)]) := ⟨hc1, hc2⟩
  refine W_room (R' := { frames := frmT 539, cells := 600002, slots := 7302232, locals := lcoT 539 }) (by decide) (by decide) (Nat.le_refl _) (Nat.le_refl _) ?_
  show W p l e _ s m _ below meth c s.heap [] 0 0 _ (entryFrame m ([vR 1020 0].map (sn_v ad)).toArray 7)
  rw [lg_entry_eq]
  have hl0 := lv_entry ([vR 1020 0].map (sn_v ad)) (n := 7) (by rw [lg_sl_len]; decide)
  generalize (lg_sl ([vR 1020 0].map (sn_v ad)) ++ List.replicate (7 - (lg_sl ([vR 1020 0].map (sn_v ad))).length) Slot.unset).toArray = ls at hl0 ⊢
  have hle : ev_le y3 q := ev_mono prmT_le f3 539 23 _ [] y3 _ hout
  refine (so_until (md := true) (f := f1 + f2) hXc (soPC had hE) (soT hE) (soSC had hE (f1 + f2)) hF hRR (ev_fin_K (P := 23) (L0 := [oR 1020 0, oR 0 0, oR 549 0, oR 681 0, oI (cI 0), nn, nn]) (st0 := []) (x0 := y3) ?_) (ev_fin_mk hle) 13).1 0 _ _ _ ((ur_law (xs := xs) (L := L) _ (hf1 _ (Nat.le_add_right _ _)) a2 (hf2 _ (Nat.le_add_left _ _)) b2).trans (by rw [← hy3]; exact ev_fin_at)) s.heap [] 0 0 ls ⟨?_, va_S.rf, ⟨hl0.1, hl0.2.1, fun i v hv => ?_⟩, fun v hv => (by cases hv), rfl, rfl⟩
  · intro H locs cells slots ls S
    refine hST f3 539 23 _ [] y3 _ hout p e _ s m _ below meth c _ 0 0 hF hRR ?_ H locs cells slots ls ⟨S.1.switch hf, S.2⟩
    intro pc H locs cells slots ls hH hSS e1 e2 hret
    rcases hret with ⟨hd, z, ho, -⟩ | ⟨-, hr9, -⟩ | ⟨-, hr9, -⟩
    · refine va_forget hSS.2.2 ?_
      have z1 : cells ≤ 600002 := by
        have e1 : cells + 0 = q.2.2.2.2.1 := e1
        omega
      have z2 : slots ≤ 7302232 := by
        have e2 : slots + 0 = q.2.2.2.2.2 := e2
        omega
      exact W.widen z1 z2 (lw_retR hx hb hr hlk hd)
    · cases (show (some FieldType.boolean : Option FieldType) = some .long from hr9)
    · cases (show (some FieldType.boolean : Option FieldType) = none from hr9)
  · refine ⟨fun g hg => absurd hg (Nat.not_lt_zero g), fun _ _ _ => rfl, Nat.zero_le _, fun _ => rfl, fun g hg => absurd hg (Nat.not_lt_zero g), fun g hg => absurd hg (Nat.not_lt_zero g)⟩
  · obtain ⟨h1, h2⟩ := ev_ent_nth (ad := ad) [vR 1020 0] 7 0 i v hv
    have h3 := hl0.2.2 _ h2
    refine ⟨?_, ?_⟩
    · rw [List.mem_singleton.mp h1]
      exact ⟨Or.inr ⟨by decide, rfl⟩, by decide⟩
    · rw [Nat.zero_add] at h3
      exact h3
