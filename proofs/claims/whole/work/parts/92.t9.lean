/-! ===== the eight methods around exceptions: what their normal ways answer ===== -/
noncomputable def ev9 (F f : Nat) (M pc : Nat) (L : ev_L) (st : List ev_V) (s : ev_M) : Option ev_O := ev shpT rfT cod9 dat9 (prm9 F) false f M pc L st s
def RQ (G : Nat → Nat → Option ev_O) (r : ev_O) : Prop := ∃ F0 : Nat, ∀ F, F0 ≤ F → RG (G F) r
section
variable {α : Type} {G : Nat → Nat → Option ev_O} {r : ev_O}
theorem rq_step (k : Nat) {G' : Nat → Nat → Option ev_O} (e : ∀ F f, G F (f + k) = G' F f) (h : RQ G' r) : RQ G r := by
  obtain ⟨F0, h0⟩ := h
  exact ⟨F0, fun F hF => rg_step k (e F) (h0 F hF)⟩
theorem rq_end (k : Nat) {r' : ev_O} (e : ∀ F f, G F (f + k) = some r') (hr : r' = r) : RQ G r := ⟨0, fun F _ => rg_end k (e F) hr⟩
theorem rq_prm {A : Nat → Option ev_O} {K : Nat → Nat → ev_O → Option ev_O} {q : ev_O} (hA : RG A q) (hK : RQ (fun F f => K F f q) r) : RQ (fun F f => ev_after (A F) (fun q => K F f q)) r := by
  obtain ⟨F1, h1⟩ := hA
  obtain ⟨F2, h2⟩ := hK
  refine ⟨F1 + F2, fun F hF => ?_⟩
  have e : (fun f => ev_after (A F) (fun q => K F f q)) = fun f => K F f q := by
    funext f
    rw [h1 F (by omega)]
    rfl
  show RG (fun f => ev_after (A F) (fun q => K F f q)) r
  rw [e]
  exact h2 F (by omega)
theorem rq_call {A : Nat → Nat → Option ev_O} {K : Nat → Nat → ev_O → Option ev_O} {q : ev_O} (hA : RQ A q) (hK : RQ (fun F f => K F f q) r) : RQ (fun F f => ev_after (A F f) (fun q => K F f q)) r := by
  obtain ⟨F1, h1⟩ := hA
  obtain ⟨F2, h2⟩ := hK
  exact ⟨F1 + F2, fun F hF => rg_call (h1 F (by omega)) (h2 F (by omega))⟩
theorem rq_gd {c : Prop} [Decidable c] {a : Option α} {q : α} {A B : Nat → Nat → Option ev_O} (h : (if c then a else none) = some q) (k : a = some q → RQ A r) : RQ (fun F f => if c then A F f else B F f) r := by
  by_cases hc : c
  · rw [if_pos hc] at h
    simp only [if_pos hc]
    exact k h
  · rw [if_neg hc] at h
    cases h
theorem rq_dv {c : Prop} [Decidable c] {a : Option α} {q : α} {A B : Nat → Nat → Option ev_O} (h : (if c then none else a) = some q) (k : a = some q → RQ A r) : RQ (fun F f => if c then B F f else A F f) r := by
  by_cases hc : c
  · rw [if_pos hc] at h
    cases h
  · rw [if_neg hc] at h
    simp only [if_neg hc]
    exact k h
theorem rq_yes {c : Prop} [Decidable c] (hc : c) {A B : Nat → Nat → Option ev_O} (k : RQ A r) : RQ (fun F f => if c then A F f else B F f) r := by
  simp only [if_pos hc]
  exact k
theorem b1x {β : Type} {o : Option β} {B : β → Option α} {q : α} (h : bd1 o B = some q) : ∃ x, o = some x ∧ B x = some q := by
  match o, h with
  | some x, h => exact ⟨x, rfl, h⟩
theorem b2x {β γ : Type} {o : Option (β × γ)} {B : β → γ → Option α} {q : α} (h : bd2 o B = some q) : ∃ x, o = some x ∧ B x.1 x.2 = some q := by
  match o, h with
  | some x, h => exact ⟨x, rfl, h⟩
end
def fX_feed (s : ev_M) (a b c d e : Int32) : Option (ev_M × Int32) := if s.1 1 1 + cI 20 ≤ cI 4096 then bd1 (fTape_append_1 s a) fun s => bd1 (fTape_append_1 s b) fun s => bd1 (fTape_append_1 s c) fun s => bd1 (fTape_append_1 s d) fun s => bd1 (fTape_append_1 s e) fun s => some (s, s.1 1 1) else none
def fX_end (s : ev_M) (n : Int32) : Option ev_M := bd1 (fPH_outside s n (cI 0) (s.1 1 1)) fun v => if v = 0 then some (wI s 1 1 n) else none
def fX_octet (s : ev_M) (b i : Int32) : Option Int32 := bd1 (fLog_hasByte s b i) fun v => if v = 0 then none else fLog_byteAt s b i
def fX_poke (s : ev_M) (b i m : Int32) : Option (ev_M × Int32) := bd1 (fLog_hasByte s b i) fun v => if v = 0 then none else fLog_change s b i m
theorem T9_feed {s : ev_M} {a b c d e : Int32} {q : ev_M × Int32} (h : fX_feed s a b c d e = some q) : RQ (fun F f => ev9 F f 540 0 [oR 0 0, oI a, oI b, oI c, oI d, oI e] [] s) (cvI q) := by
  unfold fX_feed at h
  refine rq_step 7 (G' := fun F f => if s.1 1 1 + cI 20 ≤ cI 4096 then ev9 F f 540 26 [oR 0 0, oI a, oI b, oI c, oI d, oI e] [] s else ev9 F f 540 16 [oR 0 0, oI a, oI b, oI c, oI d, oI e] [] s) (fun _ _ => rfl) (rq_gd h fun h => ?_)
  obtain ⟨s1, h1, h⟩ := b1x h
  obtain ⟨s2, h2, h⟩ := b1x h
  obtain ⟨s3, h3, h⟩ := b1x h
  obtain ⟨s4, h4, h⟩ := b1x h
  obtain ⟨s5, h5, h⟩ := b1x h
  refine rq_step 4 (G' := fun F f => ev_after (evT F 222 0 [oR 1 0, oI a, nn] [] s) (fun q => ev9 F f 540 34 [oR 0 0, oI a, oI b, oI c, oI d, oI e] (q.2 ++ []) q.1)) (fun _ _ => rfl) (rq_prm (q := cvV s1) (T_fTape_append_1 h1) ?_)
  refine rq_step 4 (G' := fun F f => ev_after (evT F 222 0 [oR 1 0, oI b, nn] [] s1) (fun q => ev9 F f 540 42 [oR 0 0, oI a, oI b, oI c, oI d, oI e] (q.2 ++ []) q.1)) (fun _ _ => rfl) (rq_prm (q := cvV s2) (T_fTape_append_1 h2) ?_)
  refine rq_step 4 (G' := fun F f => ev_after (evT F 222 0 [oR 1 0, oI c, nn] [] s2) (fun q => ev9 F f 540 50 [oR 0 0, oI a, oI b, oI c, oI d, oI e] (q.2 ++ []) q.1)) (fun _ _ => rfl) (rq_prm (q := cvV s3) (T_fTape_append_1 h3) ?_)
  refine rq_step 4 (G' := fun F f => ev_after (evT F 222 0 [oR 1 0, oI d, nn] [] s3) (fun q => ev9 F f 540 59 [oR 0 0, oI a, oI b, oI c, oI d, oI e] (q.2 ++ []) q.1)) (fun _ _ => rfl) (rq_prm (q := cvV s4) (T_fTape_append_1 h4) ?_)
  refine rq_step 4 (G' := fun F f => ev_after (evT F 222 0 [oR 1 0, oI e, nn] [] s4) (fun q => ev9 F f 540 68 [oR 0 0, oI a, oI b, oI c, oI d, oI e] (q.2 ++ []) q.1)) (fun _ _ => rfl) (rq_prm (q := cvV s5) (T_fTape_append_1 h5) ?_)
  exact rq_end 4 (fun _ _ => rfl) (by cases h; rfl)
theorem T9_end {s : ev_M} {n : Int32} {q : ev_M} (h : fX_end s n = some q) : RQ (fun F f => ev9 F f 541 0 [oR 0 0, oI n] [] s) (cvV q) := by
  obtain ⟨v, h1, h⟩ := b1x h
  refine rq_step 6 (G' := fun F f => ev_after (evT F 308 0 [oI n, oI (cI 0), oI (s.1 1 1)] [] s) (fun q => ev9 F f 541 12 [oR 0 0, oI n] (q.2 ++ []) q.1)) (fun _ _ => rfl) (rq_prm (q := cvP s v) (T_fPH_outside h1) ?_)
  refine rq_step 1 (G' := fun F f => if v = 0 then ev9 F f 541 25 [oR 0 0, oI n] [] s else ev9 F f 541 15 [oR 0 0, oI n] [] s) (fun _ _ => rfl) (rq_gd h fun h => ?_)
  exact rq_end 5 (fun _ _ => rfl) (by cases h; rfl)
theorem T9_octet {s : ev_M} {b i : Int32} {q : Int32} (h : fX_octet s b i = some q) : RQ (fun F f => ev9 F f 542 0 [oR 0 0, oI b, oI i] [] s) (cvP s q) := by
  obtain ⟨v, h1, h⟩ := b1x h
  refine rq_step 3 (G' := fun F f => ev_after (evT F 133 0 [oI b, oI i] [] s) (fun q => ev9 F f 542 5 [oR 0 0, oI b, oI i] (q.2 ++ []) q.1)) (fun _ _ => rfl) (rq_prm (q := cvP s v) (T_fLog_hasByte h1) ?_)
  refine rq_step 1 (G' := fun F f => if v = 0 then ev9 F f 542 8 [oR 0 0, oI b, oI i] [] s else ev9 F f 542 18 [oR 0 0, oI b, oI i] [] s) (fun _ _ => rfl) (rq_dv h fun h => ?_)
  refine rq_step 5 (G' := fun F f => ev_after (evT F 134 0 [oR 9 0, oI b, oI i] [] s) (fun q => ev9 F f 542 27 [oR 0 0, oI b, oI i] (q.2 ++ []) q.1)) (fun _ _ => rfl) (rq_prm (q := cvP s q) (T_fLog_byteAt h) ?_)
  exact rq_end 1 (fun _ _ => rfl) rfl
theorem T9_poke {s : ev_M} {b i m : Int32} {q : ev_M × Int32} (h : fX_poke s b i m = some q) : RQ (fun F f => ev9 F f 543 0 [oR 0 0, oI b, oI i, oI m] [] s) (cvI q) := by
  obtain ⟨v, h1, h⟩ := b1x h
  refine rq_step 3 (G' := fun F f => ev_after (evT F 133 0 [oI b, oI i] [] s) (fun q => ev9 F f 543 5 [oR 0 0, oI b, oI i, oI m] (q.2 ++ []) q.1)) (fun _ _ => rfl) (rq_prm (q := cvP s v) (T_fLog_hasByte h1) ?_)
  refine rq_step 1 (G' := fun F f => if v = 0 then ev9 F f 543 8 [oR 0 0, oI b, oI i, oI m] [] s else ev9 F f 543 18 [oR 0 0, oI b, oI i, oI m] [] s) (fun _ _ => rfl) (rq_dv h fun h => ?_)
  refine rq_step 6 (G' := fun F f => ev_after (evT F 135 0 [oR 9 0, oI b, oI i, oI m] [] s) (fun q => ev9 F f 543 28 [oR 0 0, oI b, oI i, oI m] (q.2 ++ []) q.1)) (fun _ _ => rfl) (rq_prm (q := cvI q) (T_fLog_change h) ?_)
  exact rq_end 1 (fun _ _ => rfl) rfl
theorem T9_Lfeed {s : ev_M} {a b c d e : Int32} {q : ev_M × Int32} (h : bd2 (fX_feed s a b c d e) (fun s v => some (wL s 681 0 v.toInt64, cI 0)) = some q) : RQ (fun F f => ev9 F f 544 0 [oR 0 0, oI a, oI b, oI c, oI d, oI e, oR 681 0, nn] [] s) (cvI q) := by
  obtain ⟨x, h1, h⟩ := b2x h
  refine rq_step 9 (G' := fun F f => ev_after (ev9 F f 540 0 [oR 0 0, oI a, oI b, oI c, oI d, oI e] [] s) (fun q => ev9 F f 544 14 [oR 0 0, oI a, oI b, oI c, oI d, oI e, oR 681 0, nn] (q.2 ++ [vI (cI 0), vR 681 0]) q.1)) (fun _ _ => rfl) (rq_call (q := cvI x) (T9_feed h1) ?_)
  refine rq_step 2 (G' := fun F f => if inb (cI 0) 1 = true then ev9 F f 544 16 [oR 0 0, oI a, oI b, oI c, oI d, oI e, oR 681 0, nn] [] (wL x.1 681 0 x.2.toInt64) else none) (fun _ _ => rfl) (rq_yes (by decide) ?_)
  exact rq_end 3 (fun _ _ => rfl) (by cases h; rfl)
theorem T9_Lend {s : ev_M} {n : Int32} {q : ev_M × Int32} (h : bd1 (fX_end s n) (fun s => some (s, cI 0)) = some q) : RQ (fun F f => ev9 F f 545 0 [oR 0 0, oI n, nn] [] s) (cvI q) := by
  obtain ⟨x, h1, h⟩ := b1x h
  refine rq_step 3 (G' := fun F f => ev_after (ev9 F f 541 0 [oR 0 0, oI n] [] s) (fun q => ev9 F f 545 5 [oR 0 0, oI n, nn] (q.2 ++ []) q.1)) (fun _ _ => rfl) (rq_call (q := cvV x) (T9_end h1) ?_)
  exact rq_end 3 (fun _ _ => rfl) (by cases h; rfl)
theorem T9_Loctet {s : ev_M} {b i : Int32} {q : ev_M × Int32} (h : bd1 (fX_octet s b i) (fun v => some (wL s 681 0 v.toInt64, cI 0)) = some q) : RQ (fun F f => ev9 F f 546 0 [oR 0 0, oI b, oI i, oR 681 0, nn] [] s) (cvI q) := by
  obtain ⟨x, h1, h⟩ := b1x h
  refine rq_step 6 (G' := fun F f => ev_after (ev9 F f 542 0 [oR 0 0, oI b, oI i] [] s) (fun q => ev9 F f 546 8 [oR 0 0, oI b, oI i, oR 681 0, nn] (q.2 ++ [vI (cI 0), vR 681 0]) q.1)) (fun _ _ => rfl) (rq_call (q := cvP s x) (T9_octet h1) ?_)
  refine rq_step 2 (G' := fun F f => if inb (cI 0) 1 = true then ev9 F f 546 10 [oR 0 0, oI b, oI i, oR 681 0, nn] [] (wL s 681 0 x.toInt64) else none) (fun _ _ => rfl) (rq_yes (by decide) ?_)
  exact rq_end 3 (fun _ _ => rfl) (by cases h; rfl)
theorem T9_Lpoke {s : ev_M} {b i m : Int32} {q : ev_M × Int32} (h : bd2 (fX_poke s b i m) (fun s v => some (wL s 681 0 v.toInt64, cI 0)) = some q) : RQ (fun F f => ev9 F f 547 0 [oR 0 0, oI b, oI i, oI m, oR 681 0, nn] [] s) (cvI q) := by
  obtain ⟨x, h1, h⟩ := b2x h
  refine rq_step 7 (G' := fun F f => ev_after (ev9 F f 543 0 [oR 0 0, oI b, oI i, oI m] [] s) (fun q => ev9 F f 547 10 [oR 0 0, oI b, oI i, oI m, oR 681 0, nn] (q.2 ++ [vI (cI 0), vR 681 0]) q.1)) (fun _ _ => rfl) (rq_call (q := cvI x) (T9_poke h1) ?_)
  refine rq_step 2 (G' := fun F f => if inb (cI 0) 1 = true then ev9 F f 547 12 [oR 0 0, oI b, oI i, oI m, oR 681 0, nn] [] (wL x.1 681 0 x.2.toInt64) else none) (fun _ _ => rfl) (rq_yes (by decide) ?_)
  exact rq_end 3 (fun _ _ => rfl) (by cases h; rfl)
