/-! ===== the calls that the interpreter does not walk; runs ===== -/
def pObj : List ev_V → ev_M → Option ev_O := fun as s => match as with
  | [.inr (.inr _)] => some (s, [])
  | _ => none
/-- the pairs of rows between which a copy is made -/
def cpy_ok (a b : Nat) : Bool := (Nat.beq a 175 && Nat.beq b 146) || ((Nat.beq a 175 && Nat.beq b 174) || ((Nat.beq a 97 && Nat.beq b 93) || (Nat.beq a 12 && Nat.beq b 10)))
def txt_ok (g i : Nat) : Bool := (Nat.beq g 1010 || Nat.beq g 1011) && Nat.beq i 0
def pACP : List ev_V → ev_M → Option ev_O := fun as s => match as with
  | [.inr (.inr (a, ia)), .inl i, .inr (.inr (b, ib)), .inl j, .inl n] => (bif cpy_ok a b then (match shpT a, shpT b with
    | (1, (na, _)), (1, (nb, (_, 0))) => (fACP s na nb (a + ia) (b + ib) i j n).map cvV
    | (2, (na, _)), (2, (nb, (_, 0))) => (fACP s na nb (a + ia) (b + ib) i j n).map cvV
    | _, _ => none) else none)
  | _ => none
def pSlen : List ev_V → ev_M → Option ev_O := fun as s => match as with
  | [.inr (.inr (g, i))] => bif txt_ok g i then (fSlen g).map (cvP s) else none
  | _ => none
def pSat : List ev_V → ev_M → Option ev_O := fun as s => match as with
  | [.inr (.inr (g, j)), .inl i] => bif txt_ok g j then (fSat g i).map (cvP s) else none
  | _ => none
def pSix : List ev_V → ev_M → Option ev_O := fun as s => match as with
  | [.inr (.inr (g, j)), .inl i] => bif txt_ok g j then (fSix g i).map (cvP s) else none
  | _ => none
def pFeed : List ev_V → ev_M → Option ev_O := fun as s => match as with
  | [.inr (.inr (g, _)), .inl a, .inl b, .inl c, .inl d, .inl e, .inr (.inr (o, _))] => bif Nat.beq g 0 && Nat.beq o 681 then (fFeed s a b c d e).map cvI else none
  | _ => none
def pEnd : List ev_V → ev_M → Option ev_O := fun as s => match as with
  | [.inr (.inr (g, _)), .inl a] => bif Nat.beq g 0 then (fEnd s a).map cvI else none
  | _ => none
def pOctet : List ev_V → ev_M → Option ev_O := fun as s => match as with
  | [.inr (.inr (g, _)), .inl a, .inl b, .inr (.inr (o, _))] => bif Nat.beq g 0 && Nat.beq o 681 then (fOctet s a b).map cvI else none
  | _ => none
def pPoke : List ev_V → ev_M → Option ev_O := fun as s => match as with
  | [.inr (.inr (g, _)), .inl a, .inl b, .inl c, .inr (.inr (o, _))] => bif Nat.beq g 0 && Nat.beq o 681 then (fPoke s a b c).map cvI else none
  | _ => none
def prmT (c : Nat) : Option (List ev_V → ev_M → Option ev_O) := bif Nat.ble c 899 then none else
  bif Nat.beq c 900 then some pObj else bif Nat.beq c 901 then some pACP else bif Nat.beq c 902 then some pSlen else bif Nat.beq c 903 then some pSat else bif Nat.beq c 904 then some pSix else
  bif Nat.beq c 910 then some pFeed else bif Nat.beq c 911 then some pEnd else bif Nat.beq c 912 then some pOctet else bif Nat.beq c 913 then some pPoke else some fun _ _ => none
noncomputable def evT (f : Nat) (M pc : Nat) (L : ev_L) (st : List ev_V) (s : ev_M) : Option ev_O := ev shpT rfT codT datT prmT false f M pc L st s
/-- with fuel enough the answer is r -/
def RG (G : Nat → Option ev_O) (r : ev_O) : Prop := ∃ f0 : Nat, ∀ f, f0 ≤ f → G f = some r
abbrev RR (M pc : Nat) (L : ev_L) (st : List ev_V) (s : ev_M) (r : ev_O) : Prop := RG (fun f => evT f M pc L st s) r
section
variable {α β γ : Type} {G : Nat → Option ev_O} {r : ev_O}
theorem rg_step (k : Nat) {G' : Nat → Option ev_O} (e : ∀ f, G (f + k) = G' f) (h : RG G' r) : RG G r := by
  obtain ⟨f0, h0⟩ := h
  refine ⟨f0 + k, fun f hf => ?_⟩
  have h1 := e (f - k)
  rw [Nat.sub_add_cancel (by omega)] at h1
  rw [h1]
  exact h0 _ (by omega)
theorem rg_end (k : Nat) {r' : ev_O} (e : ∀ f, G (f + k) = some r') (hr : r' = r) : RG G r := by
  refine ⟨k, fun f hf => ?_⟩
  have h1 := e (f - k)
  rw [Nat.sub_add_cancel hf] at h1
  rw [h1, hr]
theorem rg_if {c : Prop} [Decidable c] {a b : Option α} {q : α} {A B : Nat → Option ev_O} (h : (if c then a else b) = some q) (k1 : a = some q → RG A r) (k2 : b = some q → RG B r) : RG (fun f => if c then A f else B f) r := by
  by_cases hc : c
  · rw [if_pos hc] at h
    simp only [if_pos hc]
    exact k1 h
  · rw [if_neg hc] at h
    simp only [if_neg hc]
    exact k2 h
theorem rg_gd {c : Prop} [Decidable c] {a : Option α} {q : α} {A : Nat → Option ev_O} (h : (if c then a else none) = some q) (k : a = some q → RG A r) : RG (fun f => if c then A f else none) r := by
  by_cases hc : c
  · rw [if_pos hc] at h
    simp only [if_pos hc]
    exact k h
  · rw [if_neg hc] at h
    cases h
theorem rg_dv {c : Prop} [Decidable c] {a : Option α} {q : α} {A : Nat → Option ev_O} (h : (if c then none else a) = some q) (k : a = some q → RG A r) : RG (fun f => if c then none else A f) r := by
  by_cases hc : c
  · rw [if_pos hc] at h
    cases h
  · rw [if_neg hc] at h
    simp only [if_neg hc]
    exact k h
theorem rg_call {A : Nat → Option ev_O} {K : Nat → ev_O → Option ev_O} {q : ev_O} (hA : RG A q) (hK : RG (fun f => K f q) r) : RG (fun f => ev_after (A f) (fun q => K f q)) r := by
  obtain ⟨f1, h1⟩ := hA
  obtain ⟨f2, h2⟩ := hK
  refine ⟨f1 + f2, fun f hf => ?_⟩
  show ev_after (A f) (fun q => K f q) = some r
  rw [h1 f (by omega)]
  exact h2 f (by omega)
theorem rg_prm {o : Option ev_O} {K : Nat → ev_O → Option ev_O} {q : ev_O} (hA : o = some q) (hK : RG (fun f => K f q) r) : RG (fun f => ev_after o (fun q => K f q)) r := by
  rw [hA]
  exact hK
theorem rg_bd1 {o : Option β} {B : β → Option α} {q : α} {P : Prop} (h : bd1 o B = some q) (k : ∀ x, o = some x → B x = some q → P) : P := by
  match o, h with
  | some x, h => exact k x rfl h
theorem rg_bd2 {o : Option (β × γ)} {B : β → γ → Option α} {q : α} {P : Prop} (h : bd2 o B = some q) (k : ∀ x y, o = some (x, y) → B x y = some q → P) : P := by
  match o, h with
  | some x, h => exact k x.1 x.2 rfl h
theorem rg_ltM {v : ev_M} {B : ev_M → Option α} {q : α} {M pc : Nat} {L : ev_L} {st : List ev_V} (h : ltM v B = some q) (k : ∀ s1, B s1 = some q → RR M pc L st s1 r) : RR M pc L st v r := k v h
theorem rg_ltI {v : Int32} {B : Int32 → Option α} {q : α} {P : Int32 → Prop} (h : ltI v B = some q) (k : ∀ x, B x = some q → P x) : P v := k v h
theorem rg_ltL {v : Int64} {B : Int64 → Option α} {q : α} {P : Int64 → Prop} (h : ltL v B = some q) (k : ∀ x, B x = some q → P x) : P v := k v h
end
/-! ===== a step of iinc ===== -/
theorem ev_step (f M pc : Nat) (L : ev_L) (st : List ev_V) (s : ev_M) {q : Instr × (Nat × (Int × List Nat))} (h : ev_fnd2 (codT M) pc = some q) : evT (f + 1) M pc L st s = ev_sem shpT rfT false (fun c => (datT c).2.1) (datT M).2.2.1 q.1 q.2.1 q.2.2.1 pc (fun c as s => match prmT c with
      | some w => w as s
      | none => bif ev_chk shpT (datT c).2.2.2 (datT c).1 as then evT f c 0 (ev_ent as (datT c).1) [] s else none) (evT f M) (ev_clr L q.2.2.2) st s := by
  show (match ev_fnd2 (codT M) pc with
    | some q => _
    | none => none) = _
  rw [h]
  rfl
theorem ev_inc {f M pc i n : Nat} {c r : Int} {dl : List Nat} {L L' : ev_L} {s : ev_M} {y : Int32} (h : ev_fnd2 (codT M) pc = some (.iinc i c, (n, (r, dl)))) (hy : ev_nth (ev_clr L dl) i = some (some (.inl y))) (hL : ev_st1 (ev_clr L dl) i (vI (y + cI c)) = L') : evT (f + 1) M pc L [] s = evT f M (pc + n) L' [] s := by
  rw [ev_step f M pc L [] s h]
  show s_inc i c pc n (evT f M) (ev_clr L dl) [] s = _
  unfold s_inc
  rw [hy]
  show evT f M (pc + n) (ev_st1 (ev_clr L dl) i (vI (y + cI c))) [] s = _
  rw [hL]
theorem ev_sub1 {f M pc : Nat} {L : ev_L} {st : List ev_V} {s : ev_M} {x y : Int32} (h : ev_fnd2 (codT M) pc = some (.isub, (1, (0, [])))) : evT (f + 1) M pc L (vI y :: vI x :: st) s = evT f M (pc + 1) L (vI (x - y) :: st) s := by
  rw [ev_step f M pc L _ s h]
  rfl
theorem ev_cle {f M pc : Nat} {L : ev_L} {st : List ev_V} {s : ev_M} {x y : Int32} {o r : Int} (h : ev_fnd2 (codT M) pc = some (.if_icmp .le o, (3, (r, [])))) : evT (f + 1) M pc L (vI y :: vI x :: st) s = if x ≤ y then evT f M r.toNat L st s else evT f M (pc + 3) L st s := by
  rw [ev_step f M pc L _ s h]
  rfl
theorem ev_ldcw {f M pc : Nat} {L : ev_L} {st : List ev_V} {s : ev_M} {idx : Nat} {r : Int} (h : ev_fnd2 (codT M) pc = some (.ldc_w idx, (3, (r, [])))) (hs : ev_str r = false) : evT (f + 1) M pc L st s = evT f M (pc + 3) L (vI (cI r) :: st) s := by
  rw [ev_step f M pc L _ s h]
  show (bif ev_str r then _ else _) = _
  rw [hs]
  rfl
