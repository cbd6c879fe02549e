/-! ===== FRAMES: what each method may write (printed) ===== -/
/-- a list of places: cells from, to; 0 or a slot and one -/
def inF (F : List (Nat × (Nat × Nat))) (c k : Nat) : Bool := F.any fun q => Nat.ble q.1 c && Nat.ble c q.2.1 && (Nat.beq q.2.2 0 || Nat.beq q.2.2 (k + 1))
/-- from s to t nothing outside F is changed -/
def fr (F : List (Nat × (Nat × Nat))) (s t : ev_M) : Prop := (∀ c k, inF F c k = false → t.1 c k = s.1 c k ∧ t.2.1 c k = s.2.1 c k) ∧ t.2.2 = s.2.2
theorem fr.rf {F : List (Nat × (Nat × Nat))} {s : ev_M} : fr F s s := ⟨fun _ _ _ => ⟨rfl, rfl⟩, rfl⟩
theorem fr.tr {F : List (Nat × (Nat × Nat))} {s t u : ev_M} (h : fr F s t) (h2 : fr F t u) : fr F s u := ⟨fun c k hc => ⟨(h2.1 c k hc).1.trans (h.1 c k hc).1, (h2.1 c k hc).2.trans (h.1 c k hc).2⟩, h2.2.trans h.2⟩
theorem inF_sub {F G : List (Nat × (Nat × Nat))} (hs : G.all (fun q => F.contains q) = true) {c k : Nat} (h : inF F c k = false) : inF G c k = false := by
  apply Classical.byContradiction
  intro h1
  have h1 : inF G c k = true := by simpa using h1
  obtain ⟨q, hq, h2⟩ := List.any_eq_true.mp h1
  have h3 := List.all_eq_true.mp hs q hq
  have h4 : q ∈ F := by simpa using h3
  have h5 : inF F c k = true := List.any_eq_true.mpr ⟨q, h4, h2⟩
  rw [h] at h5
  cases h5
theorem fr.mono {F G : List (Nat × (Nat × Nat))} {s t : ev_M} (h : fr G s t) (hs : G.all (fun q => F.contains q) = true) : fr F s t := ⟨fun c k hc => h.1 c k (inF_sub hs hc), h.2⟩
theorem fr_u2 {α : Type} {F : List (Nat × (Nat × Nat))} {f : Nat → Nat → α} {c k a b : Nat} {x : α} (h : inF F c k = true) (h2 : inF F a b = false) : u2 f c k x a b = f a b := by
  unfold u2
  split
  · next e =>
    subst e
    split
    · next e =>
      subst e
      rw [h] at h2
      cases h2
    · rfl
  · rfl
theorem fr.wI {F : List (Nat × (Nat × Nat))} {s t : ev_M} {c k : Nat} {x : Int32} (h : fr F s t) (hc : inF F c k = true) : fr F s (wI t c k x) := h.tr ⟨fun a b h2 => ⟨fr_u2 hc h2, rfl⟩, rfl⟩
theorem fr.wL {F : List (Nat × (Nat × Nat))} {s t : ev_M} {c k : Nat} {x : Int64} (h : fr F s t) (hc : inF F c k = true) : fr F s (wL t c k x) := h.tr ⟨fun a b h2 => ⟨rfl, fr_u2 hc h2⟩, rfl⟩
theorem inF_row {F : List (Nat × (Nat × Nat))} {lo hi c k : Nat} (h : F.contains (lo, (hi, 0)) = true) (h1 : lo ≤ c) (h2 : c ≤ hi) : inF F c k = true := by
  have h4 : (lo, (hi, 0)) ∈ F := by simpa using h
  refine List.any_eq_true.mpr ⟨_, h4, ?_⟩
  simp [h1, h2]
theorem inb_lt {j : Int32} {n : Nat} (h : inb j n = true) : ix j < n := of_decide_eq_true ((Bool.and_eq_true _ _).mp h).2
theorem fr_acp {F : List (Nat × (Nat × Nat))} {s t : ev_M} {na nb a b : Nat} {i j n : Int32} (hc : ∀ k, inF F b k = true) (h : fACP s na nb a b i j n = some t) : fr F s t := by
  unfold fACP at h
  split at h
  · cases h
    refine ⟨fun c k h2 => ⟨?_, rfl⟩, rfl⟩
    show (if c = b ∧ _ then _ else _) = _
    split
    · next e =>
      rw [e.1, hc k] at h2
      cases h2
    · rfl
  · cases h
section
variable {α β γ : Type} {P : Prop}
theorem fr_if {c : Prop} [Decidable c] {a b : Option α} {q : α} (h : (if c then a else b) = some q) (k1 : a = some q → P) (k2 : b = some q → P) : P := by
  by_cases hc : c
  · rw [if_pos hc] at h; exact k1 h
  · rw [if_neg hc] at h; exact k2 h
theorem fr_gd {c : Prop} [Decidable c] {a : Option α} {q : α} (h : (if c then a else none) = some q) (k : c → a = some q → P) : P := by
  by_cases hc : c
  · rw [if_pos hc] at h; exact k hc h
  · rw [if_neg hc] at h; cases h
theorem fr_dv {c : Prop} [Decidable c] {a : Option α} {q : α} (h : (if c then none else a) = some q) (k : a = some q → P) : P := by
  by_cases hc : c
  · rw [if_pos hc] at h; cases h
  · rw [if_neg hc] at h; exact k h
theorem fr_ltM {v : ev_M} {B : ev_M → Option α} {q : α} {Q : ev_M → Prop} (h : ltM v B = some q) (hv : Q v) (k : ∀ s1, Q s1 → B s1 = some q → P) : P := k v hv h
theorem fr_ltI {v : Int32} {B : Int32 → Option α} {q : α} (h : ltI v B = some q) (k : ∀ x, B x = some q → P) : P := k v h
theorem fr_ltL {v : Int64} {B : Int64 → Option α} {q : α} (h : ltL v B = some q) (k : ∀ x, B x = some q → P) : P := k v h
theorem fr_bd1 {o : Option β} {B : β → Option α} {q : α} (h : bd1 o B = some q) (k : ∀ x, o = some x → B x = some q → P) : P := by
  match o, h with
  | some x, h => exact k x rfl h
theorem fr_bd2 {o : Option (β × γ)} {B : β → γ → Option α} {q : α} (h : bd2 o B = some q) (k : ∀ x y, o = some (x, y) → B x y = some q → P) : P := by
  match o, h with
  | some x, h => exact k x.1 x.2 rfl h
end

def F_Tape_append_1 : List (Nat × (Nat × Nat)) := [(1, 1, 2), (2, 2, 0)]
theorem fr_fTape_append_1_h3 : ∀ (n : Nat) {s : ev_M} {x1 : Int32} {x2 : Int32} {q : ev_M} , fTape_append_1_h3 n s x1 x2 = some q → fr F_Tape_append_1 s q := by
  intro n
  induction n with
  | zero => intro s x1 x2 q h; cases h
  | succ n ih =>
    intro s x1 x2 q h
    have g : fr F_Tape_append_1 s s := fr.rf
    refine fr_if h (fun h => ?_) fun h => ?_
    · cases h; exact g
    · refine fr_if h (fun h => ?_) fun h => ?_
      · refine fr_ltM h (Q := fr F_Tape_append_1 s) (g.wI rfl) fun s1 gs1 h => ?_
        refine fr_gd h fun c0 h => ?_
        refine fr_ltM h (Q := fr F_Tape_append_1 s) (gs1.wI rfl) fun s2 gs2 h => ?_
        exact gs2.tr ((ih h))
      · cases h; exact g
theorem fr_fTape_append_1 {s : ev_M} {a1 : Int32} {q : ev_M} (h : fTape_append_1 s a1 = some q) : fr F_Tape_append_1 s q := by
  have g : fr F_Tape_append_1 s s := fr.rf
  exact g.tr ((fr_fTape_append_1_h3 1048576 h))
def F_Log_change : List (Nat × (Nat × Nat)) := [(10, 10, 0)]
theorem fr_fLog_change_b28 {s : ev_M} {x1 : Int32} {x2 : Int32} {q : ev_M × Int32} (h : fLog_change_b28 s x1 x2 = some q) : fr F_Log_change s q.1 := by
  have g : fr F_Log_change s s := fr.rf
  refine fr_bd1 h fun v1 hc h => ?_
  cases h; exact g
theorem fr_fLog_change {s : ev_M} {a1 : Int32} {a2 : Int32} {a3 : Int32} {q : ev_M × Int32} (h : fLog_change s a1 a2 a3 = some q) : fr F_Log_change s q.1 := by
  have g : fr F_Log_change s s := fr.rf
  refine fr_bd1 h fun v2 hc h => ?_
  refine fr_if h (fun h => ?_) fun h => ?_
  · exact g.tr ((fr_fLog_change_b28 h))
  · refine fr_gd h fun c0 h => ?_
    refine fr_gd h fun c1 h => ?_
    refine fr_ltM h (Q := fr F_Log_change s) (g.wI rfl) fun s3 gs3 h => ?_
    exact gs3.tr ((fr_fLog_change_b28 h))
def F_M_note : List (Nat × (Nat × Nat)) := [(549, 549, 10), (552, 552, 0)]
theorem fr_fM_note {s : ev_M} {a1 : Int32} {q : ev_M} (h : fM_note s a1 = some q) : fr F_M_note s q := by
  have g : fr F_M_note s s := fr.rf
  refine fr_gd h fun c0 h => ?_
  refine fr_ltM h (Q := fr F_M_note s) (g.wI rfl) fun s1 gs1 h => ?_
  refine fr_ltM h (Q := fr F_M_note s) (gs1.wI rfl) fun s2 gs2 h => ?_
  cases h; exact gs2
def F_M_no : List (Nat × (Nat × Nat)) := [(549, 549, 16)]
theorem fr_fM_no {s : ev_M} {a1 : Int32} {q : ev_M × Int32} (h : fM_no s a1 = some q) : fr F_M_no s q.1 := by
  have g : fr F_M_no s s := fr.rf
  refine fr_ltM h (Q := fr F_M_no s) (g.wI rfl) fun s1 gs1 h => ?_
  cases h; exact gs1
def F_M_doWish : List (Nat × (Nat × Nat)) := [(549, 549, 16), (627, 627, 0)]
theorem fr_fM_doWish_b105 {s : ev_M} {x3 : Int32} {x4 : Int32} {y1 : Int32} {y2 : Int32} {q : ev_M × Int32} (h : fM_doWish_b105 s x3 x4 y1 y2 = some q) : fr F_M_doWish s q.1 := by
  have g : fr F_M_doWish s s := fr.rf
  refine fr_gd h fun c0 h => ?_
  refine fr_ltM h (Q := fr F_M_doWish s) (g.wI rfl) fun s1 gs1 h => ?_
  refine fr_if h (fun h => ?_) fun h => ?_
  · cases h; exact gs1
  · cases h; exact gs1
theorem fr_fM_doWish_b67 {s : ev_M} {x1 : Int32} {x2 : Int32} {x3 : Int32} {y0 : Int32} {q : ev_M × Int32} (h : fM_doWish_b67 s x1 x2 x3 y0 = some q) : fr F_M_doWish s q.1 := by
  have g : fr F_M_doWish s s := fr.rf
  refine fr_if h (fun h => ?_) fun h => ?_
  · refine fr_gd h fun c0 h => ?_
    exact g.tr ((fr_fM_doWish_b105 h))
  · refine fr_gd h fun c0 h => ?_
    exact g.tr ((fr_fM_doWish_b105 h))
theorem fr_fM_doWish {s : ev_M} {a1 : Int32} {a2 : Int32} {a3 : Int32} {q : ev_M × Int32} (h : fM_doWish s a1 a2 a3 = some q) : fr F_M_doWish s q.1 := by
  have g : fr F_M_doWish s s := fr.rf
  refine fr_bd1 h fun v2 hc h => ?_
  refine fr_if h (fun h => ?_) fun h => ?_
  · refine fr_bd2 h fun s3 v4 hc h => ?_
    have gs3 : fr F_M_doWish s s3 := g.tr ((fr_fM_no hc).mono (F := F_M_doWish) (by decide +kernel))
    cases h; exact gs3
  · refine fr_bd1 h fun v5 hc h => ?_
    refine fr_if h (fun h => ?_) fun h => ?_
    · refine fr_bd2 h fun s6 v7 hc h => ?_
      have gs6 : fr F_M_doWish s s6 := g.tr ((fr_fM_no hc).mono (F := F_M_doWish) (by decide +kernel))
      cases h; exact gs6
    · refine fr_bd1 h fun v8 hc h => ?_
      refine fr_if h (fun h => ?_) fun h => ?_
      · refine fr_gd h fun c0 h => ?_
        refine fr_if h (fun h => ?_) fun h => ?_
        · exact g.tr ((fr_fM_doWish_b67 h))
        · exact g.tr ((fr_fM_doWish_b67 h))
      · refine fr_bd2 h fun s9 v10 hc h => ?_
        have gs9 : fr F_M_doWish s s9 := g.tr ((fr_fM_no hc).mono (F := F_M_doWish) (by decide +kernel))
        cases h; exact gs9
def F_M_addPoint : List (Nat × (Nat × Nat)) := [(549, 549, 39), (569, 569, 0), (570, 570, 0), (571, 571, 0)]
theorem fr_fM_addPoint {s : ev_M} {a1 : Int32} {a2 : Int32} {q : ev_M × Int32} (h : fM_addPoint s a1 a2 = some q) : fr F_M_addPoint s q.1 := by
  have g : fr F_M_addPoint s s := fr.rf
  refine fr_if h (fun h => ?_) fun h => ?_
  · cases h; exact g
  · refine fr_bd1 h fun v1 hc h => ?_
    refine fr_if h (fun h => ?_) fun h => ?_
    · cases h; exact g
    · refine fr_bd1 h fun v2 hc h => ?_
      refine fr_if h (fun h => ?_) fun h => ?_
      · refine fr_if h (fun h => ?_) fun h => ?_
        · cases h; exact g
        · refine fr_gd h fun c0 h => ?_
          refine fr_ltM h (Q := fr F_M_addPoint s) (g.wI rfl) fun s3 gs3 h => ?_
          refine fr_gd h fun c1 h => ?_
          refine fr_ltM h (Q := fr F_M_addPoint s) (gs3.wI rfl) fun s4 gs4 h => ?_
          refine fr_gd h fun c2 h => ?_
          refine fr_ltM h (Q := fr F_M_addPoint s) (gs4.wI rfl) fun s5 gs5 h => ?_
          refine fr_ltM h (Q := fr F_M_addPoint s) (gs5.wI rfl) fun s6 gs6 h => ?_
          cases h; exact gs6
      · cases h; exact g
def F_M_addPlace : List (Nat × (Nat × Nat)) := [(549, 549, 25), (558, 558, 0), (559, 559, 0)]
theorem fr_fM_addPlace {s : ev_M} {a1 : Int32} {a2 : Int64} {q : ev_M × Int32} (h : fM_addPlace s a1 a2 = some q) : fr F_M_addPlace s q.1 := by
  have g : fr F_M_addPlace s s := fr.rf
  refine fr_bd1 h fun v1 hc h => ?_
  refine fr_if h (fun h => ?_) fun h => ?_
  · cases h; exact g
  · refine fr_bd1 h fun v2 hc h => ?_
    refine fr_if h (fun h => ?_) fun h => ?_
    · refine fr_if h (fun h => ?_) fun h => ?_
      · cases h; exact g
      · refine fr_gd h fun c0 h => ?_
        refine fr_ltM h (Q := fr F_M_addPlace s) (g.wI rfl) fun s3 gs3 h => ?_
        refine fr_gd h fun c1 h => ?_
        refine fr_ltM h (Q := fr F_M_addPlace s) (gs3.wL rfl) fun s4 gs4 h => ?_
        refine fr_ltM h (Q := fr F_M_addPlace s) (gs4.wI rfl) fun s5 gs5 h => ?_
        cases h; exact gs5
    · cases h; exact g
def F_M_addRange : List (Nat × (Nat × Nat)) := [(549, 549, 34), (565, 565, 0), (566, 566, 0), (567, 567, 0), (568, 568, 0)]
theorem fr_fM_addRange_b82 {k51 : ev_M → Int32 → Int32 → Int32 → Int32 → Int32 → Option (ev_M × Int32)} (hk51 : ∀ {s : ev_M} {z1 : Int32} {z2 : Int32} {z3 : Int32} {z4 : Int32} {z5 : Int32} {q : ev_M × Int32} , k51 s z1 z2 z3 z4 z5 = some q → fr F_M_addRange s q.1) {s : ev_M} {x1 : Int32} {x2 : Int32} {x3 : Int32} {x4 : Int32} {x5 : Int32} {q : ev_M × Int32} (h : fM_addRange_b82 k51 s x1 x2 x3 x4 x5 = some q) : fr F_M_addRange s q.1 := by
  have g : fr F_M_addRange s s := fr.rf
  exact g.tr ((hk51 h))
theorem fr_fM_addRange_h51 : ∀ (n : Nat) {s : ev_M} {x1 : Int32} {x2 : Int32} {x3 : Int32} {x4 : Int32} {x5 : Int32} {q : ev_M × Int32} , fM_addRange_h51 n s x1 x2 x3 x4 x5 = some q → fr F_M_addRange s q.1 := by
  intro n
  induction n with
  | zero => intro s x1 x2 x3 x4 x5 q h; cases h
  | succ n ih =>
    intro s x1 x2 x3 x4 x5 q h
    have g : fr F_M_addRange s s := fr.rf
    refine fr_if h (fun h => ?_) fun h => ?_
    · refine fr_bd1 h fun v1 hc h => ?_
      refine fr_if h (fun h => ?_) fun h => ?_
      · exact g.tr ((fr_fM_addRange_b82 ih h))
      · refine fr_bd1 h fun v2 hc h => ?_
        refine fr_if h (fun h => ?_) fun h => ?_
        · exact g.tr ((fr_fM_addRange_b82 ih h))
        · cases h; exact g
    · refine fr_gd h fun c0 h => ?_
      refine fr_ltM h (Q := fr F_M_addRange s) (g.wI rfl) fun s3 gs3 h => ?_
      refine fr_gd h fun c1 h => ?_
      refine fr_ltM h (Q := fr F_M_addRange s) (gs3.wI rfl) fun s4 gs4 h => ?_
      refine fr_gd h fun c2 h => ?_
      refine fr_ltM h (Q := fr F_M_addRange s) (gs4.wI rfl) fun s5 gs5 h => ?_
      refine fr_gd h fun c3 h => ?_
      refine fr_ltM h (Q := fr F_M_addRange s) (gs5.wI rfl) fun s6 gs6 h => ?_
      refine fr_ltM h (Q := fr F_M_addRange s) (gs6.wI rfl) fun s7 gs7 h => ?_
      cases h; exact gs7
theorem fr_fM_addRange {s : ev_M} {a1 : Int32} {a2 : Int32} {a3 : Int32} {a4 : Int32} {q : ev_M × Int32} (h : fM_addRange s a1 a2 a3 a4 = some q) : fr F_M_addRange s q.1 := by
  have g : fr F_M_addRange s s := fr.rf
  refine fr_if h (fun h => ?_) fun h => ?_
  · cases h; exact g
  · refine fr_bd1 h fun v8 hc h => ?_
    refine fr_if h (fun h => ?_) fun h => ?_
    · cases h; exact g
    · refine fr_bd1 h fun v9 hc h => ?_
      refine fr_if h (fun h => ?_) fun h => ?_
      · cases h; exact g
      · refine fr_bd1 h fun v10 hc h => ?_
        refine fr_if h (fun h => ?_) fun h => ?_
        · cases h; exact g
        · refine fr_if h (fun h => ?_) fun h => ?_
          · cases h; exact g
          · exact g.tr ((fr_fM_addRange_h51 1048576 h))
def F_M_addStreet : List (Nat × (Nat × Nat)) := [(549, 549, 28), (560, 560, 0), (561, 561, 0), (562, 562, 0), (563, 563, 0), (564, 564, 0)]
theorem fr_fM_addStreet {s : ev_M} {a1 : Int32} {a2 : Int64} {a3 : Int32} {a4 : Int32} {a5 : Int32} {q : ev_M × Int32} (h : fM_addStreet s a1 a2 a3 a4 a5 = some q) : fr F_M_addStreet s q.1 := by
  have g : fr F_M_addStreet s s := fr.rf
  refine fr_if h (fun h => ?_) fun h => ?_
  · cases h; exact g
  · refine fr_bd1 h fun v1 hc h => ?_
    refine fr_if h (fun h => ?_) fun h => ?_
    · refine fr_bd1 h fun v2 hc h => ?_
      refine fr_if h (fun h => ?_) fun h => ?_
      · cases h; exact g
      · refine fr_bd1 h fun v3 hc h => ?_
        refine fr_if h (fun h => ?_) fun h => ?_
        · cases h; exact g
        · refine fr_bd1 h fun v4 hc h => ?_
          refine fr_if h (fun h => ?_) fun h => ?_
          · cases h; exact g
          · refine fr_if h (fun h => ?_) fun h => ?_
            · cases h; exact g
            · refine fr_gd h fun c0 h => ?_
              refine fr_ltM h (Q := fr F_M_addStreet s) (g.wI rfl) fun s5 gs5 h => ?_
              refine fr_gd h fun c1 h => ?_
              refine fr_ltM h (Q := fr F_M_addStreet s) (gs5.wL rfl) fun s6 gs6 h => ?_
              refine fr_gd h fun c2 h => ?_
              refine fr_ltM h (Q := fr F_M_addStreet s) (gs6.wI rfl) fun s7 gs7 h => ?_
              refine fr_gd h fun c3 h => ?_
              refine fr_ltM h (Q := fr F_M_addStreet s) (gs7.wI rfl) fun s8 gs8 h => ?_
              refine fr_gd h fun c4 h => ?_
              refine fr_ltM h (Q := fr F_M_addStreet s) (gs8.wI rfl) fun s9 gs9 h => ?_
              refine fr_ltM h (Q := fr F_M_addStreet s) (gs9.wI rfl) fun s10 gs10 h => ?_
              cases h; exact gs10
    · cases h; exact g
def F_M_eat : List (Nat × (Nat × Nat)) := [(549, 549, 140), (549, 549, 141)]
theorem fr_fM_eat_b45 {s : ev_M} {y1 : Int32} {q : ev_M} (h : fM_eat_b45 s y1 = some q) : fr F_M_eat s q := by
  have g : fr F_M_eat s s := fr.rf
  refine fr_ltM h (Q := fr F_M_eat s) (g.wI rfl) fun s1 gs1 h => ?_
  cases h; exact gs1
theorem fr_fM_eat_b21 {s : ev_M} {y1 : Int32} {q : ev_M} (h : fM_eat_b21 s y1 = some q) : fr F_M_eat s q := by
  have g : fr F_M_eat s s := fr.rf
  refine fr_gd h fun c0 h => ?_
  refine fr_ltM h (Q := fr F_M_eat s) (g.wI rfl) fun s2 gs2 h => ?_
  refine fr_if h (fun h => ?_) fun h => ?_
  · exact gs2.tr ((fr_fM_eat_b45 h))
  · exact gs2.tr ((fr_fM_eat_b45 h))
theorem fr_fM_eat_b16 {s : ev_M} {q : ev_M} (h : fM_eat_b16 s = some q) : fr F_M_eat s q := by
  have g : fr F_M_eat s s := fr.rf
  exact g.tr ((fr_fM_eat_b21 h))
theorem fr_fM_eat {s : ev_M} {a1 : Int32} {q : ev_M} (h : fM_eat s a1 = some q) : fr F_M_eat s q := by
  have g : fr F_M_eat s s := fr.rf
  refine fr_if h (fun h => ?_) fun h => ?_
  · refine fr_bd1 h fun v3 hc h => ?_
    refine fr_if h (fun h => ?_) fun h => ?_
    · exact g.tr ((fr_fM_eat_b21 h))
    · exact g.tr ((fr_fM_eat_b16 h))
  · exact g.tr ((fr_fM_eat_b16 h))
def F_M_digits : List (Nat × (Nat × Nat)) := [(549, 549, 140), (549, 549, 141)]
theorem fr_fM_digits_b77 {s : ev_M} {x2 : Int32} {y1 : Int32} {q : ev_M × Int32} (h : fM_digits_b77 s x2 y1 = some q) : fr F_M_digits s q.1 := by
  have g : fr F_M_digits s s := fr.rf
  refine fr_gd h fun c0 h => ?_
  refine fr_ltM h (Q := fr F_M_digits s) (g.wI rfl) fun s1 gs1 h => ?_
  cases h; exact gs1
theorem fr_fM_digits_b72 {s : ev_M} {x2 : Int32} {q : ev_M × Int32} (h : fM_digits_b72 s x2 = some q) : fr F_M_digits s q.1 := by
  have g : fr F_M_digits s s := fr.rf
  exact g.tr ((fr_fM_digits_b77 h))
theorem fr_fM_digits_b60 {s : ev_M} {x1 : Int32} {x2 : Int32} {q : ev_M × Int32} (h : fM_digits_b60 s x1 x2 = some q) : fr F_M_digits s q.1 := by
  have g : fr F_M_digits s s := fr.rf
  refine fr_if h (fun h => ?_) fun h => ?_
  · refine fr_if h (fun h => ?_) fun h => ?_
    · exact g.tr ((fr_fM_digits_b72 h))
    · exact g.tr ((fr_fM_digits_b77 h))
  · exact g.tr ((fr_fM_digits_b72 h))
theorem fr_fM_digits_h4 : ∀ (n : Nat) {s : ev_M} {x1 : Int32} {x2 : Int32} {q : ev_M × Int32} , fM_digits_h4 n s x1 x2 = some q → fr F_M_digits s q.1 := by
  intro n
  induction n with
  | zero => intro s x1 x2 q h; cases h
  | succ n ih =>
    intro s x1 x2 q h
    have g : fr F_M_digits s s := fr.rf
    refine fr_if h (fun h => ?_) fun h => ?_
    · refine fr_if h (fun h => ?_) fun h => ?_
      · refine fr_bd1 h fun v2 hc h => ?_
        refine fr_bd1 h fun v3 hc h => ?_
        refine fr_if h (fun h => ?_) fun h => ?_
        · exact g.tr ((fr_fM_digits_b60 h))
        · refine fr_bd1 h fun v4 hc h => ?_
          refine fr_ltI h fun v5 h => ?_
          refine fr_ltM h (Q := fr F_M_digits s) (g.wI rfl) fun s6 gs6 h => ?_
          exact gs6.tr ((ih h))
      · exact g.tr ((fr_fM_digits_b60 h))
    · exact g.tr ((fr_fM_digits_b60 h))
theorem fr_fM_digits {s : ev_M} {q : ev_M × Int32} (h : fM_digits s = some q) : fr F_M_digits s q.1 := by
  have g : fr F_M_digits s s := fr.rf
  exact g.tr ((fr_fM_digits_h4 1048576 h))
def F_M_comma : List (Nat × (Nat × Nat)) := [(549, 549, 140), (549, 549, 141)]
theorem fr_fM_comma {s : ev_M} {q : ev_M × Int32} (h : fM_comma s = some q) : fr F_M_comma s q.1 := by
  have g : fr F_M_comma s s := fr.rf
  refine fr_bd1 h fun s1 hc h => ?_
  have gs1 := g.tr ((fr_fM_eat hc).mono (F := F_M_comma) (by decide +kernel))
  refine fr_bd2 h fun s2 v3 hc h => ?_
  have gs2 : fr F_M_comma s s2 := gs1.tr ((fr_fM_digits hc).mono (F := F_M_comma) (by decide +kernel))
  cases h; exact gs2
def F_M_letters : List (Nat × (Nat × Nat)) := [(549, 549, 140), (549, 549, 141)]
theorem fr_fM_letters_b82 {s : ev_M} {x2 : Int64} {y1 : Int32} {q : ev_M × Int64} (h : fM_letters_b82 s x2 y1 = some q) : fr F_M_letters s q.1 := by
  have g : fr F_M_letters s s := fr.rf
  refine fr_gd h fun c0 h => ?_
  refine fr_ltM h (Q := fr F_M_letters s) (g.wI rfl) fun s1 gs1 h => ?_
  cases h; exact gs1
theorem fr_fM_letters_b77 {s : ev_M} {x2 : Int64} {q : ev_M × Int64} (h : fM_letters_b77 s x2 = some q) : fr F_M_letters s q.1 := by
  have g : fr F_M_letters s s := fr.rf
  exact g.tr ((fr_fM_letters_b82 h))
theorem fr_fM_letters_b65 {s : ev_M} {x1 : Int32} {x2 : Int64} {q : ev_M × Int64} (h : fM_letters_b65 s x1 x2 = some q) : fr F_M_letters s q.1 := by
  have g : fr F_M_letters s s := fr.rf
  refine fr_if h (fun h => ?_) fun h => ?_
  · refine fr_if h (fun h => ?_) fun h => ?_
    · exact g.tr ((fr_fM_letters_b77 h))
    · exact g.tr ((fr_fM_letters_b82 h))
  · exact g.tr ((fr_fM_letters_b77 h))
theorem fr_fM_letters_h4 : ∀ (n : Nat) {s : ev_M} {x1 : Int32} {x2 : Int64} {q : ev_M × Int64} , fM_letters_h4 n s x1 x2 = some q → fr F_M_letters s q.1 := by
  intro n
  induction n with
  | zero => intro s x1 x2 q h; cases h
  | succ n ih =>
    intro s x1 x2 q h
    have g : fr F_M_letters s s := fr.rf
    refine fr_if h (fun h => ?_) fun h => ?_
    · refine fr_if h (fun h => ?_) fun h => ?_
      · refine fr_bd1 h fun v2 hc h => ?_
        refine fr_bd1 h fun v3 hc h => ?_
        refine fr_if h (fun h => ?_) fun h => ?_
        · exact g.tr ((fr_fM_letters_b65 h))
        · refine fr_bd1 h fun v4 hc h => ?_
          refine fr_ltL h fun v5 h => ?_
          refine fr_ltM h (Q := fr F_M_letters s) (g.wI rfl) fun s6 gs6 h => ?_
          exact gs6.tr ((ih h))
      · exact g.tr ((fr_fM_letters_b65 h))
    · exact g.tr ((fr_fM_letters_b65 h))
theorem fr_fM_letters {s : ev_M} {q : ev_M × Int64} (h : fM_letters s = some q) : fr F_M_letters s q.1 := by
  have g : fr F_M_letters s s := fr.rf
  exact g.tr ((fr_fM_letters_h4 1048576 h))
def F_M_entryOfBook : List (Nat × (Nat × Nat)) := [(549, 549, 25), (549, 549, 28), (549, 549, 34), (549, 549, 39), (549, 549, 140), (549, 549, 141), (558, 558, 0), (559, 559, 0), (560, 560, 0), (561, 561, 0), (562, 562, 0), (563, 563, 0), (564, 564, 0), (565, 565, 0), (566, 566, 0), (567, 567, 0), (568, 568, 0), (569, 569, 0), (570, 570, 0), (571, 571, 0)]
theorem fr_fM_entryOfBook_b246 {s : ev_M} {x5 : Int32} {x9 : Int32} {q : ev_M × Int32} (h : fM_entryOfBook_b246 s x5 x9 = some q) : fr F_M_entryOfBook s q.1 := by
  have g : fr F_M_entryOfBook s s := fr.rf
  refine fr_bd2 h fun s1 v2 hc h => ?_
  have gs1 : fr F_M_entryOfBook s s1 := g.tr ((fr_fM_addPoint hc).mono (F := F_M_entryOfBook) (by decide +kernel))
  refine fr_if h (fun h => ?_) fun h => ?_
  · cases h; exact gs1
  · cases h
theorem fr_fM_entryOfBook_b177 {s : ev_M} {x1 : Int32} {x2 : Int32} {x3 : Int64} {x5 : Int32} {x6 : Int32} {x7 : Int32} {x8 : Int32} {y0 : Int32} {q : ev_M × Int32} (h : fM_entryOfBook_b177 s x1 x2 x3 x5 x6 x7 x8 y0 = some q) : fr F_M_entryOfBook s q.1 := by
  have g : fr F_M_entryOfBook s s := fr.rf
  refine fr_if h (fun h => ?_) fun h => ?_
  · refine fr_bd2 h fun s3 v4 hc h => ?_
    have gs3 : fr F_M_entryOfBook s s3 := g.tr ((fr_fM_addPlace hc).mono (F := F_M_entryOfBook) (by decide +kernel))
    refine fr_if h (fun h => ?_) fun h => ?_
    · cases h; exact gs3
    · cases h
  · refine fr_if h (fun h => ?_) fun h => ?_
    · exact g.tr ((fr_fM_entryOfBook_b246 h))
    · refine fr_if h (fun h => ?_) fun h => ?_
      · refine fr_bd2 h fun s5 v6 hc h => ?_
        have gs5 : fr F_M_entryOfBook s s5 := g.tr ((fr_fM_addRange hc).mono (F := F_M_entryOfBook) (by decide +kernel))
        refine fr_if h (fun h => ?_) fun h => ?_
        · cases h; exact gs5
        · cases h
      · refine fr_if h (fun h => ?_) fun h => ?_
        · refine fr_bd2 h fun s7 v8 hc h => ?_
          have gs7 : fr F_M_entryOfBook s s7 := g.tr ((fr_fM_addStreet hc).mono (F := F_M_entryOfBook) (by decide +kernel))
          refine fr_if h (fun h => ?_) fun h => ?_
          · cases h; exact gs7
          · cases h
        · exact g.tr ((fr_fM_entryOfBook_b246 h))
theorem fr_fM_entryOfBook_b136 {s : ev_M} {x1 : Int32} {x2 : Int32} {x3 : Int64} {x5 : Int32} {x6 : Int32} {y0 : Int32} {q : ev_M × Int32} (h : fM_entryOfBook_b136 s x1 x2 x3 x5 x6 y0 = some q) : fr F_M_entryOfBook s q.1 := by
  have g : fr F_M_entryOfBook s s := fr.rf
  refine fr_bd1 h fun s9 hc h => ?_
  have gs9 := g.tr ((fr_fM_eat hc).mono (F := F_M_entryOfBook) (by decide +kernel))
  refine fr_if h (fun h => ?_) fun h => ?_
  · refine fr_bd1 h fun v10 hc h => ?_
    refine fr_if h (fun h => ?_) fun h => ?_
    · exact gs9.tr ((fr_fM_entryOfBook_b177 h))
    · refine fr_bd1 h fun v11 hc h => ?_
      exact gs9.tr ((fr_fM_entryOfBook_b177 h))
  · cases h; exact gs9
theorem fr_fM_entryOfBook_b128 {s : ev_M} {x1 : Int32} {x2 : Int32} {x3 : Int64} {x5 : Int32} {x6 : Int32} {q : ev_M × Int32} (h : fM_entryOfBook_b128 s x1 x2 x3 x5 x6 = some q) : fr F_M_entryOfBook s q.1 := by
  have g : fr F_M_entryOfBook s s := fr.rf
  refine fr_bd2 h fun s12 v13 hc h => ?_
  have gs12 : fr F_M_entryOfBook s s12 := g.tr ((fr_fM_comma hc).mono (F := F_M_entryOfBook) (by decide +kernel))
  exact gs12.tr ((fr_fM_entryOfBook_b136 h))
theorem fr_fM_entryOfBook_b114 {s : ev_M} {x1 : Int32} {x2 : Int32} {x3 : Int64} {x5 : Int32} {y0 : Int32} {q : ev_M × Int32} (h : fM_entryOfBook_b114 s x1 x2 x3 x5 y0 = some q) : fr F_M_entryOfBook s q.1 := by
  have g : fr F_M_entryOfBook s s := fr.rf
  refine fr_if h (fun h => ?_) fun h => ?_
  · exact g.tr ((fr_fM_entryOfBook_b128 h))
  · refine fr_if h (fun h => ?_) fun h => ?_
    · exact g.tr ((fr_fM_entryOfBook_b128 h))
    · exact g.tr ((fr_fM_entryOfBook_b136 h))
theorem fr_fM_entryOfBook_b106 {s : ev_M} {x1 : Int32} {x2 : Int32} {x3 : Int64} {x5 : Int32} {q : ev_M × Int32} (h : fM_entryOfBook_b106 s x1 x2 x3 x5 = some q) : fr F_M_entryOfBook s q.1 := by
  have g : fr F_M_entryOfBook s s := fr.rf
  refine fr_bd2 h fun s14 v15 hc h => ?_
  have gs14 : fr F_M_entryOfBook s s14 := g.tr ((fr_fM_comma hc).mono (F := F_M_entryOfBook) (by decide +kernel))
  exact gs14.tr ((fr_fM_entryOfBook_b114 h))
theorem fr_fM_entryOfBook_b92 {s : ev_M} {x1 : Int32} {x2 : Int32} {x3 : Int64} {y0 : Int32} {q : ev_M × Int32} (h : fM_entryOfBook_b92 s x1 x2 x3 y0 = some q) : fr F_M_entryOfBook s q.1 := by
  have g : fr F_M_entryOfBook s s := fr.rf
  refine fr_if h (fun h => ?_) fun h => ?_
  · exact g.tr ((fr_fM_entryOfBook_b106 h))
  · refine fr_if h (fun h => ?_) fun h => ?_
    · exact g.tr ((fr_fM_entryOfBook_b106 h))
    · exact g.tr ((fr_fM_entryOfBook_b114 h))
theorem fr_fM_entryOfBook_b59 {s : ev_M} {x1 : Int32} {y1 : Int32} {q : ev_M × Int32} (h : fM_entryOfBook_b59 s x1 y1 = some q) : fr F_M_entryOfBook s q.1 := by
  have g : fr F_M_entryOfBook s s := fr.rf
  refine fr_ltM h (Q := fr F_M_entryOfBook s) (g.wI rfl) fun s16 gs16 h => ?_
  refine fr_bd2 h fun s17 v18 hc h => ?_
  have gs17 : fr F_M_entryOfBook s s17 := gs16.tr ((fr_fM_digits hc).mono (F := F_M_entryOfBook) (by decide +kernel))
  refine fr_bd1 h fun s19 hc h => ?_
  have gs19 := gs17.tr ((fr_fM_eat hc).mono (F := F_M_entryOfBook) (by decide +kernel))
  refine fr_bd2 h fun s20 v21 hc h => ?_
  have gs20 : fr F_M_entryOfBook s s20 := gs19.tr ((fr_fM_letters hc).mono (F := F_M_entryOfBook) (by decide +kernel))
  refine fr_if h (fun h => ?_) fun h => ?_
  · exact gs20.tr ((fr_fM_entryOfBook_b92 h))
  · refine fr_bd2 h fun s22 v23 hc h => ?_
    have gs22 : fr F_M_entryOfBook s s22 := gs20.tr ((fr_fM_comma hc).mono (F := F_M_entryOfBook) (by decide +kernel))
    exact gs22.tr ((fr_fM_entryOfBook_b92 h))
theorem fr_fM_entryOfBook_b35 {s : ev_M} {x1 : Int32} {y1 : Int32} {q : ev_M × Int32} (h : fM_entryOfBook_b35 s x1 y1 = some q) : fr F_M_entryOfBook s q.1 := by
  have g : fr F_M_entryOfBook s s := fr.rf
  refine fr_gd h fun c0 h => ?_
  refine fr_ltM h (Q := fr F_M_entryOfBook s) (g.wI rfl) fun s24 gs24 h => ?_
  refine fr_if h (fun h => ?_) fun h => ?_
  · exact gs24.tr ((fr_fM_entryOfBook_b59 h))
  · exact gs24.tr ((fr_fM_entryOfBook_b59 h))
theorem fr_fM_entryOfBook_b34 {s : ev_M} {x1 : Int32} {q : ev_M × Int32} (h : fM_entryOfBook_b34 s x1 = some q) : fr F_M_entryOfBook s q.1 := by
  have g : fr F_M_entryOfBook s s := fr.rf
  exact g.tr ((fr_fM_entryOfBook_b35 h))
theorem fr_fM_entryOfBook {s : ev_M} {q : ev_M × Int32} (h : fM_entryOfBook s = some q) : fr F_M_entryOfBook s q.1 := by
  have g : fr F_M_entryOfBook s s := fr.rf
  refine fr_bd1 h fun v25 hc h => ?_
  refine fr_if h (fun h => ?_) fun h => ?_
  · exact g.tr ((fr_fM_entryOfBook_b34 h))
  · refine fr_if h (fun h => ?_) fun h => ?_
    · exact g.tr ((fr_fM_entryOfBook_b34 h))
    · refine fr_if h (fun h => ?_) fun h => ?_
      · exact g.tr ((fr_fM_entryOfBook_b34 h))
      · refine fr_if h (fun h => ?_) fun h => ?_
        · exact g.tr ((fr_fM_entryOfBook_b34 h))
        · exact g.tr ((fr_fM_entryOfBook_b35 h))
def F_M_doBook : List (Nat × (Nat × Nat)) := [(549, 549, 16), (549, 549, 25), (549, 549, 28), (549, 549, 34), (549, 549, 39), (549, 549, 140), (549, 549, 141), (558, 558, 0), (559, 559, 0), (560, 560, 0), (561, 561, 0), (562, 562, 0), (563, 563, 0), (564, 564, 0), (565, 565, 0), (566, 566, 0), (567, 567, 0), (568, 568, 0), (569, 569, 0), (570, 570, 0), (571, 571, 0)]
theorem fr_fM_doBook_b91 {k32 : ev_M → Int32 → Int32 → Int32 → Int32 → Int32 → Int32 → Option (ev_M × Int32)} (hk32 : ∀ {s : ev_M} {z1 : Int32} {z2 : Int32} {z3 : Int32} {z4 : Int32} {z5 : Int32} {z6 : Int32} {q : ev_M × Int32} , k32 s z1 z2 z3 z4 z5 z6 = some q → fr F_M_doBook s q.1) {s : ev_M} {x1 : Int32} {x2 : Int32} {x3 : Int32} {x4 : Int32} {x5 : Int32} {y0 : Int32} {q : ev_M × Int32} (h : fM_doBook_b91 k32 s x1 x2 x3 x4 x5 y0 = some q) : fr F_M_doBook s q.1 := by
  have g : fr F_M_doBook s s := fr.rf
  exact g.tr ((hk32 h))
theorem fr_fM_doBook_b54 {k32 : ev_M → Int32 → Int32 → Int32 → Int32 → Int32 → Int32 → Option (ev_M × Int32)} (hk32 : ∀ {s : ev_M} {z1 : Int32} {z2 : Int32} {z3 : Int32} {z4 : Int32} {z5 : Int32} {z6 : Int32} {q : ev_M × Int32} , k32 s z1 z2 z3 z4 z5 z6 = some q → fr F_M_doBook s q.1) {s : ev_M} {x1 : Int32} {x2 : Int32} {x3 : Int32} {x4 : Int32} {x5 : Int32} {q : ev_M × Int32} (h : fM_doBook_b54 k32 s x1 x2 x3 x4 x5 = some q) : fr F_M_doBook s q.1 := by
  have g : fr F_M_doBook s s := fr.rf
  refine fr_ltI h fun v1 h => ?_
  refine fr_bd2 h fun s2 v3 hc h => ?_
  have gs2 : fr F_M_doBook s s2 := g.tr ((fr_fM_entryOfBook hc).mono (F := F_M_doBook) (by decide +kernel))
  refine fr_if h (fun h => ?_) fun h => ?_
  · refine fr_if h (fun h => ?_) fun h => ?_
    · exact gs2.tr ((fr_fM_doBook_b91 hk32 h))
    · exact gs2.tr ((fr_fM_doBook_b91 hk32 h))
  · exact gs2.tr ((fr_fM_doBook_b91 hk32 h))
theorem fr_fM_doBook_b168 {s : ev_M} {y1 : Int32} {q : ev_M × Int32} (h : fM_doBook_b168 s y1 = some q) : fr F_M_doBook s q.1 := by
  have g : fr F_M_doBook s s := fr.rf
  refine fr_bd2 h fun s4 v5 hc h => ?_
  have gs4 : fr F_M_doBook s s4 := g.tr ((fr_fM_no hc).mono (F := F_M_doBook) (by decide +kernel))
  cases h; exact gs4
theorem fr_fM_doBook_b130 {s : ev_M} {x1 : Int32} {x2 : Int32} {x3 : Int32} {x4 : Int32} {x6 : Int32} {x7 : Int32} {q : ev_M × Int32} (h : fM_doBook_b130 s x1 x2 x3 x4 x6 x7 = some q) : fr F_M_doBook s q.1 := by
  have g : fr F_M_doBook s s := fr.rf
  refine fr_ltM h (Q := fr F_M_doBook s) (g.wI rfl) fun s6 gs6 h => ?_
  refine fr_ltM h (Q := fr F_M_doBook s) (gs6.wI rfl) fun s7 gs7 h => ?_
  refine fr_ltM h (Q := fr F_M_doBook s) (gs7.wI rfl) fun s8 gs8 h => ?_
  refine fr_ltM h (Q := fr F_M_doBook s) (gs8.wI rfl) fun s9 gs9 h => ?_
  refine fr_if h (fun h => ?_) fun h => ?_
  · exact gs9.tr ((fr_fM_doBook_b168 h))
  · exact gs9.tr ((fr_fM_doBook_b168 h))
theorem fr_fM_doBook_b117 {s : ev_M} {x1 : Int32} {x2 : Int32} {x3 : Int32} {x4 : Int32} {x5 : Int32} {x6 : Int32} {y0 : Int32} {q : ev_M × Int32} (h : fM_doBook_b117 s x1 x2 x3 x4 x5 x6 y0 = some q) : fr F_M_doBook s q.1 := by
  have g : fr F_M_doBook s s := fr.rf
  refine fr_if h (fun h => ?_) fun h => ?_
  · refine fr_if h (fun h => ?_) fun h => ?_
    · cases h; exact g
    · exact g.tr ((fr_fM_doBook_b130 h))
  · exact g.tr ((fr_fM_doBook_b130 h))
theorem fr_fM_doBook_b116 {s : ev_M} {x1 : Int32} {x2 : Int32} {x3 : Int32} {x4 : Int32} {x5 : Int32} {x6 : Int32} {q : ev_M × Int32} (h : fM_doBook_b116 s x1 x2 x3 x4 x5 x6 = some q) : fr F_M_doBook s q.1 := by
  have g : fr F_M_doBook s s := fr.rf
  exact g.tr ((fr_fM_doBook_b117 h))
theorem fr_fM_doBook_b99 {s : ev_M} {x1 : Int32} {x2 : Int32} {x3 : Int32} {x4 : Int32} {x5 : Int32} {x6 : Int32} {q : ev_M × Int32} (h : fM_doBook_b99 s x1 x2 x3 x4 x5 x6 = some q) : fr F_M_doBook s q.1 := by
  have g : fr F_M_doBook s s := fr.rf
  refine fr_if h (fun h => ?_) fun h => ?_
  · refine fr_bd1 h fun v10 hc h => ?_
    refine fr_if h (fun h => ?_) fun h => ?_
    · exact g.tr ((fr_fM_doBook_b116 h))
    · exact g.tr ((fr_fM_doBook_b117 h))
  · exact g.tr ((fr_fM_doBook_b116 h))
theorem fr_fM_doBook_h32 : ∀ (n : Nat) {s : ev_M} {x1 : Int32} {x2 : Int32} {x3 : Int32} {x4 : Int32} {x5 : Int32} {x6 : Int32} {q : ev_M × Int32} , fM_doBook_h32 n s x1 x2 x3 x4 x5 x6 = some q → fr F_M_doBook s q.1 := by
  intro n
  induction n with
  | zero => intro s x1 x2 x3 x4 x5 x6 q h; cases h
  | succ n ih =>
    intro s x1 x2 x3 x4 x5 x6 q h
    have g : fr F_M_doBook s s := fr.rf
    refine fr_if h (fun h => ?_) fun h => ?_
    · refine fr_if h (fun h => ?_) fun h => ?_
      · exact g.tr ((fr_fM_doBook_b54 ih h))
      · refine fr_if h (fun h => ?_) fun h => ?_
        · exact g.tr ((fr_fM_doBook_b54 ih h))
        · exact g.tr ((fr_fM_doBook_b99 h))
    · exact g.tr ((fr_fM_doBook_b99 h))
theorem fr_fM_doBook {s : ev_M} {q : ev_M × Int32} (h : fM_doBook s = some q) : fr F_M_doBook s q.1 := by
  have g : fr F_M_doBook s s := fr.rf
  refine fr_ltI h fun v11 h => ?_
  refine fr_ltI h fun v12 h => ?_
  refine fr_ltI h fun v13 h => ?_
  refine fr_ltI h fun v14 h => ?_
  refine fr_ltM h (Q := fr F_M_doBook s) (g.wI rfl) fun s15 gs15 h => ?_
  exact gs15.tr ((fr_fM_doBook_h32 1048576 h))
def F_M_doNote : List (Nat × (Nat × Nat)) := [(549, 549, 16), (549, 549, 44), (573, 573, 0), (574, 574, 0), (575, 575, 0), (576, 576, 0)]
theorem fr_fM_doNote_b21 {s : ev_M} {q : ev_M × Int32} (h : fM_doNote_b21 s = some q) : fr F_M_doNote s q.1 := by
  have g : fr F_M_doNote s s := fr.rf
  refine fr_bd2 h fun s1 v2 hc h => ?_
  have gs1 : fr F_M_doNote s s1 := g.tr ((fr_fM_no hc).mono (F := F_M_doNote) (by decide +kernel))
  cases h; exact gs1
theorem fr_fM_doNote_b65 {s : ev_M} {q : ev_M × Int32} (h : fM_doNote_b65 s = some q) : fr F_M_doNote s q.1 := by
  have g : fr F_M_doNote s s := fr.rf
  refine fr_bd2 h fun s3 v4 hc h => ?_
  have gs3 : fr F_M_doNote s s3 := g.tr ((fr_fM_no hc).mono (F := F_M_doNote) (by decide +kernel))
  cases h; exact gs3
theorem fr_fM_doNote_b88 {s : ev_M} {q : ev_M × Int32} (h : fM_doNote_b88 s = some q) : fr F_M_doNote s q.1 := by
  have g : fr F_M_doNote s s := fr.rf
  refine fr_bd2 h fun s5 v6 hc h => ?_
  have gs5 : fr F_M_doNote s s5 := g.tr ((fr_fM_no hc).mono (F := F_M_doNote) (by decide +kernel))
  cases h; exact gs5
theorem fr_fM_doNote_b133 {s : ev_M} {x5 : Int32} {y1 : Int32} {y2 : Int32} {q : ev_M × Int32} (h : fM_doNote_b133 s x5 y1 y2 = some q) : fr F_M_doNote s q.1 := by
  have g : fr F_M_doNote s s := fr.rf
  refine fr_gd h fun c0 h => ?_
  refine fr_ltM h (Q := fr F_M_doNote s) (g.wI rfl) fun s7 gs7 h => ?_
  refine fr_gd h fun c1 h => ?_
  refine fr_ltM h (Q := fr F_M_doNote s) (gs7.wI rfl) fun s8 gs8 h => ?_
  refine fr_ltM h (Q := fr F_M_doNote s) (gs8.wI rfl) fun s9 gs9 h => ?_
  cases h; exact gs9
theorem fr_fM_doNote_b72 {s : ev_M} {x1 : Int32} {x2 : Int32} {x3 : Int32} {x4 : Int32} {x5 : Int32} {q : ev_M × Int32} (h : fM_doNote_b72 s x1 x2 x3 x4 x5 = some q) : fr F_M_doNote s q.1 := by
  have g : fr F_M_doNote s s := fr.rf
  refine fr_if h (fun h => ?_) fun h => ?_
  · exact g.tr ((fr_fM_doNote_b88 h))
  · refine fr_bd1 h fun v10 hc h => ?_
    refine fr_if h (fun h => ?_) fun h => ?_
    · refine fr_gd h fun c0 h => ?_
      refine fr_ltM h (Q := fr F_M_doNote s) (g.wI rfl) fun s11 gs11 h => ?_
      refine fr_gd h fun c1 h => ?_
      refine fr_ltM h (Q := fr F_M_doNote s) (gs11.wI rfl) fun s12 gs12 h => ?_
      refine fr_if h (fun h => ?_) fun h => ?_
      · exact gs12.tr ((fr_fM_doNote_b133 h))
      · exact gs12.tr ((fr_fM_doNote_b133 h))
    · exact g.tr ((fr_fM_doNote_b88 h))
theorem fr_fM_doNote_b28 {s : ev_M} {x1 : Int32} {x2 : Int32} {x3 : Int32} {x4 : Int32} {x5 : Int32} {q : ev_M × Int32} (h : fM_doNote_b28 s x1 x2 x3 x4 x5 = some q) : fr F_M_doNote s q.1 := by
  have g : fr F_M_doNote s s := fr.rf
  refine fr_bd1 h fun v13 hc h => ?_
  refine fr_if h (fun h => ?_) fun h => ?_
  · exact g.tr ((fr_fM_doNote_b65 h))
  · refine fr_bd1 h fun v14 hc h => ?_
    refine fr_if h (fun h => ?_) fun h => ?_
    · exact g.tr ((fr_fM_doNote_b65 h))
    · refine fr_if h (fun h => ?_) fun h => ?_
      · refine fr_if h (fun h => ?_) fun h => ?_
        · exact g.tr ((fr_fM_doNote_b72 h))
        · refine fr_if h (fun h => ?_) fun h => ?_
          · exact g.tr ((fr_fM_doNote_b65 h))
          · exact g.tr ((fr_fM_doNote_b72 h))
      · exact g.tr ((fr_fM_doNote_b65 h))
theorem fr_fM_doNote {s : ev_M} {a1 : Int32} {a2 : Int32} {a3 : Int32} {a4 : Int32} {a5 : Int32} {q : ev_M × Int32} (h : fM_doNote s a1 a2 a3 a4 a5 = some q) : fr F_M_doNote s q.1 := by
  have g : fr F_M_doNote s s := fr.rf
  refine fr_bd1 h fun v15 hc h => ?_
  refine fr_if h (fun h => ?_) fun h => ?_
  · exact g.tr ((fr_fM_doNote_b21 h))
  · refine fr_if h (fun h => ?_) fun h => ?_
    · exact g.tr ((fr_fM_doNote_b28 h))
    · refine fr_bd1 h fun v16 hc h => ?_
      refine fr_if h (fun h => ?_) fun h => ?_
      · exact g.tr ((fr_fM_doNote_b21 h))
      · exact g.tr ((fr_fM_doNote_b28 h))
def F_M_part : List (Nat × (Nat × Nat)) := [(549, 549, 147), (650, 650, 0), (651, 651, 0), (652, 652, 0), (653, 653, 0), (654, 654, 0), (655, 655, 0)]
theorem fr_fM_part_b227 {k30 : ev_M → Int32 → Int32 → Int32 → Int32 → Int32 → Int32 → Option ev_M} {k115 : ev_M → Int32 → Int32 → Int32 → Int32 → Int32 → Int32 → Int32 → Int32 → Int32 → Option ev_M} (hk30 : ∀ {s : ev_M} {z1 : Int32} {z2 : Int32} {z3 : Int32} {z4 : Int32} {z5 : Int32} {z6 : Int32} {q : ev_M} , k30 s z1 z2 z3 z4 z5 z6 = some q → fr F_M_part s q) (hk115 : ∀ {s : ev_M} {z1 : Int32} {z2 : Int32} {z3 : Int32} {z4 : Int32} {z5 : Int32} {z6 : Int32} {z7 : Int32} {z8 : Int32} {z9 : Int32} {q : ev_M} , k115 s z1 z2 z3 z4 z5 z6 z7 z8 z9 = some q → fr F_M_part s q) {s : ev_M} {x1 : Int32} {x2 : Int32} {x3 : Int32} {x4 : Int32} {x5 : Int32} {x6 : Int32} {x7 : Int32} {x8 : Int32} {x9 : Int32} {q : ev_M} (h : fM_part_b227 k30 k115 s x1 x2 x3 x4 x5 x6 x7 x8 x9 = some q) : fr F_M_part s q := by
  have g : fr F_M_part s s := fr.rf
  exact g.tr ((hk115 h))
theorem fr_fM_part_h115 {k30 : ev_M → Int32 → Int32 → Int32 → Int32 → Int32 → Int32 → Option ev_M} (hk30 : ∀ {s : ev_M} {z1 : Int32} {z2 : Int32} {z3 : Int32} {z4 : Int32} {z5 : Int32} {z6 : Int32} {q : ev_M} , k30 s z1 z2 z3 z4 z5 z6 = some q → fr F_M_part s q) : ∀ (n : Nat) {s : ev_M} {x1 : Int32} {x2 : Int32} {x3 : Int32} {x4 : Int32} {x5 : Int32} {x6 : Int32} {x7 : Int32} {x8 : Int32} {x9 : Int32} {q : ev_M} , fM_part_h115 k30 n s x1 x2 x3 x4 x5 x6 x7 x8 x9 = some q → fr F_M_part s q := by
  intro n
  induction n with
  | zero => intro s x1 x2 x3 x4 x5 x6 x7 x8 x9 q h; cases h
  | succ n ih =>
    intro s x1 x2 x3 x4 x5 x6 x7 x8 x9 q h
    have g : fr F_M_part s s := fr.rf
    refine fr_if h (fun h => ?_) fun h => ?_
    · refine fr_dv h fun h => ?_
      refine fr_ltI h fun v1 h => ?_
      refine fr_dv h fun h => ?_
      refine fr_ltI h fun v2 h => ?_
      refine fr_bd1 h fun v3 hc h => ?_
      refine fr_if h (fun h => ?_) fun h => ?_
      · exact g.tr ((fr_fM_part_b227 hk30 ih h))
      · refine fr_bd1 h fun v4 hc h => ?_
        refine fr_if h (fun h => ?_) fun h => ?_
        · exact g.tr ((fr_fM_part_b227 hk30 ih h))
        · refine fr_gd h fun c0 h => ?_
          refine fr_if h (fun h => ?_) fun h => ?_
          · refine fr_gd h fun c1 h => ?_
            refine fr_ltM h (Q := fr F_M_part s) (g.wI rfl) fun s5 gs5 h => ?_
            refine fr_gd h fun c2 h => ?_
            refine fr_ltM h (Q := fr F_M_part s) (gs5.wI rfl) fun s6 gs6 h => ?_
            exact gs6.tr ((fr_fM_part_b227 hk30 ih h))
          · exact g.tr ((fr_fM_part_b227 hk30 ih h))
    · exact g.tr ((hk30 h))
theorem fr_fM_part_b110 {k30 : ev_M → Int32 → Int32 → Int32 → Int32 → Int32 → Int32 → Option ev_M} (hk30 : ∀ {s : ev_M} {z1 : Int32} {z2 : Int32} {z3 : Int32} {z4 : Int32} {z5 : Int32} {z6 : Int32} {q : ev_M} , k30 s z1 z2 z3 z4 z5 z6 = some q → fr F_M_part s q) {s : ev_M} {x1 : Int32} {x2 : Int32} {x3 : Int32} {x4 : Int32} {x5 : Int32} {x7 : Int32} {x8 : Int32} {y0 : Int32} {q : ev_M} (h : fM_part_b110 k30 s x1 x2 x3 x4 x5 x7 x8 y0 = some q) : fr F_M_part s q := by
  have g : fr F_M_part s s := fr.rf
  exact g.tr ((fr_fM_part_h115 hk30 1048576 h))
theorem fr_fM_part_b94 {k30 : ev_M → Int32 → Int32 → Int32 → Int32 → Int32 → Int32 → Option ev_M} (hk30 : ∀ {s : ev_M} {z1 : Int32} {z2 : Int32} {z3 : Int32} {z4 : Int32} {z5 : Int32} {z6 : Int32} {q : ev_M} , k30 s z1 z2 z3 z4 z5 z6 = some q → fr F_M_part s q) {s : ev_M} {x1 : Int32} {x2 : Int32} {x3 : Int32} {x4 : Int32} {x6 : Int32} {x7 : Int32} {x8 : Int32} {y0 : Int32} {q : ev_M} (h : fM_part_b94 k30 s x1 x2 x3 x4 x6 x7 x8 y0 = some q) : fr F_M_part s q := by
  have g : fr F_M_part s s := fr.rf
  refine fr_if h (fun h => ?_) fun h => ?_
  · exact g.tr ((fr_fM_part_b110 hk30 h))
  · exact g.tr ((fr_fM_part_b110 hk30 h))
theorem fr_fM_part_b78 {k30 : ev_M → Int32 → Int32 → Int32 → Int32 → Int32 → Int32 → Option ev_M} (hk30 : ∀ {s : ev_M} {z1 : Int32} {z2 : Int32} {z3 : Int32} {z4 : Int32} {z5 : Int32} {z6 : Int32} {q : ev_M} , k30 s z1 z2 z3 z4 z5 z6 = some q → fr F_M_part s q) {s : ev_M} {x1 : Int32} {x2 : Int32} {x3 : Int32} {x5 : Int32} {x6 : Int32} {x7 : Int32} {x8 : Int32} {y0 : Int32} {q : ev_M} (h : fM_part_b78 k30 s x1 x2 x3 x5 x6 x7 x8 y0 = some q) : fr F_M_part s q := by
  have g : fr F_M_part s s := fr.rf
  refine fr_if h (fun h => ?_) fun h => ?_
  · exact g.tr ((fr_fM_part_b94 hk30 h))
  · exact g.tr ((fr_fM_part_b94 hk30 h))
theorem fr_fM_part_h30 : ∀ (n : Nat) {s : ev_M} {x1 : Int32} {x2 : Int32} {x3 : Int32} {x4 : Int32} {x5 : Int32} {x6 : Int32} {q : ev_M} , fM_part_h30 n s x1 x2 x3 x4 x5 x6 = some q → fr F_M_part s q := by
  intro n
  induction n with
  | zero => intro s x1 x2 x3 x4 x5 x6 q h; cases h
  | succ n ih =>
    intro s x1 x2 x3 x4 x5 x6 q h
    have g : fr F_M_part s s := fr.rf
    refine fr_if h (fun h => ?_) fun h => ?_
    · refine fr_gd h fun c0 h => ?_
      refine fr_dv h fun h => ?_
      refine fr_ltI h fun v7 h => ?_
      refine fr_gd h fun c1 h => ?_
      refine fr_dv h fun h => ?_
      refine fr_ltI h fun v8 h => ?_
      refine fr_if h (fun h => ?_) fun h => ?_
      · exact g.tr ((fr_fM_part_b78 ih h))
      · exact g.tr ((fr_fM_part_b78 ih h))
    · refine fr_if h (fun h => ?_) fun h => ?_
      · cases h; exact g
      · refine fr_if h (fun h => ?_) fun h => ?_
        · refine fr_gd h fun c0 h => ?_
          refine fr_ltM h (Q := fr F_M_part s) (g.wI rfl) fun s9 gs9 h => ?_
          refine fr_dv h fun h => ?_
          refine fr_gd h fun c1 h => ?_
          refine fr_ltM h (Q := fr F_M_part s) (gs9.wI rfl) fun s10 gs10 h => ?_
          refine fr_gd h fun c2 h => ?_
          refine fr_ltM h (Q := fr F_M_part s) (gs10.wI rfl) fun s11 gs11 h => ?_
          refine fr_dv h fun h => ?_
          refine fr_gd h fun c3 h => ?_
          refine fr_ltM h (Q := fr F_M_part s) (gs11.wI rfl) fun s12 gs12 h => ?_
          refine fr_ltM h (Q := fr F_M_part s) (gs12.wI rfl) fun s13 gs13 h => ?_
          cases h; exact gs13
        · cases h; exact g
theorem fr_fM_part {s : ev_M} {a1 : Int32} {q : ev_M} (h : fM_part s a1 = some q) : fr F_M_part s q := by
  have g : fr F_M_part s s := fr.rf
  refine fr_ltM h (Q := fr F_M_part s) (g.wI rfl) fun s14 gs14 h => ?_
  refine fr_gd h fun c0 h => ?_
  refine fr_ltM h (Q := fr F_M_part s) (gs14.wI rfl) fun s15 gs15 h => ?_
  refine fr_ltI h fun v16 h => ?_
  exact gs15.tr ((fr_fM_part_h30 1048576 h))
def F_M_hangTogether : List (Nat × (Nat × Nat)) := [(656, 656, 0)]
theorem fr_fM_hangTogether_b89 {k25 : ev_M → Int32 → Option ev_M} {k33 : ev_M → Int32 → Int32 → Option ev_M} {k43 : ev_M → Int32 → Int32 → Int32 → Option ev_M} (hk25 : ∀ {s : ev_M} {z1 : Int32} {q : ev_M} , k25 s z1 = some q → fr F_M_hangTogether s q) (hk33 : ∀ {s : ev_M} {z1 : Int32} {z2 : Int32} {q : ev_M} , k33 s z1 z2 = some q → fr F_M_hangTogether s q) (hk43 : ∀ {s : ev_M} {z1 : Int32} {z2 : Int32} {z3 : Int32} {q : ev_M} , k43 s z1 z2 z3 = some q → fr F_M_hangTogether s q) {s : ev_M} {x1 : Int32} {x2 : Int32} {x3 : Int32} {q : ev_M} (h : fM_hangTogether_b89 k25 k33 k43 s x1 x2 x3 = some q) : fr F_M_hangTogether s q := by
  have g : fr F_M_hangTogether s s := fr.rf
  exact g.tr ((hk43 h))
theorem fr_fM_hangTogether_h43 {k25 : ev_M → Int32 → Option ev_M} {k33 : ev_M → Int32 → Int32 → Option ev_M} (hk25 : ∀ {s : ev_M} {z1 : Int32} {q : ev_M} , k25 s z1 = some q → fr F_M_hangTogether s q) (hk33 : ∀ {s : ev_M} {z1 : Int32} {z2 : Int32} {q : ev_M} , k33 s z1 z2 = some q → fr F_M_hangTogether s q) : ∀ (n : Nat) {s : ev_M} {x1 : Int32} {x2 : Int32} {x3 : Int32} {q : ev_M} , fM_hangTogether_h43 k25 k33 n s x1 x2 x3 = some q → fr F_M_hangTogether s q := by
  intro n
  induction n with
  | zero => intro s x1 x2 x3 q h; cases h
  | succ n ih =>
    intro s x1 x2 x3 q h
    have g : fr F_M_hangTogether s s := fr.rf
    refine fr_if h (fun h => ?_) fun h => ?_
    · refine fr_gd h fun c0 h => ?_
      refine fr_gd h fun c1 h => ?_
      refine fr_if h (fun h => ?_) fun h => ?_
      · refine fr_bd1 h fun v1 hc h => ?_
        refine fr_if h (fun h => ?_) fun h => ?_
        · exact g.tr ((fr_fM_hangTogether_b89 hk25 hk33 ih h))
        · refine fr_gd h fun c2 h => ?_
          refine fr_gd h fun c3 h => ?_
          refine fr_ltM h (Q := fr F_M_hangTogether s) (g.wI rfl) fun s2 gs2 h => ?_
          exact gs2.tr ((fr_fM_hangTogether_b89 hk25 hk33 ih h))
      · exact g.tr ((fr_fM_hangTogether_b89 hk25 hk33 ih h))
    · exact g.tr ((hk33 h))
theorem fr_fM_hangTogether_h33 {k25 : ev_M → Int32 → Option ev_M} (hk25 : ∀ {s : ev_M} {z1 : Int32} {q : ev_M} , k25 s z1 = some q → fr F_M_hangTogether s q) : ∀ (n : Nat) {s : ev_M} {x1 : Int32} {x2 : Int32} {q : ev_M} , fM_hangTogether_h33 k25 n s x1 x2 = some q → fr F_M_hangTogether s q := by
  intro n
  induction n with
  | zero => intro s x1 x2 q h; cases h
  | succ n ih =>
    intro s x1 x2 q h
    have g : fr F_M_hangTogether s s := fr.rf
    refine fr_if h (fun h => ?_) fun h => ?_
    · exact g.tr ((fr_fM_hangTogether_h43 hk25 ih 1048576 h))
    · exact g.tr ((hk25 h))
theorem fr_fM_hangTogether_h25 : ∀ (n : Nat) {s : ev_M} {x1 : Int32} {q : ev_M} , fM_hangTogether_h25 n s x1 = some q → fr F_M_hangTogether s q := by
  intro n
  induction n with
  | zero => intro s x1 q h; cases h
  | succ n ih =>
    intro s x1 q h
    have g : fr F_M_hangTogether s s := fr.rf
    refine fr_if h (fun h => ?_) fun h => ?_
    · cases h; exact g
    · exact g.tr ((fr_fM_hangTogether_h33 ih 1048576 h))
theorem fr_fM_hangTogether_h2 : ∀ (n : Nat) {s : ev_M} {x1 : Int32} {q : ev_M} , fM_hangTogether_h2 n s x1 = some q → fr F_M_hangTogether s q := by
  intro n
  induction n with
  | zero => intro s x1 q h; cases h
  | succ n ih =>
    intro s x1 q h
    have g : fr F_M_hangTogether s s := fr.rf
    refine fr_if h (fun h => ?_) fun h => ?_
    · refine fr_gd h fun c0 h => ?_
      refine fr_ltM h (Q := fr F_M_hangTogether s) (g.wI rfl) fun s3 gs3 h => ?_
      exact gs3.tr ((ih h))
    · exact g.tr ((fr_fM_hangTogether_h25 1048576 h))
theorem fr_fM_hangTogether {s : ev_M} {q : ev_M} (h : fM_hangTogether s = some q) : fr F_M_hangTogether s q := by
  have g : fr F_M_hangTogether s s := fr.rf
  exact g.tr ((fr_fM_hangTogether_h2 1048576 h))
def F_M_lay : List (Nat × (Nat × Nat)) := [(549, 549, 52), (577, 577, 0), (578, 578, 0), (579, 579, 0), (580, 580, 0), (581, 581, 0), (582, 582, 0)]
theorem fr_fM_lay_b88 {k15 : ev_M → Int32 → Int32 → Int32 → Int32 → Option ev_M} {k41 : ev_M → Int32 → Int32 → Int32 → Int32 → Int32 → Int32 → Option ev_M} (hk15 : ∀ {s : ev_M} {z1 : Int32} {z2 : Int32} {z3 : Int32} {z4 : Int32} {q : ev_M} , k15 s z1 z2 z3 z4 = some q → fr F_M_lay s q) (hk41 : ∀ {s : ev_M} {z1 : Int32} {z2 : Int32} {z3 : Int32} {z4 : Int32} {z5 : Int32} {z6 : Int32} {q : ev_M} , k41 s z1 z2 z3 z4 z5 z6 = some q → fr F_M_lay s q) {s : ev_M} {x1 : Int32} {x2 : Int32} {x3 : Int32} {x4 : Int32} {x6 : Int32} {y0 : Int32} {q : ev_M} (h : fM_lay_b88 k15 k41 s x1 x2 x3 x4 x6 y0 = some q) : fr F_M_lay s q := by
  have g : fr F_M_lay s s := fr.rf
  exact g.tr ((hk41 h))
theorem fr_fM_lay_b86 {k15 : ev_M → Int32 → Int32 → Int32 → Int32 → Option ev_M} {k41 : ev_M → Int32 → Int32 → Int32 → Int32 → Int32 → Int32 → Option ev_M} (hk15 : ∀ {s : ev_M} {z1 : Int32} {z2 : Int32} {z3 : Int32} {z4 : Int32} {q : ev_M} , k15 s z1 z2 z3 z4 = some q → fr F_M_lay s q) (hk41 : ∀ {s : ev_M} {z1 : Int32} {z2 : Int32} {z3 : Int32} {z4 : Int32} {z5 : Int32} {z6 : Int32} {q : ev_M} , k41 s z1 z2 z3 z4 z5 z6 = some q → fr F_M_lay s q) {s : ev_M} {x1 : Int32} {x2 : Int32} {x3 : Int32} {x4 : Int32} {x5 : Int32} {x6 : Int32} {q : ev_M} (h : fM_lay_b86 k15 k41 s x1 x2 x3 x4 x5 x6 = some q) : fr F_M_lay s q := by
  have g : fr F_M_lay s s := fr.rf
  exact g.tr ((fr_fM_lay_b88 hk15 hk41 h))
theorem fr_fM_lay_b174 {k15 : ev_M → Int32 → Int32 → Int32 → Int32 → Option ev_M} (hk15 : ∀ {s : ev_M} {z1 : Int32} {z2 : Int32} {z3 : Int32} {z4 : Int32} {q : ev_M} , k15 s z1 z2 z3 z4 = some q → fr F_M_lay s q) {s : ev_M} {x1 : Int32} {x2 : Int32} {x3 : Int32} {x4 : Int32} {q : ev_M} (h : fM_lay_b174 k15 s x1 x2 x3 x4 = some q) : fr F_M_lay s q := by
  have g : fr F_M_lay s s := fr.rf
  exact g.tr ((hk15 h))
theorem fr_fM_lay_h41 {k15 : ev_M → Int32 → Int32 → Int32 → Int32 → Option ev_M} (hk15 : ∀ {s : ev_M} {z1 : Int32} {z2 : Int32} {z3 : Int32} {z4 : Int32} {q : ev_M} , k15 s z1 z2 z3 z4 = some q → fr F_M_lay s q) : ∀ (n : Nat) {s : ev_M} {x1 : Int32} {x2 : Int32} {x3 : Int32} {x4 : Int32} {x5 : Int32} {x6 : Int32} {q : ev_M} , fM_lay_h41 k15 n s x1 x2 x3 x4 x5 x6 = some q → fr F_M_lay s q := by
  intro n
  induction n with
  | zero => intro s x1 x2 x3 x4 x5 x6 q h; cases h
  | succ n ih =>
    intro s x1 x2 x3 x4 x5 x6 q h
    have g : fr F_M_lay s s := fr.rf
    refine fr_if h (fun h => ?_) fun h => ?_
    · refine fr_gd h fun c0 h => ?_
      refine fr_if h (fun h => ?_) fun h => ?_
      · refine fr_if h (fun h => ?_) fun h => ?_
        · exact g.tr ((fr_fM_lay_b86 hk15 ih h))
        · refine fr_bd1 h fun v1 hc h => ?_
          refine fr_if h (fun h => ?_) fun h => ?_
          · exact g.tr ((fr_fM_lay_b86 hk15 ih h))
          · exact g.tr ((fr_fM_lay_b88 hk15 ih h))
      · exact g.tr ((fr_fM_lay_b86 hk15 ih h))
    · refine fr_ltI h fun v2 h => ?_
      refine fr_gd h fun c0 h => ?_
      refine fr_gd h fun c1 h => ?_
      refine fr_ltM h (Q := fr F_M_lay s) (g.wI rfl) fun s3 gs3 h => ?_
      refine fr_gd h fun c2 h => ?_
      refine fr_gd h fun c3 h => ?_
      refine fr_ltM h (Q := fr F_M_lay s) (gs3.wI rfl) fun s4 gs4 h => ?_
      refine fr_gd h fun c4 h => ?_
      refine fr_gd h fun c5 h => ?_
      refine fr_ltM h (Q := fr F_M_lay s) (gs4.wI rfl) fun s5 gs5 h => ?_
      refine fr_gd h fun c6 h => ?_
      refine fr_gd h fun c7 h => ?_
      refine fr_ltM h (Q := fr F_M_lay s) (gs5.wI rfl) fun s6 gs6 h => ?_
      refine fr_bd1 h fun v7 hc h => ?_
      refine fr_gd h fun c8 h => ?_
      refine fr_ltM h (Q := fr F_M_lay s) (gs6.wI rfl) fun s8 gs8 h => ?_
      exact gs8.tr ((fr_fM_lay_b174 hk15 h))
theorem fr_fM_lay_h15 : ∀ (n : Nat) {s : ev_M} {x1 : Int32} {x2 : Int32} {x3 : Int32} {x4 : Int32} {q : ev_M} , fM_lay_h15 n s x1 x2 x3 x4 = some q → fr F_M_lay s q := by
  intro n
  induction n with
  | zero => intro s x1 x2 x3 x4 q h; cases h
  | succ n ih =>
    intro s x1 x2 x3 x4 q h
    have g : fr F_M_lay s s := fr.rf
    refine fr_if h (fun h => ?_) fun h => ?_
    · refine fr_gd h fun c0 h => ?_
      refine fr_if h (fun h => ?_) fun h => ?_
      · exact g.tr ((fr_fM_lay_h41 ih 1048576 h))
      · exact g.tr ((fr_fM_lay_b174 ih h))
    · refine fr_ltM h (Q := fr F_M_lay s) (g.wI rfl) fun s9 gs9 h => ?_
      refine fr_gd h fun c0 h => ?_
      refine fr_ltM h (Q := fr F_M_lay s) (gs9.wI rfl) fun s10 gs10 h => ?_
      cases h; exact gs10
theorem fr_fM_lay {s : ev_M} {a1 : Int32} {q : ev_M} (h : fM_lay s a1 = some q) : fr F_M_lay s q := by
  have g : fr F_M_lay s s := fr.rf
  refine fr_gd h fun c0 h => ?_
  refine fr_ltI h fun v11 h => ?_
  exact g.tr ((fr_fM_lay_h15 1048576 h))
def F_M_findLines : List (Nat × (Nat × Nat)) := [(549, 549, 52), (577, 577, 0), (578, 578, 0), (579, 579, 0), (580, 580, 0), (581, 581, 0), (582, 582, 0)]
theorem fr_fM_findLines_b102 {k16 : ev_M → Int32 → Int32 → Option ev_M} {k34 : ev_M → Int32 → Int32 → Int32 → Option ev_M} (hk16 : ∀ {s : ev_M} {z1 : Int32} {z2 : Int32} {q : ev_M} , k16 s z1 z2 = some q → fr F_M_findLines s q) (hk34 : ∀ {s : ev_M} {z1 : Int32} {z2 : Int32} {z3 : Int32} {q : ev_M} , k34 s z1 z2 z3 = some q → fr F_M_findLines s q) {s : ev_M} {x1 : Int32} {x4 : Int32} {y0 : Int32} {q : ev_M} (h : fM_findLines_b102 k16 k34 s x1 x4 y0 = some q) : fr F_M_findLines s q := by
  have g : fr F_M_findLines s s := fr.rf
  exact g.tr ((hk34 h))
theorem fr_fM_findLines_b96 {k16 : ev_M → Int32 → Int32 → Option ev_M} {k34 : ev_M → Int32 → Int32 → Int32 → Option ev_M} (hk16 : ∀ {s : ev_M} {z1 : Int32} {z2 : Int32} {q : ev_M} , k16 s z1 z2 = some q → fr F_M_findLines s q) (hk34 : ∀ {s : ev_M} {z1 : Int32} {z2 : Int32} {z3 : Int32} {q : ev_M} , k34 s z1 z2 z3 = some q → fr F_M_findLines s q) {s : ev_M} {x1 : Int32} {x4 : Int32} {q : ev_M} (h : fM_findLines_b96 k16 k34 s x1 x4 = some q) : fr F_M_findLines s q := by
  have g : fr F_M_findLines s s := fr.rf
  exact g.tr ((fr_fM_findLines_b102 hk16 hk34 h))
theorem fr_fM_findLines_b101 {k16 : ev_M → Int32 → Int32 → Option ev_M} {k34 : ev_M → Int32 → Int32 → Int32 → Option ev_M} (hk16 : ∀ {s : ev_M} {z1 : Int32} {z2 : Int32} {q : ev_M} , k16 s z1 z2 = some q → fr F_M_findLines s q) (hk34 : ∀ {s : ev_M} {z1 : Int32} {z2 : Int32} {z3 : Int32} {q : ev_M} , k34 s z1 z2 z3 = some q → fr F_M_findLines s q) {s : ev_M} {x1 : Int32} {x3 : Int32} {x4 : Int32} {q : ev_M} (h : fM_findLines_b101 k16 k34 s x1 x3 x4 = some q) : fr F_M_findLines s q := by
  have g : fr F_M_findLines s s := fr.rf
  exact g.tr ((fr_fM_findLines_b102 hk16 hk34 h))
theorem fr_fM_findLines_b70 {k16 : ev_M → Int32 → Int32 → Option ev_M} {k34 : ev_M → Int32 → Int32 → Int32 → Option ev_M} (hk16 : ∀ {s : ev_M} {z1 : Int32} {z2 : Int32} {q : ev_M} , k16 s z1 z2 = some q → fr F_M_findLines s q) (hk34 : ∀ {s : ev_M} {z1 : Int32} {z2 : Int32} {z3 : Int32} {q : ev_M} , k34 s z1 z2 z3 = some q → fr F_M_findLines s q) {s : ev_M} {x1 : Int32} {x3 : Int32} {x4 : Int32} {y0 : Int32} {q : ev_M} (h : fM_findLines_b70 k16 k34 s x1 x3 x4 y0 = some q) : fr F_M_findLines s q := by
  have g : fr F_M_findLines s s := fr.rf
  refine fr_if h (fun h => ?_) fun h => ?_
  · exact g.tr ((fr_fM_findLines_b101 hk16 hk34 h))
  · refine fr_if h (fun h => ?_) fun h => ?_
    · exact g.tr ((fr_fM_findLines_b96 hk16 hk34 h))
    · refine fr_bd1 h fun v1 hc h => ?_
      refine fr_bd1 h fun v2 hc h => ?_
      refine fr_if h (fun h => ?_) fun h => ?_
      · exact g.tr ((fr_fM_findLines_b96 hk16 hk34 h))
      · exact g.tr ((fr_fM_findLines_b101 hk16 hk34 h))
theorem fr_fM_findLines_b69 {k16 : ev_M → Int32 → Int32 → Option ev_M} {k34 : ev_M → Int32 → Int32 → Int32 → Option ev_M} (hk16 : ∀ {s : ev_M} {z1 : Int32} {z2 : Int32} {q : ev_M} , k16 s z1 z2 = some q → fr F_M_findLines s q) (hk34 : ∀ {s : ev_M} {z1 : Int32} {z2 : Int32} {z3 : Int32} {q : ev_M} , k34 s z1 z2 z3 = some q → fr F_M_findLines s q) {s : ev_M} {x1 : Int32} {x3 : Int32} {x4 : Int32} {q : ev_M} (h : fM_findLines_b69 k16 k34 s x1 x3 x4 = some q) : fr F_M_findLines s q := by
  have g : fr F_M_findLines s s := fr.rf
  exact g.tr ((fr_fM_findLines_b70 hk16 hk34 h))
theorem fr_fM_findLines_b135 {k16 : ev_M → Int32 → Int32 → Option ev_M} (hk16 : ∀ {s : ev_M} {z1 : Int32} {z2 : Int32} {q : ev_M} , k16 s z1 z2 = some q → fr F_M_findLines s q) {s : ev_M} {x1 : Int32} {x2 : Int32} {q : ev_M} (h : fM_findLines_b135 k16 s x1 x2 = some q) : fr F_M_findLines s q := by
  have g : fr F_M_findLines s s := fr.rf
  exact g.tr ((hk16 h))
theorem fr_fM_findLines_b119 {k16 : ev_M → Int32 → Int32 → Option ev_M} (hk16 : ∀ {s : ev_M} {z1 : Int32} {z2 : Int32} {q : ev_M} , k16 s z1 z2 = some q → fr F_M_findLines s q) {s : ev_M} {x1 : Int32} {x3 : Int32} {y0 : Int32} {q : ev_M} (h : fM_findLines_b119 k16 s x1 x3 y0 = some q) : fr F_M_findLines s q := by
  have g : fr F_M_findLines s s := fr.rf
  refine fr_if h (fun h => ?_) fun h => ?_
  · exact g.tr ((fr_fM_findLines_b135 hk16 h))
  · refine fr_bd1 h fun v3 hc h => ?_
    refine fr_bd1 h fun s4 hc h => ?_
    have gs4 := g.tr ((fr_fM_lay hc).mono (F := F_M_findLines) (by decide +kernel))
    exact gs4.tr ((fr_fM_findLines_b135 hk16 h))
theorem fr_fM_findLines_h34 {k16 : ev_M → Int32 → Int32 → Option ev_M} (hk16 : ∀ {s : ev_M} {z1 : Int32} {z2 : Int32} {q : ev_M} , k16 s z1 z2 = some q → fr F_M_findLines s q) : ∀ (n : Nat) {s : ev_M} {x1 : Int32} {x3 : Int32} {x4 : Int32} {q : ev_M} , fM_findLines_h34 k16 n s x1 x3 x4 = some q → fr F_M_findLines s q := by
  intro n
  induction n with
  | zero => intro s x1 x3 x4 q h; cases h
  | succ n ih =>
    intro s x1 x3 x4 q h
    have g : fr F_M_findLines s s := fr.rf
    refine fr_if h (fun h => ?_) fun h => ?_
    · refine fr_gd h fun c0 h => ?_
      refine fr_if h (fun h => ?_) fun h => ?_
      · refine fr_bd1 h fun v5 hc h => ?_
        refine fr_if h (fun h => ?_) fun h => ?_
        · exact g.tr ((fr_fM_findLines_b69 hk16 ih h))
        · exact g.tr ((fr_fM_findLines_b70 hk16 ih h))
      · exact g.tr ((fr_fM_findLines_b69 hk16 ih h))
    · refine fr_if h (fun h => ?_) fun h => ?_
      · exact g.tr ((fr_fM_findLines_b119 hk16 h))
      · exact g.tr ((fr_fM_findLines_b119 hk16 h))
theorem fr_fM_findLines_h16 : ∀ (n : Nat) {s : ev_M} {x1 : Int32} {x2 : Int32} {q : ev_M} , fM_findLines_h16 n s x1 x2 = some q → fr F_M_findLines s q := by
  intro n
  induction n with
  | zero => intro s x1 x2 q h; cases h
  | succ n ih =>
    intro s x1 x2 q h
    have g : fr F_M_findLines s s := fr.rf
    refine fr_if h (fun h => ?_) fun h => ?_
    · cases h; exact g
    · refine fr_if h (fun h => ?_) fun h => ?_
      · exact g.tr ((fr_fM_findLines_h34 ih 1048576 h))
      · cases h; exact g
theorem fr_fM_findLines {s : ev_M} {q : ev_M} (h : fM_findLines s = some q) : fr F_M_findLines s q := by
  have g : fr F_M_findLines s s := fr.rf
  refine fr_ltM h (Q := fr F_M_findLines s) (g.wI rfl) fun s6 gs6 h => ?_
  refine fr_ltM h (Q := fr F_M_findLines s) (gs6.wI rfl) fun s7 gs7 h => ?_
  exact gs7.tr ((fr_fM_findLines_h16 1048576 h))
def F_M_changes : List (Nat × (Nat × Nat)) := [(658, 658, 0), (659, 659, 0)]
theorem fr_fM_changes_b239 {k99 : ev_M → Int32 → Int32 → Int32 → Int32 → Option (ev_M × Int32)} {k146 : ev_M → Int32 → Int32 → Int32 → Int32 → Int32 → Int32 → Int32 → Option (ev_M × Int32)} (hk99 : ∀ {s : ev_M} {z1 : Int32} {z2 : Int32} {z3 : Int32} {z4 : Int32} {q : ev_M × Int32} , k99 s z1 z2 z3 z4 = some q → fr F_M_changes s q.1) (hk146 : ∀ {s : ev_M} {z1 : Int32} {z2 : Int32} {z3 : Int32} {z4 : Int32} {z5 : Int32} {z6 : Int32} {z7 : Int32} {q : ev_M × Int32} , k146 s z1 z2 z3 z4 z5 z6 z7 = some q → fr F_M_changes s q.1) {s : ev_M} {x3 : Int32} {x4 : Int32} {x5 : Int32} {x8 : Int32} {x9 : Int32} {x11 : Int32} {y0 : Int32} {q : ev_M × Int32} (h : fM_changes_b239 k99 k146 s x3 x4 x5 x8 x9 x11 y0 = some q) : fr F_M_changes s q.1 := by
  have g : fr F_M_changes s s := fr.rf
  refine fr_gd h fun c0 h => ?_
  refine fr_ltI h fun v1 h => ?_
  refine fr_gd h fun c1 h => ?_
  refine fr_ltM h (Q := fr F_M_changes s) (g.wI rfl) fun s2 gs2 h => ?_
  exact gs2.tr ((hk146 h))
theorem fr_fM_changes_b205 {k99 : ev_M → Int32 → Int32 → Int32 → Int32 → Option (ev_M × Int32)} {k146 : ev_M → Int32 → Int32 → Int32 → Int32 → Int32 → Int32 → Int32 → Option (ev_M × Int32)} (hk99 : ∀ {s : ev_M} {z1 : Int32} {z2 : Int32} {z3 : Int32} {z4 : Int32} {q : ev_M × Int32} , k99 s z1 z2 z3 z4 = some q → fr F_M_changes s q.1) (hk146 : ∀ {s : ev_M} {z1 : Int32} {z2 : Int32} {z3 : Int32} {z4 : Int32} {z5 : Int32} {z6 : Int32} {z7 : Int32} {q : ev_M × Int32} , k146 s z1 z2 z3 z4 z5 z6 z7 = some q → fr F_M_changes s q.1) {s : ev_M} {x3 : Int32} {x4 : Int32} {x5 : Int32} {x8 : Int32} {x9 : Int32} {x11 : Int32} {y0 : Int32} {q : ev_M × Int32} (h : fM_changes_b205 k99 k146 s x3 x4 x5 x8 x9 x11 y0 = some q) : fr F_M_changes s q.1 := by
  have g : fr F_M_changes s s := fr.rf
  refine fr_gd h fun c0 h => ?_
  refine fr_if h (fun h => ?_) fun h => ?_
  · refine fr_gd h fun c1 h => ?_
    exact g.tr ((fr_fM_changes_b239 hk99 hk146 h))
  · exact g.tr ((fr_fM_changes_b239 hk99 hk146 h))
theorem fr_fM_changes_b174 {k99 : ev_M → Int32 → Int32 → Int32 → Int32 → Option (ev_M × Int32)} {k146 : ev_M → Int32 → Int32 → Int32 → Int32 → Int32 → Int32 → Int32 → Option (ev_M × Int32)} (hk99 : ∀ {s : ev_M} {z1 : Int32} {z2 : Int32} {z3 : Int32} {z4 : Int32} {q : ev_M × Int32} , k99 s z1 z2 z3 z4 = some q → fr F_M_changes s q.1) (hk146 : ∀ {s : ev_M} {z1 : Int32} {z2 : Int32} {z3 : Int32} {z4 : Int32} {z5 : Int32} {z6 : Int32} {z7 : Int32} {q : ev_M × Int32} , k146 s z1 z2 z3 z4 z5 z6 z7 = some q → fr F_M_changes s q.1) {s : ev_M} {x3 : Int32} {x4 : Int32} {x5 : Int32} {x8 : Int32} {x9 : Int32} {x11 : Int32} {y0 : Int32} {y1 : Int32} {q : ev_M × Int32} (h : fM_changes_b174 k99 k146 s x3 x4 x5 x8 x9 x11 y0 y1 = some q) : fr F_M_changes s q.1 := by
  have g : fr F_M_changes s s := fr.rf
  refine fr_ltI h fun v3 h => ?_
  refine fr_gd h fun c0 h => ?_
  refine fr_if h (fun h => ?_) fun h => ?_
  · refine fr_gd h fun c1 h => ?_
    exact g.tr ((fr_fM_changes_b205 hk99 hk146 h))
  · exact g.tr ((fr_fM_changes_b205 hk99 hk146 h))
theorem fr_fM_changes_h146 {k99 : ev_M → Int32 → Int32 → Int32 → Int32 → Option (ev_M × Int32)} (hk99 : ∀ {s : ev_M} {z1 : Int32} {z2 : Int32} {z3 : Int32} {z4 : Int32} {q : ev_M × Int32} , k99 s z1 z2 z3 z4 = some q → fr F_M_changes s q.1) : ∀ (n : Nat) {s : ev_M} {x3 : Int32} {x4 : Int32} {x5 : Int32} {x8 : Int32} {x9 : Int32} {x10 : Int32} {x11 : Int32} {q : ev_M × Int32} , fM_changes_h146 k99 n s x3 x4 x5 x8 x9 x10 x11 = some q → fr F_M_changes s q.1 := by
  intro n
  induction n with
  | zero => intro s x3 x4 x5 x8 x9 x10 x11 q h; cases h
  | succ n ih =>
    intro s x3 x4 x5 x8 x9 x10 x11 q h
    have g : fr F_M_changes s s := fr.rf
    refine fr_if h (fun h => ?_) fun h => ?_
    · refine fr_gd h fun c0 h => ?_
      refine fr_if h (fun h => ?_) fun h => ?_
      · exact g.tr ((fr_fM_changes_b174 hk99 ih h))
      · exact g.tr ((fr_fM_changes_b174 hk99 ih h))
    · exact g.tr ((hk99 h))
theorem fr_fM_changes_h99 : ∀ (n : Nat) {s : ev_M} {x3 : Int32} {x4 : Int32} {x5 : Int32} {x8 : Int32} {q : ev_M × Int32} , fM_changes_h99 n s x3 x4 x5 x8 = some q → fr F_M_changes s q.1 := by
  intro n
  induction n with
  | zero => intro s x3 x4 x5 x8 q h; cases h
  | succ n ih =>
    intro s x3 x4 x5 x8 q h
    have g : fr F_M_changes s s := fr.rf
    refine fr_if h (fun h => ?_) fun h => ?_
    · refine fr_gd h fun c0 h => ?_
      refine fr_bd1 h fun v4 hc h => ?_
      refine fr_ltI h fun v5 h => ?_
      refine fr_ltM h (Q := fr F_M_changes s) (g.wI rfl) fun s6 gs6 h => ?_
      exact gs6.tr ((fr_fM_changes_h146 ih 1048576 h))
    · refine fr_gd h fun c0 h => ?_
      cases h; exact g
theorem fr_fM_changes_h74 : ∀ (n : Nat) {s : ev_M} {x3 : Int32} {x4 : Int32} {x5 : Int32} {x8 : Int32} {q : ev_M × Int32} , fM_changes_h74 n s x3 x4 x5 x8 = some q → fr F_M_changes s q.1 := by
  intro n
  induction n with
  | zero => intro s x3 x4 x5 x8 q h; cases h
  | succ n ih =>
    intro s x3 x4 x5 x8 q h
    have g : fr F_M_changes s s := fr.rf
    refine fr_if h (fun h => ?_) fun h => ?_
    · refine fr_gd h fun c0 h => ?_
      refine fr_ltM h (Q := fr F_M_changes s) (g.wI rfl) fun s7 gs7 h => ?_
      exact gs7.tr ((ih h))
    · exact g.tr ((fr_fM_changes_h99 1048576 h))
theorem fr_fM_changes_h36 : ∀ (n : Nat) {s : ev_M} {x3 : Int32} {x4 : Int32} {x5 : Int32} {x6 : Int64} {x8 : Int32} {q : ev_M × Int32} , fM_changes_h36 n s x3 x4 x5 x6 x8 = some q → fr F_M_changes s q.1 := by
  intro n
  induction n with
  | zero => intro s x3 x4 x5 x6 x8 q h; cases h
  | succ n ih =>
    intro s x3 x4 x5 x6 x8 q h
    have g : fr F_M_changes s s := fr.rf
    refine fr_if h (fun h => ?_) fun h => ?_
    · exact g.tr ((fr_fM_changes_h74 1048576 h))
    · refine fr_dv h fun h => ?_
      refine fr_gd h fun c0 h => ?_
      refine fr_ltM h (Q := fr F_M_changes s) (g.wI rfl) fun s8 gs8 h => ?_
      refine fr_dv h fun h => ?_
      refine fr_ltL h fun v9 h => ?_
      exact gs8.tr ((ih h))
theorem fr_fM_changes_h6 : ∀ (n : Nat) {s : ev_M} {x1 : Int64} {x3 : Int32} {x4 : Int32} {x5 : Int32} {x6 : Int64} {q : ev_M × Int32} , fM_changes_h6 n s x1 x3 x4 x5 x6 = some q → fr F_M_changes s q.1 := by
  intro n
  induction n with
  | zero => intro s x1 x3 x4 x5 x6 q h; cases h
  | succ n ih =>
    intro s x1 x3 x4 x5 x6 q h
    have g : fr F_M_changes s s := fr.rf
    refine fr_if h (fun h => ?_) fun h => ?_
    · refine fr_ltI h fun v10 h => ?_
      exact g.tr ((fr_fM_changes_h36 1048576 h))
    · refine fr_dv h fun h => ?_
      refine fr_ltL h fun v11 h => ?_
      exact g.tr ((ih h))
theorem fr_fM_changes {s : ev_M} {a1 : Int64} {a2 : Int32} {a3 : Int32} {q : ev_M × Int32} (h : fM_changes s a1 a2 a3 = some q) : fr F_M_changes s q.1 := by
  have g : fr F_M_changes s s := fr.rf
  exact g.tr ((fr_fM_changes_h6 1048576 h))
def F_M_nearestStreet : List (Nat × (Nat × Nat)) := [(658, 658, 0), (659, 659, 0)]
theorem fr_fM_nearestStreet_b105 {k12 : ev_M → Int32 → Int32 → Int32 → Int32 → Int32 → Int32 → Int32 → Option (ev_M × Int32)} (hk12 : ∀ {s : ev_M} {z1 : Int32} {z2 : Int32} {z3 : Int32} {z4 : Int32} {z5 : Int32} {z6 : Int32} {z7 : Int32} {q : ev_M × Int32} , k12 s z1 z2 z3 z4 z5 z6 z7 = some q → fr F_M_nearestStreet s q.1) {s : ev_M} {x1 : Int32} {x2 : Int32} {x3 : Int32} {x4 : Int32} {x5 : Int32} {x6 : Int32} {x7 : Int32} {q : ev_M × Int32} (h : fM_nearestStreet_b105 k12 s x1 x2 x3 x4 x5 x6 x7 = some q) : fr F_M_nearestStreet s q.1 := by
  have g : fr F_M_nearestStreet s s := fr.rf
  exact g.tr ((hk12 h))
theorem fr_fM_nearestStreet_b103 {k12 : ev_M → Int32 → Int32 → Int32 → Int32 → Int32 → Int32 → Int32 → Option (ev_M × Int32)} (hk12 : ∀ {s : ev_M} {z1 : Int32} {z2 : Int32} {z3 : Int32} {z4 : Int32} {z5 : Int32} {z6 : Int32} {z7 : Int32} {q : ev_M × Int32} , k12 s z1 z2 z3 z4 z5 z6 z7 = some q → fr F_M_nearestStreet s q.1) {s : ev_M} {x1 : Int32} {x2 : Int32} {x3 : Int32} {x5 : Int32} {x6 : Int32} {x7 : Int32} {y0 : Int32} {q : ev_M × Int32} (h : fM_nearestStreet_b103 k12 s x1 x2 x3 x5 x6 x7 y0 = some q) : fr F_M_nearestStreet s q.1 := by
  have g : fr F_M_nearestStreet s s := fr.rf
  exact g.tr ((fr_fM_nearestStreet_b105 hk12 h))
theorem fr_fM_nearestStreet_b87 {k12 : ev_M → Int32 → Int32 → Int32 → Int32 → Int32 → Int32 → Int32 → Option (ev_M × Int32)} (hk12 : ∀ {s : ev_M} {z1 : Int32} {z2 : Int32} {z3 : Int32} {z4 : Int32} {z5 : Int32} {z6 : Int32} {z7 : Int32} {q : ev_M × Int32} , k12 s z1 z2 z3 z4 z5 z6 z7 = some q → fr F_M_nearestStreet s q.1) {s : ev_M} {x1 : Int32} {x2 : Int32} {x3 : Int32} {x4 : Int32} {x6 : Int32} {x7 : Int32} {x8 : Int32} {y0 : Int32} {q : ev_M × Int32} (h : fM_nearestStreet_b87 k12 s x1 x2 x3 x4 x6 x7 x8 y0 = some q) : fr F_M_nearestStreet s q.1 := by
  have g : fr F_M_nearestStreet s s := fr.rf
  refine fr_if h (fun h => ?_) fun h => ?_
  · exact g.tr ((fr_fM_nearestStreet_b103 hk12 h))
  · exact g.tr ((fr_fM_nearestStreet_b103 hk12 h))
theorem fr_fM_nearestStreet_b71 {k12 : ev_M → Int32 → Int32 → Int32 → Int32 → Int32 → Int32 → Int32 → Option (ev_M × Int32)} (hk12 : ∀ {s : ev_M} {z1 : Int32} {z2 : Int32} {z3 : Int32} {z4 : Int32} {z5 : Int32} {z6 : Int32} {z7 : Int32} {q : ev_M × Int32} , k12 s z1 z2 z3 z4 z5 z6 z7 = some q → fr F_M_nearestStreet s q.1) {s : ev_M} {x1 : Int32} {x2 : Int32} {x3 : Int32} {x4 : Int32} {x5 : Int32} {x7 : Int32} {x8 : Int32} {y0 : Int32} {q : ev_M × Int32} (h : fM_nearestStreet_b71 k12 s x1 x2 x3 x4 x5 x7 x8 y0 = some q) : fr F_M_nearestStreet s q.1 := by
  have g : fr F_M_nearestStreet s s := fr.rf
  refine fr_if h (fun h => ?_) fun h => ?_
  · exact g.tr ((fr_fM_nearestStreet_b87 hk12 h))
  · exact g.tr ((fr_fM_nearestStreet_b87 hk12 h))
theorem fr_fM_nearestStreet_b66 {k12 : ev_M → Int32 → Int32 → Int32 → Int32 → Int32 → Int32 → Int32 → Option (ev_M × Int32)} (hk12 : ∀ {s : ev_M} {z1 : Int32} {z2 : Int32} {z3 : Int32} {z4 : Int32} {z5 : Int32} {z6 : Int32} {z7 : Int32} {q : ev_M × Int32} , k12 s z1 z2 z3 z4 z5 z6 z7 = some q → fr F_M_nearestStreet s q.1) {s : ev_M} {x1 : Int32} {x2 : Int32} {x3 : Int32} {x4 : Int32} {x5 : Int32} {x7 : Int32} {x8 : Int32} {q : ev_M × Int32} (h : fM_nearestStreet_b66 k12 s x1 x2 x3 x4 x5 x7 x8 = some q) : fr F_M_nearestStreet s q.1 := by
  have g : fr F_M_nearestStreet s s := fr.rf
  exact g.tr ((fr_fM_nearestStreet_b71 hk12 h))
theorem fr_fM_nearestStreet_b70 {k12 : ev_M → Int32 → Int32 → Int32 → Int32 → Int32 → Int32 → Int32 → Option (ev_M × Int32)} (hk12 : ∀ {s : ev_M} {z1 : Int32} {z2 : Int32} {z3 : Int32} {z4 : Int32} {z5 : Int32} {z6 : Int32} {z7 : Int32} {q : ev_M × Int32} , k12 s z1 z2 z3 z4 z5 z6 z7 = some q → fr F_M_nearestStreet s q.1) {s : ev_M} {x1 : Int32} {x2 : Int32} {x3 : Int32} {x4 : Int32} {x5 : Int32} {x7 : Int32} {x8 : Int32} {q : ev_M × Int32} (h : fM_nearestStreet_b70 k12 s x1 x2 x3 x4 x5 x7 x8 = some q) : fr F_M_nearestStreet s q.1 := by
  have g : fr F_M_nearestStreet s s := fr.rf
  exact g.tr ((fr_fM_nearestStreet_b71 hk12 h))
theorem fr_fM_nearestStreet_h12 : ∀ (n : Nat) {s : ev_M} {x1 : Int32} {x2 : Int32} {x3 : Int32} {x4 : Int32} {x5 : Int32} {x6 : Int32} {x7 : Int32} {q : ev_M × Int32} , fM_nearestStreet_h12 n s x1 x2 x3 x4 x5 x6 x7 = some q → fr F_M_nearestStreet s q.1 := by
  intro n
  induction n with
  | zero => intro s x1 x2 x3 x4 x5 x6 x7 q h; cases h
  | succ n ih =>
    intro s x1 x2 x3 x4 x5 x6 x7 q h
    have g : fr F_M_nearestStreet s s := fr.rf
    refine fr_if h (fun h => ?_) fun h => ?_
    · refine fr_gd h fun c0 h => ?_
      refine fr_if h (fun h => ?_) fun h => ?_
      · refine fr_gd h fun c1 h => ?_
        refine fr_bd2 h fun s1 v2 hc h => ?_
        have gs1 : fr F_M_nearestStreet s s1 := g.tr ((fr_fM_changes hc).mono (F := F_M_nearestStreet) (by decide +kernel))
        refine fr_if h (fun h => ?_) fun h => ?_
        · exact gs1.tr ((fr_fM_nearestStreet_b66 ih h))
        · refine fr_if h (fun h => ?_) fun h => ?_
          · exact gs1.tr ((fr_fM_nearestStreet_b70 ih h))
          · refine fr_if h (fun h => ?_) fun h => ?_
            · exact gs1.tr ((fr_fM_nearestStreet_b70 ih h))
            · exact gs1.tr ((fr_fM_nearestStreet_b66 ih h))
      · exact g.tr ((fr_fM_nearestStreet_b105 ih h))
    · refine fr_if h (fun h => ?_) fun h => ?_
      · cases h; exact g
      · cases h; exact g
theorem fr_fM_nearestStreet {s : ev_M} {a1 : Int32} {a2 : Int32} {a3 : Int32} {q : ev_M × Int32} (h : fM_nearestStreet s a1 a2 a3 = some q) : fr F_M_nearestStreet s q.1 := by
  have g : fr F_M_nearestStreet s s := fr.rf
  exact g.tr ((fr_fM_nearestStreet_h12 1048576 h))
def F_M_readAddress : List (Nat × (Nat × Nat)) := [(549, 549, 51), (658, 658, 0), (659, 659, 0)]
theorem fr_fM_readAddress_b143 {s : ev_M} {x4 : Int32} {x5 : Int32} {x6 : Int32} {y0 : Int32} {q : ev_M × Int32} (h : fM_readAddress_b143 s x4 x5 x6 y0 = some q) : fr F_M_readAddress s q.1 := by
  have g : fr F_M_readAddress s s := fr.rf
  refine fr_if h (fun h => ?_) fun h => ?_
  · cases h; exact g
  · refine fr_bd2 h fun s1 v2 hc h => ?_
    have gs1 : fr F_M_readAddress s s1 := g.tr ((fr_fM_nearestStreet hc).mono (F := F_M_readAddress) (by decide +kernel))
    refine fr_if h (fun h => ?_) fun h => ?_
    · cases h; exact gs1
    · refine fr_bd1 h fun v3 hc h => ?_
      refine fr_ltM h (Q := fr F_M_readAddress s) (gs1.wI rfl) fun s4 gs4 h => ?_
      refine fr_if h (fun h => ?_) fun h => ?_
      · cases h; exact gs4
      · cases h; exact gs4
theorem fr_fM_readAddress_h107 : ∀ (n : Nat) {s : ev_M} {x1 : Int32} {x4 : Int32} {x5 : Int32} {x6 : Int32} {q : ev_M × Int32} , fM_readAddress_h107 n s x1 x4 x5 x6 = some q → fr F_M_readAddress s q.1 := by
  intro n
  induction n with
  | zero => intro s x1 x4 x5 x6 q h; cases h
  | succ n ih =>
    intro s x1 x4 x5 x6 q h
    have g : fr F_M_readAddress s s := fr.rf
    refine fr_bd1 h fun v5 hc h => ?_
    refine fr_if h (fun h => ?_) fun h => ?_
    · exact g.tr ((ih h))
    · refine fr_if h (fun h => ?_) fun h => ?_
      · exact g.tr ((fr_fM_readAddress_b143 h))
      · refine fr_bd1 h fun v6 hc h => ?_
        exact g.tr ((fr_fM_readAddress_b143 h))
theorem fr_fM_readAddress_b59 {s : ev_M} {x1 : Int32} {x2 : Int32} {q : ev_M × Int32} (h : fM_readAddress_b59 s x1 x2 = some q) : fr F_M_readAddress s q.1 := by
  have g : fr F_M_readAddress s s := fr.rf
  refine fr_bd1 h fun v7 hc h => ?_
  refine fr_if h (fun h => ?_) fun h => ?_
  · cases h; exact g
  · refine fr_bd1 h fun v8 hc h => ?_
    refine fr_if h (fun h => ?_) fun h => ?_
    · cases h; exact g
    · refine fr_gd h fun c0 h => ?_
      refine fr_ltI h fun v9 h => ?_
      refine fr_ltI h fun v10 h => ?_
      exact g.tr ((fr_fM_readAddress_h107 1048576 h))
theorem fr_fM_readAddress_h31 : ∀ (n : Nat) {s : ev_M} {x1 : Int32} {x2 : Int32} {q : ev_M × Int32} , fM_readAddress_h31 n s x1 x2 = some q → fr F_M_readAddress s q.1 := by
  intro n
  induction n with
  | zero => intro s x1 x2 q h; cases h
  | succ n ih =>
    intro s x1 x2 q h
    have g : fr F_M_readAddress s s := fr.rf
    refine fr_gd h fun c0 h => ?_
    refine fr_if h (fun h => ?_) fun h => ?_
    · refine fr_bd1 h fun v11 hc h => ?_
      refine fr_if h (fun h => ?_) fun h => ?_
      · exact g.tr ((ih h))
      · exact g.tr ((fr_fM_readAddress_b59 h))
    · exact g.tr ((fr_fM_readAddress_b59 h))
theorem fr_fM_readAddress {s : ev_M} {q : ev_M × Int32} (h : fM_readAddress s = some q) : fr F_M_readAddress s q.1 := by
  have g : fr F_M_readAddress s s := fr.rf
  refine fr_ltM h (Q := fr F_M_readAddress s) (g.wI rfl) fun s12 gs12 h => ?_
  refine fr_if h (fun h => ?_) fun h => ?_
  · cases h; exact gs12
  · refine fr_gd h fun c0 h => ?_
    refine fr_ltI h fun v13 h => ?_
    refine fr_ltI h fun v14 h => ?_
    exact gs12.tr ((fr_fM_readAddress_h31 1048576 h))
def F_M_findDark : List (Nat × (Nat × Nat)) := [(649, 649, 0), (650, 650, 0)]
theorem fr_fM_findDark_b53 {k8 : ev_M → Int32 → Int32 → Int32 → Option ev_M} (hk8 : ∀ {s : ev_M} {z1 : Int32} {z2 : Int32} {z3 : Int32} {q : ev_M} , k8 s z1 z2 z3 = some q → fr F_M_findDark s q) {s : ev_M} {x1 : Int32} {x3 : Int32} {y0 : Int32} {q : ev_M} (h : fM_findDark_b53 k8 s x1 x3 y0 = some q) : fr F_M_findDark s q := by
  have g : fr F_M_findDark s s := fr.rf
  exact g.tr ((hk8 h))
theorem fr_fM_findDark_b40 {k8 : ev_M → Int32 → Int32 → Int32 → Option ev_M} (hk8 : ∀ {s : ev_M} {z1 : Int32} {z2 : Int32} {z3 : Int32} {q : ev_M} , k8 s z1 z2 z3 = some q → fr F_M_findDark s q) {s : ev_M} {x2 : Int32} {x3 : Int32} {x4 : Int32} {y0 : Int32} {q : ev_M} (h : fM_findDark_b40 k8 s x2 x3 x4 y0 = some q) : fr F_M_findDark s q := by
  have g : fr F_M_findDark s s := fr.rf
  refine fr_if h (fun h => ?_) fun h => ?_
  · exact g.tr ((fr_fM_findDark_b53 hk8 h))
  · exact g.tr ((fr_fM_findDark_b53 hk8 h))
theorem fr_fM_findDark_b126 {k62 : ev_M → Int32 → Int32 → Int32 → Option ev_M} (hk62 : ∀ {s : ev_M} {z1 : Int32} {z2 : Int32} {z3 : Int32} {q : ev_M} , k62 s z1 z2 z3 = some q → fr F_M_findDark s q) {s : ev_M} {x1 : Int32} {x2 : Int32} {x3 : Int32} {y1 : Int32} {y2 : Int32} {q : ev_M} (h : fM_findDark_b126 k62 s x1 x2 x3 y1 y2 = some q) : fr F_M_findDark s q := by
  have g : fr F_M_findDark s s := fr.rf
  refine fr_gd h fun c0 h => ?_
  refine fr_ltM h (Q := fr F_M_findDark s) (g.wI rfl) fun s1 gs1 h => ?_
  exact gs1.tr ((hk62 h))
theorem fr_fM_findDark_b106 {k62 : ev_M → Int32 → Int32 → Int32 → Option ev_M} (hk62 : ∀ {s : ev_M} {z1 : Int32} {z2 : Int32} {z3 : Int32} {q : ev_M} , k62 s z1 z2 z3 = some q → fr F_M_findDark s q) {s : ev_M} {x1 : Int32} {x2 : Int32} {x3 : Int32} {y1 : Int32} {y2 : Int32} {q : ev_M} (h : fM_findDark_b106 k62 s x1 x2 x3 y1 y2 = some q) : fr F_M_findDark s q := by
  have g : fr F_M_findDark s s := fr.rf
  refine fr_gd h fun c0 h => ?_
  refine fr_ltM h (Q := fr F_M_findDark s) (g.wI rfl) fun s2 gs2 h => ?_
  refine fr_gd h fun c1 h => ?_
  refine fr_if h (fun h => ?_) fun h => ?_
  · exact gs2.tr ((fr_fM_findDark_b126 hk62 h))
  · exact gs2.tr ((fr_fM_findDark_b126 hk62 h))
theorem fr_fM_findDark_b105 {k62 : ev_M → Int32 → Int32 → Int32 → Option ev_M} (hk62 : ∀ {s : ev_M} {z1 : Int32} {z2 : Int32} {z3 : Int32} {q : ev_M} , k62 s z1 z2 z3 = some q → fr F_M_findDark s q) {s : ev_M} {x1 : Int32} {x2 : Int32} {x3 : Int32} {y1 : Int32} {q : ev_M} (h : fM_findDark_b105 k62 s x1 x2 x3 y1 = some q) : fr F_M_findDark s q := by
  have g : fr F_M_findDark s s := fr.rf
  exact g.tr ((fr_fM_findDark_b106 hk62 h))
theorem fr_fM_findDark_h62 : ∀ (n : Nat) {s : ev_M} {x1 : Int32} {x2 : Int32} {x3 : Int32} {q : ev_M} , fM_findDark_h62 n s x1 x2 x3 = some q → fr F_M_findDark s q := by
  intro n
  induction n with
  | zero => intro s x1 x2 x3 q h; cases h
  | succ n ih =>
    intro s x1 x2 x3 q h
    have g : fr F_M_findDark s s := fr.rf
    refine fr_if h (fun h => ?_) fun h => ?_
    · refine fr_if h (fun h => ?_) fun h => ?_
      · exact g.tr ((fr_fM_findDark_b105 ih h))
      · refine fr_gd h fun c0 h => ?_
        refine fr_if h (fun h => ?_) fun h => ?_
        · exact g.tr ((fr_fM_findDark_b106 ih h))
        · exact g.tr ((fr_fM_findDark_b105 ih h))
    · cases h; exact g
theorem fr_fM_findDark_h8 : ∀ (n : Nat) {s : ev_M} {x1 : Int32} {x2 : Int32} {x3 : Int32} {q : ev_M} , fM_findDark_h8 n s x1 x2 x3 = some q → fr F_M_findDark s q := by
  intro n
  induction n with
  | zero => intro s x1 x2 x3 q h; cases h
  | succ n ih =>
    intro s x1 x2 x3 q h
    have g : fr F_M_findDark s s := fr.rf
    refine fr_if h (fun h => ?_) fun h => ?_
    · refine fr_gd h fun c0 h => ?_
      refine fr_ltI h fun v3 h => ?_
      refine fr_if h (fun h => ?_) fun h => ?_
      · exact g.tr ((fr_fM_findDark_b40 ih h))
      · exact g.tr ((fr_fM_findDark_b40 ih h))
    · exact g.tr ((fr_fM_findDark_h62 1048576 h))
theorem fr_fM_findDark {s : ev_M} {q : ev_M} (h : fM_findDark s = some q) : fr F_M_findDark s q := by
  have g : fr F_M_findDark s s := fr.rf
  exact g.tr ((fr_fM_findDark_h8 1048576 h))
def F_M_doSheet : List (Nat × (Nat × Nat)) := [(549, 549, 16), (549, 549, 49), (549, 549, 50), (549, 549, 51), (549, 549, 52), (549, 549, 147), (549, 549, 153), (549, 549, 154), (577, 577, 0), (578, 578, 0), (579, 579, 0), (580, 580, 0), (581, 581, 0), (582, 582, 0), (649, 649, 0), (650, 650, 0), (651, 651, 0), (652, 652, 0), (653, 653, 0), (654, 654, 0), (655, 655, 0), (656, 656, 0), (658, 658, 0), (659, 659, 0)]
theorem fr_fM_doSheet_b28 {s : ev_M} {q : ev_M × Int32} (h : fM_doSheet_b28 s = some q) : fr F_M_doSheet s q.1 := by
  have g : fr F_M_doSheet s s := fr.rf
  refine fr_bd2 h fun s1 v2 hc h => ?_
  have gs1 : fr F_M_doSheet s s1 := g.tr ((fr_fM_no hc).mono (F := F_M_doSheet) (by decide +kernel))
  cases h; exact gs1
theorem fr_fM_doSheet_b97 {k75 : ev_M → Int32 → Option (ev_M × Int32)} (hk75 : ∀ {s : ev_M} {z1 : Int32} {q : ev_M × Int32} , k75 s z1 = some q → fr F_M_doSheet s q.1) {s : ev_M} {x2 : Int32} {q : ev_M × Int32} (h : fM_doSheet_b97 k75 s x2 = some q) : fr F_M_doSheet s q.1 := by
  have g : fr F_M_doSheet s s := fr.rf
  exact g.tr ((hk75 h))
theorem fr_fM_doSheet_h75 : ∀ (n : Nat) {s : ev_M} {x2 : Int32} {q : ev_M × Int32} , fM_doSheet_h75 n s x2 = some q → fr F_M_doSheet s q.1 := by
  intro n
  induction n with
  | zero => intro s x2 q h; cases h
  | succ n ih =>
    intro s x2 q h
    have g : fr F_M_doSheet s s := fr.rf
    refine fr_if h (fun h => ?_) fun h => ?_
    · refine fr_gd h fun c0 h => ?_
      refine fr_if h (fun h => ?_) fun h => ?_
      · refine fr_bd1 h fun s3 hc h => ?_
        have gs3 := g.tr ((fr_fM_part hc).mono (F := F_M_doSheet) (by decide +kernel))
        exact gs3.tr ((fr_fM_doSheet_b97 ih h))
      · exact g.tr ((fr_fM_doSheet_b97 ih h))
    · refine fr_bd1 h fun s4 hc h => ?_
      have gs4 := g.tr ((fr_fM_hangTogether hc).mono (F := F_M_doSheet) (by decide +kernel))
      refine fr_bd1 h fun s5 hc h => ?_
      have gs5 := gs4.tr ((fr_fM_findLines hc).mono (F := F_M_doSheet) (by decide +kernel))
      refine fr_ltM h (Q := fr F_M_doSheet s) (gs5.wI rfl) fun s6 gs6 h => ?_
      refine fr_bd2 h fun s7 v8 hc h => ?_
      have gs7 : fr F_M_doSheet s s7 := gs6.tr ((fr_fM_readAddress hc).mono (F := F_M_doSheet) (by decide +kernel))
      refine fr_ltM h (Q := fr F_M_doSheet s) (gs7.wI rfl) fun s9 gs9 h => ?_
      cases h; exact gs9
theorem fr_fM_doSheet {s : ev_M} {a1 : Int32} {q : ev_M × Int32} (h : fM_doSheet s a1 = some q) : fr F_M_doSheet s q.1 := by
  have g : fr F_M_doSheet s s := fr.rf
  refine fr_bd1 h fun v10 hc h => ?_
  refine fr_if h (fun h => ?_) fun h => ?_
  · exact g.tr ((fr_fM_doSheet_b28 h))
  · refine fr_if h (fun h => ?_) fun h => ?_
    · exact g.tr ((fr_fM_doSheet_b28 h))
    · refine fr_dv h fun h => ?_
      refine fr_if h (fun h => ?_) fun h => ?_
      · refine fr_bd1 h fun v11 hc h => ?_
        refine fr_if h (fun h => ?_) fun h => ?_
        · refine fr_ltM h (Q := fr F_M_doSheet s) (g.wI rfl) fun s12 gs12 h => ?_
          refine fr_dv h fun h => ?_
          refine fr_ltM h (Q := fr F_M_doSheet s) (gs12.wI rfl) fun s13 gs13 h => ?_
          refine fr_ltM h (Q := fr F_M_doSheet s) (gs13.wI rfl) fun s14 gs14 h => ?_
          refine fr_bd1 h fun s15 hc h => ?_
          have gs15 := gs14.tr ((fr_fM_findDark hc).mono (F := F_M_doSheet) (by decide +kernel))
          exact gs15.tr ((fr_fM_doSheet_h75 1048576 h))
        · refine fr_bd2 h fun s16 v17 hc h => ?_
          have gs16 : fr F_M_doSheet s s16 := g.tr ((fr_fM_no hc).mono (F := F_M_doSheet) (by decide +kernel))
          cases h; exact gs16
      · exact g.tr ((fr_fM_doSheet_b28 h))
def F_M_leaves : List (Nat × (Nat × Nat)) := [(593, 593, 0), (595, 595, 0), (597, 597, 0), (598, 598, 0), (602, 602, 0)]
theorem fr_fM_leaves {s : ev_M} {a1 : Int32} {q : ev_M} (h : fM_leaves s a1 = some q) : fr F_M_leaves s q := by
  have g : fr F_M_leaves s s := fr.rf
  refine fr_gd h fun c0 h => ?_
  refine fr_ltM h (Q := fr F_M_leaves s) (g.wI rfl) fun s1 gs1 h => ?_
  refine fr_gd h fun c1 h => ?_
  refine fr_ltM h (Q := fr F_M_leaves s) (gs1.wI rfl) fun s2 gs2 h => ?_
  refine fr_gd h fun c2 h => ?_
  refine fr_ltM h (Q := fr F_M_leaves s) (gs2.wI rfl) fun s3 gs3 h => ?_
  refine fr_gd h fun c3 h => ?_
  refine fr_ltM h (Q := fr F_M_leaves s) (gs3.wI rfl) fun s4 gs4 h => ?_
  refine fr_gd h fun c4 h => ?_
  refine fr_ltM h (Q := fr F_M_leaves s) (gs4.wI rfl) fun s5 gs5 h => ?_
  cases h; exact gs5
def F_M_event : List (Nat × (Nat × Nat)) := [(549, 549, 130), (640, 640, 0), (641, 641, 0), (642, 642, 0), (643, 643, 0)]
theorem fr_fM_event_b51 {s : ev_M} {q : ev_M} (h : fM_event_b51 s = some q) : fr F_M_event s q := by
  have g : fr F_M_event s s := fr.rf
  refine fr_ltM h (Q := fr F_M_event s) (g.wI rfl) fun s1 gs1 h => ?_
  cases h; exact gs1
theorem fr_fM_event {s : ev_M} {a1 : Int32} {a2 : Int32} {a3 : Int32} {a4 : Int32} {q : ev_M} (h : fM_event s a1 a2 a3 a4 = some q) : fr F_M_event s q := by
  have g : fr F_M_event s s := fr.rf
  refine fr_if h (fun h => ?_) fun h => ?_
  · refine fr_gd h fun c0 h => ?_
    refine fr_ltM h (Q := fr F_M_event s) (g.wI rfl) fun s2 gs2 h => ?_
    refine fr_gd h fun c1 h => ?_
    refine fr_ltM h (Q := fr F_M_event s) (gs2.wI rfl) fun s3 gs3 h => ?_
    refine fr_gd h fun c2 h => ?_
    refine fr_ltM h (Q := fr F_M_event s) (gs3.wI rfl) fun s4 gs4 h => ?_
    refine fr_gd h fun c3 h => ?_
    refine fr_ltM h (Q := fr F_M_event s) (gs4.wI rfl) fun s5 gs5 h => ?_
    exact gs5.tr ((fr_fM_event_b51 h))
  · exact g.tr ((fr_fM_event_b51 h))
def F_M_comes : List (Nat × (Nat × Nat)) := [(549, 549, 130), (549, 549, 135), (583, 583, 0), (640, 640, 0), (641, 641, 0), (642, 642, 0), (643, 643, 0), (644, 644, 0), (645, 645, 0), (646, 646, 0)]
theorem fr_fM_comes_b87 {s : ev_M} {q : ev_M} (h : fM_comes_b87 s = some q) : fr F_M_comes s q := by
  have g : fr F_M_comes s s := fr.rf
  refine fr_ltM h (Q := fr F_M_comes s) (g.wI rfl) fun s1 gs1 h => ?_
  cases h; exact gs1
theorem fr_fM_comes {s : ev_M} {a1 : Int32} {a2 : Int32} {q : ev_M} (h : fM_comes s a1 a2 = some q) : fr F_M_comes s q := by
  have g : fr F_M_comes s s := fr.rf
  refine fr_gd h fun c0 h => ?_
  refine fr_ltM h (Q := fr F_M_comes s) (g.wI rfl) fun s2 gs2 h => ?_
  refine fr_gd h fun c1 h => ?_
  refine fr_bd1 h fun s3 hc h => ?_
  have gs3 := gs2.tr ((fr_fM_event hc).mono (F := F_M_comes) (by decide +kernel))
  refine fr_gd h fun c2 h => ?_
  refine fr_gd h fun c3 h => ?_
  refine fr_if h (fun h => ?_) fun h => ?_
  · refine fr_if h (fun h => ?_) fun h => ?_
    · refine fr_gd h fun c4 h => ?_
      refine fr_ltM h (Q := fr F_M_comes s) (gs3.wI rfl) fun s4 gs4 h => ?_
      refine fr_gd h fun c5 h => ?_
      refine fr_ltM h (Q := fr F_M_comes s) (gs4.wI rfl) fun s5 gs5 h => ?_
      refine fr_gd h fun c6 h => ?_
      refine fr_ltM h (Q := fr F_M_comes s) (gs5.wI rfl) fun s6 gs6 h => ?_
      exact gs6.tr ((fr_fM_comes_b87 h))
    · exact gs3.tr ((fr_fM_comes_b87 h))
  · cases h; exact gs3
def F_M_doItem : List (Nat × (Nat × Nat)) := [(549, 549, 16), (549, 549, 59), (549, 549, 130), (549, 549, 135), (583, 583, 0), (584, 584, 0), (585, 585, 0), (586, 586, 0), (587, 587, 0), (588, 588, 0), (589, 589, 0), (590, 590, 0), (591, 591, 0), (592, 592, 0), (593, 593, 0), (595, 595, 0), (597, 597, 0), (598, 598, 0), (599, 599, 0), (600, 600, 0), (601, 601, 0), (602, 602, 0), (603, 603, 0), (604, 604, 0), (640, 640, 0), (641, 641, 0), (642, 642, 0), (643, 643, 0), (644, 644, 0), (645, 645, 0), (646, 646, 0)]
theorem fr_fM_doItem_b93 {s : ev_M} {q : ev_M × Int32} (h : fM_doItem_b93 s = some q) : fr F_M_doItem s q.1 := by
  have g : fr F_M_doItem s s := fr.rf
  refine fr_bd2 h fun s1 v2 hc h => ?_
  have gs1 : fr F_M_doItem s s1 := g.tr ((fr_fM_no hc).mono (F := F_M_doItem) (by decide +kernel))
  cases h; exact gs1
theorem fr_fM_doItem_b117 {s : ev_M} {q : ev_M × Int32} (h : fM_doItem_b117 s = some q) : fr F_M_doItem s q.1 := by
  have g : fr F_M_doItem s s := fr.rf
  refine fr_bd2 h fun s3 v4 hc h => ?_
  have gs3 : fr F_M_doItem s s3 := g.tr ((fr_fM_no hc).mono (F := F_M_doItem) (by decide +kernel))
  cases h; exact gs3
theorem fr_fM_doItem_b45 {s : ev_M} {x1 : Int32} {x2 : Int32} {x3 : Int32} {x4 : Int32} {x5 : Int32} {x6 : Int32} {y0 : Int32} {q : ev_M × Int32} (h : fM_doItem_b45 s x1 x2 x3 x4 x5 x6 y0 = some q) : fr F_M_doItem s q.1 := by
  have g : fr F_M_doItem s s := fr.rf
  refine fr_bd1 h fun v5 hc h => ?_
  refine fr_if h (fun h => ?_) fun h => ?_
  · exact g.tr ((fr_fM_doItem_b93 h))
  · refine fr_bd1 h fun v6 hc h => ?_
    refine fr_if h (fun h => ?_) fun h => ?_
    · exact g.tr ((fr_fM_doItem_b93 h))
    · refine fr_bd1 h fun v7 hc h => ?_
      refine fr_if h (fun h => ?_) fun h => ?_
      · exact g.tr ((fr_fM_doItem_b93 h))
      · refine fr_bd1 h fun v8 hc h => ?_
        refine fr_if h (fun h => ?_) fun h => ?_
        · exact g.tr ((fr_fM_doItem_b93 h))
        · refine fr_if h (fun h => ?_) fun h => ?_
          · exact g.tr ((fr_fM_doItem_b93 h))
          · refine fr_if h (fun h => ?_) fun h => ?_
            · exact g.tr ((fr_fM_doItem_b117 h))
            · refine fr_bd1 h fun v9 hc h => ?_
              refine fr_if h (fun h => ?_) fun h => ?_
              · refine fr_ltI h fun v10 h => ?_
                refine fr_ltM h (Q := fr F_M_doItem s) (g.wI rfl) fun s11 gs11 h => ?_
                refine fr_gd h fun c0 h => ?_
                refine fr_ltM h (Q := fr F_M_doItem s) (gs11.wI rfl) fun s12 gs12 h => ?_
                refine fr_gd h fun c1 h => ?_
                refine fr_ltM h (Q := fr F_M_doItem s) (gs12.wI rfl) fun s13 gs13 h => ?_
                refine fr_gd h fun c2 h => ?_
                refine fr_ltM h (Q := fr F_M_doItem s) (gs13.wI rfl) fun s14 gs14 h => ?_
                refine fr_gd h fun c3 h => ?_
                refine fr_ltM h (Q := fr F_M_doItem s) (gs14.wI rfl) fun s15 gs15 h => ?_
                refine fr_gd h fun c4 h => ?_
                refine fr_ltM h (Q := fr F_M_doItem s) (gs15.wI rfl) fun s16 gs16 h => ?_
                refine fr_gd h fun c5 h => ?_
                refine fr_ltM h (Q := fr F_M_doItem s) (gs16.wI rfl) fun s17 gs17 h => ?_
                refine fr_gd h fun c6 h => ?_
                refine fr_ltM h (Q := fr F_M_doItem s) (gs17.wI rfl) fun s18 gs18 h => ?_
                refine fr_gd h fun c7 h => ?_
                refine fr_ltM h (Q := fr F_M_doItem s) (gs18.wI rfl) fun s19 gs19 h => ?_
                refine fr_gd h fun c8 h => ?_
                refine fr_ltM h (Q := fr F_M_doItem s) (gs19.wI rfl) fun s20 gs20 h => ?_
                refine fr_gd h fun c9 h => ?_
                refine fr_ltM h (Q := fr F_M_doItem s) (gs20.wI rfl) fun s21 gs21 h => ?_
                refine fr_gd h fun c10 h => ?_
                refine fr_ltM h (Q := fr F_M_doItem s) (gs21.wI rfl) fun s22 gs22 h => ?_
                refine fr_gd h fun c11 h => ?_
                refine fr_ltM h (Q := fr F_M_doItem s) (gs22.wI rfl) fun s23 gs23 h => ?_
                refine fr_gd h fun c12 h => ?_
                refine fr_ltM h (Q := fr F_M_doItem s) (gs23.wI rfl) fun s24 gs24 h => ?_
                refine fr_gd h fun c13 h => ?_
                refine fr_ltM h (Q := fr F_M_doItem s) (gs24.wI rfl) fun s25 gs25 h => ?_
                refine fr_bd1 h fun s26 hc h => ?_
                have gs26 := gs25.tr ((fr_fM_leaves hc).mono (F := F_M_doItem) (by decide +kernel))
                refine fr_bd1 h fun s27 hc h => ?_
                have gs27 := gs26.tr ((fr_fM_comes hc).mono (F := F_M_doItem) (by decide +kernel))
                cases h; exact gs27
              · exact g.tr ((fr_fM_doItem_b117 h))
theorem fr_fM_doItem {s : ev_M} {a1 : Int32} {a2 : Int32} {a3 : Int32} {a4 : Int32} {a5 : Int32} {a6 : Int32} {q : ev_M × Int32} (h : fM_doItem s a1 a2 a3 a4 a5 a6 = some q) : fr F_M_doItem s q.1 := by
  have g : fr F_M_doItem s s := fr.rf
  refine fr_bd1 h fun v28 hc h => ?_
  refine fr_if h (fun h => ?_) fun h => ?_
  · refine fr_bd2 h fun s29 v30 hc h => ?_
    have gs29 : fr F_M_doItem s s29 := g.tr ((fr_fM_no hc).mono (F := F_M_doItem) (by decide +kernel))
    cases h; exact gs29
  · refine fr_if h (fun h => ?_) fun h => ?_
    · refine fr_bd1 h fun v31 hc h => ?_
      exact g.tr ((fr_fM_doItem_b45 h))
    · refine fr_if h (fun h => ?_) fun h => ?_
      · exact g.tr ((fr_fM_doItem_b45 h))
      · exact g.tr ((fr_fM_doItem_b45 h))
def F_M_settle : List (Nat × (Nat × Nat)) := [(590, 590, 0), (601, 601, 0)]
theorem fr_fM_settle {s : ev_M} {a1 : Int32} {a2 : Int32} {q : ev_M} (h : fM_settle s a1 a2 = some q) : fr F_M_settle s q := by
  have g : fr F_M_settle s s := fr.rf
  refine fr_gd h fun c0 h => ?_
  refine fr_ltM h (Q := fr F_M_settle s) (g.wI rfl) fun s1 gs1 h => ?_
  refine fr_gd h fun c1 h => ?_
  refine fr_ltM h (Q := fr F_M_settle s) (gs1.wI rfl) fun s2 gs2 h => ?_
  cases h; exact gs2
def F_M_doAddress : List (Nat × (Nat × Nat)) := [(549, 549, 16), (590, 590, 0), (601, 601, 0)]
theorem fr_fM_doAddress_b16 {s : ev_M} {q : ev_M × Int32} (h : fM_doAddress_b16 s = some q) : fr F_M_doAddress s q.1 := by
  have g : fr F_M_doAddress s s := fr.rf
  refine fr_bd2 h fun s1 v2 hc h => ?_
  have gs1 : fr F_M_doAddress s s1 := g.tr ((fr_fM_no hc).mono (F := F_M_doAddress) (by decide +kernel))
  cases h; exact gs1
theorem fr_fM_doAddress_b41 {s : ev_M} {q : ev_M × Int32} (h : fM_doAddress_b41 s = some q) : fr F_M_doAddress s q.1 := by
  have g : fr F_M_doAddress s s := fr.rf
  refine fr_bd2 h fun s3 v4 hc h => ?_
  have gs3 : fr F_M_doAddress s s3 := g.tr ((fr_fM_no hc).mono (F := F_M_doAddress) (by decide +kernel))
  cases h; exact gs3
theorem fr_fM_doAddress {s : ev_M} {a1 : Int32} {a2 : Int32} {q : ev_M × Int32} (h : fM_doAddress s a1 a2 = some q) : fr F_M_doAddress s q.1 := by
  have g : fr F_M_doAddress s s := fr.rf
  refine fr_bd1 h fun v5 hc h => ?_
  refine fr_if h (fun h => ?_) fun h => ?_
  · exact g.tr ((fr_fM_doAddress_b16 h))
  · refine fr_bd1 h fun v6 hc h => ?_
    refine fr_if h (fun h => ?_) fun h => ?_
    · exact g.tr ((fr_fM_doAddress_b16 h))
    · refine fr_gd h fun c0 h => ?_
      refine fr_if h (fun h => ?_) fun h => ?_
      · refine fr_bd1 h fun v7 hc h => ?_
        refine fr_if h (fun h => ?_) fun h => ?_
        · exact g.tr ((fr_fM_doAddress_b41 h))
        · refine fr_bd1 h fun v8 hc h => ?_
          refine fr_if h (fun h => ?_) fun h => ?_
          · refine fr_bd1 h fun s9 hc h => ?_
            have gs9 := g.tr ((fr_fM_settle hc).mono (F := F_M_doAddress) (by decide +kernel))
            cases h; exact gs9
          · refine fr_bd2 h fun s10 v11 hc h => ?_
            have gs10 : fr F_M_doAddress s s10 := g.tr ((fr_fM_no hc).mono (F := F_M_doAddress) (by decide +kernel))
            cases h; exact gs10
      · exact g.tr ((fr_fM_doAddress_b41 h))
def F_M_doTake : List (Nat × (Nat × Nat)) := [(549, 549, 16), (590, 590, 0), (601, 601, 0)]
theorem fr_fM_doTake_b49 {s : ev_M} {q : ev_M × Int32} (h : fM_doTake_b49 s = some q) : fr F_M_doTake s q.1 := by
  have g : fr F_M_doTake s s := fr.rf
  refine fr_bd2 h fun s1 v2 hc h => ?_
  have gs1 : fr F_M_doTake s s1 := g.tr ((fr_fM_no hc).mono (F := F_M_doTake) (by decide +kernel))
  cases h; exact gs1
theorem fr_fM_doTake {s : ev_M} {a1 : Int32} {q : ev_M × Int32} (h : fM_doTake s a1 = some q) : fr F_M_doTake s q.1 := by
  have g : fr F_M_doTake s s := fr.rf
  refine fr_bd1 h fun v3 hc h => ?_
  refine fr_if h (fun h => ?_) fun h => ?_
  · refine fr_bd2 h fun s4 v5 hc h => ?_
    have gs4 : fr F_M_doTake s s4 := g.tr ((fr_fM_no hc).mono (F := F_M_doTake) (by decide +kernel))
    cases h; exact gs4
  · refine fr_if h (fun h => ?_) fun h => ?_
    · exact g.tr ((fr_fM_doTake_b49 h))
    · refine fr_gd h fun c0 h => ?_
      refine fr_if h (fun h => ?_) fun h => ?_
      · refine fr_gd h fun c1 h => ?_
        refine fr_if h (fun h => ?_) fun h => ?_
        · refine fr_bd1 h fun v6 hc h => ?_
          refine fr_if h (fun h => ?_) fun h => ?_
          · exact g.tr ((fr_fM_doTake_b49 h))
          · refine fr_bd1 h fun v7 hc h => ?_
            refine fr_if h (fun h => ?_) fun h => ?_
            · refine fr_if h (fun h => ?_) fun h => ?_
              · refine fr_gd h fun c2 h => ?_
                refine fr_ltM h (Q := fr F_M_doTake s) (g.wI rfl) fun s8 gs8 h => ?_
                cases h; exact gs8
              · refine fr_bd1 h fun s9 hc h => ?_
                have gs9 := g.tr ((fr_fM_settle hc).mono (F := F_M_doTake) (by decide +kernel))
                cases h; exact gs9
            · refine fr_bd2 h fun s10 v11 hc h => ?_
              have gs10 : fr F_M_doTake s s10 := g.tr ((fr_fM_no hc).mono (F := F_M_doTake) (by decide +kernel))
              cases h; exact gs10
        · exact g.tr ((fr_fM_doTake_b49 h))
      · exact g.tr ((fr_fM_doTake_b49 h))
def F_M_doClerk : List (Nat × (Nat × Nat)) := [(549, 549, 16), (590, 590, 0), (601, 601, 0), (604, 604, 0), (605, 605, 0), (606, 606, 0)]
theorem fr_fM_doClerk_b21 {s : ev_M} {q : ev_M × Int32} (h : fM_doClerk_b21 s = some q) : fr F_M_doClerk s q.1 := by
  have g : fr F_M_doClerk s s := fr.rf
  refine fr_bd2 h fun s1 v2 hc h => ?_
  have gs1 : fr F_M_doClerk s s1 := g.tr ((fr_fM_no hc).mono (F := F_M_doClerk) (by decide +kernel))
  cases h; exact gs1
theorem fr_fM_doClerk_b115 {k56 : ev_M → Int32 → Int32 → Int32 → Int32 → Int32 → Int32 → Option (ev_M × Int32)} (hk56 : ∀ {s : ev_M} {z1 : Int32} {z2 : Int32} {z3 : Int32} {z4 : Int32} {z5 : Int32} {z6 : Int32} {q : ev_M × Int32} , k56 s z1 z2 z3 z4 z5 z6 = some q → fr F_M_doClerk s q.1) {s : ev_M} {x1 : Int32} {x2 : Int32} {x3 : Int32} {x4 : Int32} {x6 : Int32} {y0 : Int32} {q : ev_M × Int32} (h : fM_doClerk_b115 k56 s x1 x2 x3 x4 x6 y0 = some q) : fr F_M_doClerk s q.1 := by
  have g : fr F_M_doClerk s s := fr.rf
  exact g.tr ((hk56 h))
theorem fr_fM_doClerk_b110 {k56 : ev_M → Int32 → Int32 → Int32 → Int32 → Int32 → Int32 → Option (ev_M × Int32)} (hk56 : ∀ {s : ev_M} {z1 : Int32} {z2 : Int32} {z3 : Int32} {z4 : Int32} {z5 : Int32} {z6 : Int32} {q : ev_M × Int32} , k56 s z1 z2 z3 z4 z5 z6 = some q → fr F_M_doClerk s q.1) {s : ev_M} {x1 : Int32} {x2 : Int32} {x3 : Int32} {x4 : Int32} {x6 : Int32} {q : ev_M × Int32} (h : fM_doClerk_b110 k56 s x1 x2 x3 x4 x6 = some q) : fr F_M_doClerk s q.1 := by
  have g : fr F_M_doClerk s s := fr.rf
  exact g.tr ((fr_fM_doClerk_b115 hk56 h))
theorem fr_fM_doClerk_b92 {k56 : ev_M → Int32 → Int32 → Int32 → Int32 → Int32 → Int32 → Option (ev_M × Int32)} (hk56 : ∀ {s : ev_M} {z1 : Int32} {z2 : Int32} {z3 : Int32} {z4 : Int32} {z5 : Int32} {z6 : Int32} {q : ev_M × Int32} , k56 s z1 z2 z3 z4 z5 z6 = some q → fr F_M_doClerk s q.1) {s : ev_M} {x1 : Int32} {x2 : Int32} {x3 : Int32} {x5 : Int32} {x6 : Int32} {y0 : Int32} {q : ev_M × Int32} (h : fM_doClerk_b92 k56 s x1 x2 x3 x5 x6 y0 = some q) : fr F_M_doClerk s q.1 := by
  have g : fr F_M_doClerk s s := fr.rf
  refine fr_if h (fun h => ?_) fun h => ?_
  · refine fr_gd h fun c0 h => ?_
    refine fr_if h (fun h => ?_) fun h => ?_
    · exact g.tr ((fr_fM_doClerk_b110 hk56 h))
    · exact g.tr ((fr_fM_doClerk_b115 hk56 h))
  · exact g.tr ((fr_fM_doClerk_b110 hk56 h))
theorem fr_fM_doClerk_b87 {k56 : ev_M → Int32 → Int32 → Int32 → Int32 → Int32 → Int32 → Option (ev_M × Int32)} (hk56 : ∀ {s : ev_M} {z1 : Int32} {z2 : Int32} {z3 : Int32} {z4 : Int32} {z5 : Int32} {z6 : Int32} {q : ev_M × Int32} , k56 s z1 z2 z3 z4 z5 z6 = some q → fr F_M_doClerk s q.1) {s : ev_M} {x1 : Int32} {x2 : Int32} {x3 : Int32} {x5 : Int32} {x6 : Int32} {q : ev_M × Int32} (h : fM_doClerk_b87 k56 s x1 x2 x3 x5 x6 = some q) : fr F_M_doClerk s q.1 := by
  have g : fr F_M_doClerk s s := fr.rf
  exact g.tr ((fr_fM_doClerk_b92 hk56 h))
theorem fr_fM_doClerk_b138 {s : ev_M} {q : ev_M × Int32} (h : fM_doClerk_b138 s = some q) : fr F_M_doClerk s q.1 := by
  have g : fr F_M_doClerk s s := fr.rf
  refine fr_bd2 h fun s3 v4 hc h => ?_
  have gs3 : fr F_M_doClerk s s3 := g.tr ((fr_fM_no hc).mono (F := F_M_doClerk) (by decide +kernel))
  cases h; exact gs3
theorem fr_fM_doClerk_b234 {s : ev_M} {x1 : Int32} {q : ev_M × Int32} (h : fM_doClerk_b234 s x1 = some q) : fr F_M_doClerk s q.1 := by
  have g : fr F_M_doClerk s s := fr.rf
  refine fr_gd h fun c0 h => ?_
  refine fr_ltM h (Q := fr F_M_doClerk s) (g.wI rfl) fun s5 gs5 h => ?_
  cases h; exact gs5
theorem fr_fM_doClerk_b219 {s : ev_M} {x1 : Int32} {x5 : Int32} {q : ev_M × Int32} (h : fM_doClerk_b219 s x1 x5 = some q) : fr F_M_doClerk s q.1 := by
  have g : fr F_M_doClerk s s := fr.rf
  refine fr_if h (fun h => ?_) fun h => ?_
  · refine fr_gd h fun c0 h => ?_
    refine fr_if h (fun h => ?_) fun h => ?_
    · exact g.tr ((fr_fM_doClerk_b234 h))
    · cases h; exact g
  · exact g.tr ((fr_fM_doClerk_b234 h))
theorem fr_fM_doClerk_h56 : ∀ (n : Nat) {s : ev_M} {x1 : Int32} {x2 : Int32} {x3 : Int32} {x4 : Int32} {x5 : Int32} {x6 : Int32} {q : ev_M × Int32} , fM_doClerk_h56 n s x1 x2 x3 x4 x5 x6 = some q → fr F_M_doClerk s q.1 := by
  intro n
  induction n with
  | zero => intro s x1 x2 x3 x4 x5 x6 q h; cases h
  | succ n ih =>
    intro s x1 x2 x3 x4 x5 x6 q h
    have g : fr F_M_doClerk s s := fr.rf
    refine fr_gd h fun c0 h => ?_
    refine fr_if h (fun h => ?_) fun h => ?_
    · refine fr_if h (fun h => ?_) fun h => ?_
      · refine fr_gd h fun c1 h => ?_
        refine fr_if h (fun h => ?_) fun h => ?_
        · exact g.tr ((fr_fM_doClerk_b87 ih h))
        · exact g.tr ((fr_fM_doClerk_b92 ih h))
      · exact g.tr ((fr_fM_doClerk_b87 ih h))
    · refine fr_gd h fun c1 h => ?_
      refine fr_if h (fun h => ?_) fun h => ?_
      · refine fr_if h (fun h => ?_) fun h => ?_
        · refine fr_bd1 h fun v6 hc h => ?_
          refine fr_if h (fun h => ?_) fun h => ?_
          · refine fr_gd h fun c2 h => ?_
            refine fr_gd h fun c3 h => ?_
            refine fr_ltM h (Q := fr F_M_doClerk s) (g.wI rfl) fun s7 gs7 h => ?_
            refine fr_gd h fun c4 h => ?_
            refine fr_gd h fun c5 h => ?_
            refine fr_ltM h (Q := fr F_M_doClerk s) (gs7.wI rfl) fun s8 gs8 h => ?_
            refine fr_gd h fun c6 h => ?_
            refine fr_gd h fun c7 h => ?_
            refine fr_ltM h (Q := fr F_M_doClerk s) (gs8.wI rfl) fun s9 gs9 h => ?_
            refine fr_if h (fun h => ?_) fun h => ?_
            · exact gs9.tr ((fr_fM_doClerk_b219 h))
            · refine fr_if h (fun h => ?_) fun h => ?_
              · exact gs9.tr ((fr_fM_doClerk_b219 h))
              · refine fr_bd1 h fun s10 hc h => ?_
                have gs10 := gs9.tr ((fr_fM_settle hc).mono (F := F_M_doClerk) (by decide +kernel))
                cases h; exact gs10
          · refine fr_bd2 h fun s11 v12 hc h => ?_
            have gs11 : fr F_M_doClerk s s11 := g.tr ((fr_fM_no hc).mono (F := F_M_doClerk) (by decide +kernel))
            cases h; exact gs11
        · exact g.tr ((fr_fM_doClerk_b138 h))
      · exact g.tr ((fr_fM_doClerk_b138 h))
theorem fr_fM_doClerk_b28 {s : ev_M} {x1 : Int32} {x2 : Int32} {x3 : Int32} {q : ev_M × Int32} (h : fM_doClerk_b28 s x1 x2 x3 = some q) : fr F_M_doClerk s q.1 := by
  have g : fr F_M_doClerk s s := fr.rf
  refine fr_bd1 h fun v13 hc h => ?_
  refine fr_if h (fun h => ?_) fun h => ?_
  · refine fr_bd2 h fun s14 v15 hc h => ?_
    have gs14 : fr F_M_doClerk s s14 := g.tr ((fr_fM_no hc).mono (F := F_M_doClerk) (by decide +kernel))
    cases h; exact gs14
  · refine fr_ltI h fun v16 h => ?_
    exact g.tr ((fr_fM_doClerk_h56 1048576 h))
theorem fr_fM_doClerk {s : ev_M} {a1 : Int32} {a2 : Int32} {a3 : Int32} {q : ev_M × Int32} (h : fM_doClerk s a1 a2 a3 = some q) : fr F_M_doClerk s q.1 := by
  have g : fr F_M_doClerk s s := fr.rf
  refine fr_bd1 h fun v17 hc h => ?_
  refine fr_if h (fun h => ?_) fun h => ?_
  · exact g.tr ((fr_fM_doClerk_b21 h))
  · refine fr_if h (fun h => ?_) fun h => ?_
    · exact g.tr ((fr_fM_doClerk_b28 h))
    · refine fr_bd1 h fun v18 hc h => ?_
      refine fr_if h (fun h => ?_) fun h => ?_
      · exact g.tr ((fr_fM_doClerk_b21 h))
      · exact g.tr ((fr_fM_doClerk_b28 h))
def F_M_comesIn : List (Nat × (Nat × Nat)) := [(549, 549, 24), (549, 549, 130), (549, 549, 135), (583, 583, 0), (591, 591, 0), (592, 592, 0), (593, 593, 0), (595, 595, 0), (597, 597, 0), (598, 598, 0), (602, 602, 0), (640, 640, 0), (641, 641, 0), (642, 642, 0), (643, 643, 0), (644, 644, 0), (645, 645, 0), (646, 646, 0)]
theorem fr_fM_comesIn {s : ev_M} {a1 : Int32} {a2 : Int32} {q : ev_M} (h : fM_comesIn s a1 a2 = some q) : fr F_M_comesIn s q := by
  have g : fr F_M_comesIn s s := fr.rf
  refine fr_bd1 h fun s1 hc h => ?_
  have gs1 := g.tr ((fr_fM_leaves hc).mono (F := F_M_comesIn) (by decide +kernel))
  refine fr_gd h fun c0 h => ?_
  refine fr_ltM h (Q := fr F_M_comesIn s) (gs1.wI rfl) fun s2 gs2 h => ?_
  refine fr_ltM h (Q := fr F_M_comesIn s) (gs2.wI rfl) fun s3 gs3 h => ?_
  refine fr_gd h fun c1 h => ?_
  refine fr_ltM h (Q := fr F_M_comesIn s) (gs3.wI rfl) fun s4 gs4 h => ?_
  refine fr_bd1 h fun s5 hc h => ?_
  have gs5 := gs4.tr ((fr_fM_comes hc).mono (F := F_M_comesIn) (by decide +kernel))
  cases h; exact gs5
def F_M_doPost : List (Nat × (Nat × Nat)) := [(549, 549, 16), (549, 549, 24), (549, 549, 130), (549, 549, 135), (583, 583, 0), (591, 591, 0), (592, 592, 0), (593, 593, 0), (595, 595, 0), (597, 597, 0), (598, 598, 0), (602, 602, 0), (640, 640, 0), (641, 641, 0), (642, 642, 0), (643, 643, 0), (644, 644, 0), (645, 645, 0), (646, 646, 0)]
theorem fr_fM_doPost_b16 {s : ev_M} {q : ev_M × Int32} (h : fM_doPost_b16 s = some q) : fr F_M_doPost s q.1 := by
  have g : fr F_M_doPost s s := fr.rf
  refine fr_bd2 h fun s1 v2 hc h => ?_
  have gs1 : fr F_M_doPost s s1 := g.tr ((fr_fM_no hc).mono (F := F_M_doPost) (by decide +kernel))
  cases h; exact gs1
theorem fr_fM_doPost {s : ev_M} {a1 : Int32} {a2 : Int32} {q : ev_M × Int32} (h : fM_doPost s a1 a2 = some q) : fr F_M_doPost s q.1 := by
  have g : fr F_M_doPost s s := fr.rf
  refine fr_bd1 h fun v3 hc h => ?_
  refine fr_if h (fun h => ?_) fun h => ?_
  · exact g.tr ((fr_fM_doPost_b16 h))
  · refine fr_bd1 h fun v4 hc h => ?_
    refine fr_if h (fun h => ?_) fun h => ?_
    · exact g.tr ((fr_fM_doPost_b16 h))
    · refine fr_gd h fun c0 h => ?_
      refine fr_if h (fun h => ?_) fun h => ?_
      · refine fr_bd1 h fun v5 hc h => ?_
        refine fr_if h (fun h => ?_) fun h => ?_
        · refine fr_bd1 h fun s6 hc h => ?_
          have gs6 := g.tr ((fr_fM_comesIn hc).mono (F := F_M_doPost) (by decide +kernel))
          cases h; exact gs6
        · refine fr_bd2 h fun s7 v8 hc h => ?_
          have gs7 : fr F_M_doPost s s7 := g.tr ((fr_fM_no hc).mono (F := F_M_doPost) (by decide +kernel))
          cases h; exact gs7
      · refine fr_bd2 h fun s9 v10 hc h => ?_
        have gs9 : fr F_M_doPost s s9 := g.tr ((fr_fM_no hc).mono (F := F_M_doPost) (by decide +kernel))
        cases h; exact gs9
def F_M_doMachine : List (Nat × (Nat × Nat)) := [(549, 549, 16), (549, 549, 84), (549, 549, 85), (549, 549, 86), (549, 549, 87)]
theorem fr_fM_doMachine_b44 {s : ev_M} {q : ev_M × Int32} (h : fM_doMachine_b44 s = some q) : fr F_M_doMachine s q.1 := by
  have g : fr F_M_doMachine s s := fr.rf
  refine fr_bd2 h fun s1 v2 hc h => ?_
  have gs1 : fr F_M_doMachine s s1 := g.tr ((fr_fM_no hc).mono (F := F_M_doMachine) (by decide +kernel))
  cases h; exact gs1
theorem fr_fM_doMachine {s : ev_M} {a1 : Int32} {a2 : Int32} {a3 : Int32} {a4 : Int32} {q : ev_M × Int32} (h : fM_doMachine s a1 a2 a3 a4 = some q) : fr F_M_doMachine s q.1 := by
  have g : fr F_M_doMachine s s := fr.rf
  refine fr_bd1 h fun v3 hc h => ?_
  refine fr_if h (fun h => ?_) fun h => ?_
  · exact g.tr ((fr_fM_doMachine_b44 h))
  · refine fr_bd1 h fun v4 hc h => ?_
    refine fr_if h (fun h => ?_) fun h => ?_
    · exact g.tr ((fr_fM_doMachine_b44 h))
    · refine fr_bd1 h fun v5 hc h => ?_
      refine fr_if h (fun h => ?_) fun h => ?_
      · exact g.tr ((fr_fM_doMachine_b44 h))
      · refine fr_bd1 h fun v6 hc h => ?_
        refine fr_if h (fun h => ?_) fun h => ?_
        · exact g.tr ((fr_fM_doMachine_b44 h))
        · refine fr_bd1 h fun v7 hc h => ?_
          refine fr_if h (fun h => ?_) fun h => ?_
          · refine fr_ltM h (Q := fr F_M_doMachine s) (g.wI rfl) fun s8 gs8 h => ?_
            refine fr_ltM h (Q := fr F_M_doMachine s) (gs8.wI rfl) fun s9 gs9 h => ?_
            refine fr_ltM h (Q := fr F_M_doMachine s) (gs9.wI rfl) fun s10 gs10 h => ?_
            refine fr_ltM h (Q := fr F_M_doMachine s) (gs10.wI rfl) fun s11 gs11 h => ?_
            cases h; exact gs11
          · refine fr_bd2 h fun s12 v13 hc h => ?_
            have gs12 : fr F_M_doMachine s s12 := g.tr ((fr_fM_no hc).mono (F := F_M_doMachine) (by decide +kernel))
            cases h; exact gs12
def F_M_doRound : List (Nat × (Nat × Nat)) := [(549, 549, 16), (549, 549, 88), (607, 607, 0), (608, 608, 0), (609, 609, 0)]
theorem fr_fM_doRound_b41 {s : ev_M} {q : ev_M × Int32} (h : fM_doRound_b41 s = some q) : fr F_M_doRound s q.1 := by
  have g : fr F_M_doRound s s := fr.rf
  refine fr_bd2 h fun s1 v2 hc h => ?_
  have gs1 : fr F_M_doRound s s1 := g.tr ((fr_fM_no hc).mono (F := F_M_doRound) (by decide +kernel))
  cases h; exact gs1
theorem fr_fM_doRound_b64 {s : ev_M} {q : ev_M × Int32} (h : fM_doRound_b64 s = some q) : fr F_M_doRound s q.1 := by
  have g : fr F_M_doRound s s := fr.rf
  refine fr_bd2 h fun s3 v4 hc h => ?_
  have gs3 : fr F_M_doRound s s3 := g.tr ((fr_fM_no hc).mono (F := F_M_doRound) (by decide +kernel))
  cases h; exact gs3
theorem fr_fM_doRound {s : ev_M} {a1 : Int32} {a2 : Int32} {a3 : Int32} {q : ev_M × Int32} (h : fM_doRound s a1 a2 a3 = some q) : fr F_M_doRound s q.1 := by
  have g : fr F_M_doRound s s := fr.rf
  refine fr_bd1 h fun v5 hc h => ?_
  refine fr_if h (fun h => ?_) fun h => ?_
  · refine fr_bd2 h fun s6 v7 hc h => ?_
    have gs6 : fr F_M_doRound s s6 := g.tr ((fr_fM_no hc).mono (F := F_M_doRound) (by decide +kernel))
    cases h; exact gs6
  · refine fr_bd1 h fun v8 hc h => ?_
    refine fr_if h (fun h => ?_) fun h => ?_
    · exact g.tr ((fr_fM_doRound_b41 h))
    · refine fr_bd1 h fun v9 hc h => ?_
      refine fr_if h (fun h => ?_) fun h => ?_
      · exact g.tr ((fr_fM_doRound_b41 h))
      · refine fr_if h (fun h => ?_) fun h => ?_
        · exact g.tr ((fr_fM_doRound_b64 h))
        · refine fr_bd1 h fun v10 hc h => ?_
          refine fr_if h (fun h => ?_) fun h => ?_
          · refine fr_gd h fun c0 h => ?_
            refine fr_ltM h (Q := fr F_M_doRound s) (g.wI rfl) fun s11 gs11 h => ?_
            refine fr_gd h fun c1 h => ?_
            refine fr_ltM h (Q := fr F_M_doRound s) (gs11.wI rfl) fun s12 gs12 h => ?_
            refine fr_gd h fun c2 h => ?_
            refine fr_ltM h (Q := fr F_M_doRound s) (gs12.wI rfl) fun s13 gs13 h => ?_
            refine fr_ltM h (Q := fr F_M_doRound s) (gs13.wI rfl) fun s14 gs14 h => ?_
            cases h; exact gs14
          · exact g.tr ((fr_fM_doRound_b64 h))
def F_M_doAssign : List (Nat × (Nat × Nat)) := [(549, 549, 16), (571, 571, 0), (572, 572, 0)]
theorem fr_fM_doAssign_b16 {s : ev_M} {q : ev_M × Int32} (h : fM_doAssign_b16 s = some q) : fr F_M_doAssign s q.1 := by
  have g : fr F_M_doAssign s s := fr.rf
  refine fr_bd2 h fun s1 v2 hc h => ?_
  have gs1 : fr F_M_doAssign s s1 := g.tr ((fr_fM_no hc).mono (F := F_M_doAssign) (by decide +kernel))
  cases h; exact gs1
theorem fr_fM_doAssign_b47 {s : ev_M} {q : ev_M × Int32} (h : fM_doAssign_b47 s = some q) : fr F_M_doAssign s q.1 := by
  have g : fr F_M_doAssign s s := fr.rf
  refine fr_bd2 h fun s3 v4 hc h => ?_
  have gs3 : fr F_M_doAssign s s3 := g.tr ((fr_fM_no hc).mono (F := F_M_doAssign) (by decide +kernel))
  cases h; exact gs3
theorem fr_fM_doAssign_b73 {s : ev_M} {q : ev_M × Int32} (h : fM_doAssign_b73 s = some q) : fr F_M_doAssign s q.1 := by
  have g : fr F_M_doAssign s s := fr.rf
  refine fr_bd2 h fun s5 v6 hc h => ?_
  have gs5 : fr F_M_doAssign s s5 := g.tr ((fr_fM_no hc).mono (F := F_M_doAssign) (by decide +kernel))
  cases h; exact gs5
theorem fr_fM_doAssign {s : ev_M} {a1 : Int32} {a2 : Int32} {q : ev_M × Int32} (h : fM_doAssign s a1 a2 = some q) : fr F_M_doAssign s q.1 := by
  have g : fr F_M_doAssign s s := fr.rf
  refine fr_bd1 h fun v7 hc h => ?_
  refine fr_if h (fun h => ?_) fun h => ?_
  · exact g.tr ((fr_fM_doAssign_b16 h))
  · refine fr_bd1 h fun v8 hc h => ?_
    refine fr_if h (fun h => ?_) fun h => ?_
    · exact g.tr ((fr_fM_doAssign_b16 h))
    · refine fr_bd1 h fun v9 hc h => ?_
      refine fr_gd h fun c0 h => ?_
      refine fr_if h (fun h => ?_) fun h => ?_
      · refine fr_gd h fun c1 h => ?_
        refine fr_if h (fun h => ?_) fun h => ?_
        · refine fr_bd1 h fun v10 hc h => ?_
          refine fr_if h (fun h => ?_) fun h => ?_
          · exact g.tr ((fr_fM_doAssign_b73 h))
          · refine fr_bd1 h fun v11 hc h => ?_
            refine fr_if h (fun h => ?_) fun h => ?_
            · refine fr_gd h fun c2 h => ?_
              refine fr_ltM h (Q := fr F_M_doAssign s) (g.wI rfl) fun s12 gs12 h => ?_
              refine fr_gd h fun c3 h => ?_
              refine fr_ltM h (Q := fr F_M_doAssign s) (gs12.wI rfl) fun s13 gs13 h => ?_
              cases h; exact gs13
            · exact g.tr ((fr_fM_doAssign_b73 h))
        · exact g.tr ((fr_fM_doAssign_b47 h))
      · exact g.tr ((fr_fM_doAssign_b47 h))
def F_M_arrangeExactly : List (Nat × (Nat × Nat)) := [(572, 572, 0), (667, 667, 0)]
theorem fr_fM_arrangeExactly_b106 {k8 : ev_M → Int32 → Int32 → Int32 → Option (ev_M × Int32)} {k15 : ev_M → Int32 → Int32 → Int32 → Int32 → Option (ev_M × Int32)} {k44 : ev_M → Int32 → Int32 → Int32 → Int32 → Int32 → Int32 → Option (ev_M × Int32)} (hk8 : ∀ {s : ev_M} {z1 : Int32} {z2 : Int32} {z3 : Int32} {q : ev_M × Int32} , k8 s z1 z2 z3 = some q → fr F_M_arrangeExactly s q.1) (hk15 : ∀ {s : ev_M} {z1 : Int32} {z2 : Int32} {z3 : Int32} {z4 : Int32} {q : ev_M × Int32} , k15 s z1 z2 z3 z4 = some q → fr F_M_arrangeExactly s q.1) (hk44 : ∀ {s : ev_M} {z1 : Int32} {z2 : Int32} {z3 : Int32} {z4 : Int32} {z5 : Int32} {z6 : Int32} {q : ev_M × Int32} , k44 s z1 z2 z3 z4 z5 z6 = some q → fr F_M_arrangeExactly s q.1) {s : ev_M} {x1 : Int32} {x2 : Int32} {x3 : Int32} {x4 : Int32} {x6 : Int32} {y0 : Int32} {q : ev_M × Int32} (h : fM_arrangeExactly_b106 k8 k15 k44 s x1 x2 x3 x4 x6 y0 = some q) : fr F_M_arrangeExactly s q.1 := by
  have g : fr F_M_arrangeExactly s s := fr.rf
  exact g.tr ((hk44 h))
theorem fr_fM_arrangeExactly_b90 {k8 : ev_M → Int32 → Int32 → Int32 → Option (ev_M × Int32)} {k15 : ev_M → Int32 → Int32 → Int32 → Int32 → Option (ev_M × Int32)} {k44 : ev_M → Int32 → Int32 → Int32 → Int32 → Int32 → Int32 → Option (ev_M × Int32)} (hk8 : ∀ {s : ev_M} {z1 : Int32} {z2 : Int32} {z3 : Int32} {q : ev_M × Int32} , k8 s z1 z2 z3 = some q → fr F_M_arrangeExactly s q.1) (hk15 : ∀ {s : ev_M} {z1 : Int32} {z2 : Int32} {z3 : Int32} {z4 : Int32} {q : ev_M × Int32} , k15 s z1 z2 z3 z4 = some q → fr F_M_arrangeExactly s q.1) (hk44 : ∀ {s : ev_M} {z1 : Int32} {z2 : Int32} {z3 : Int32} {z4 : Int32} {z5 : Int32} {z6 : Int32} {q : ev_M × Int32} , k44 s z1 z2 z3 z4 z5 z6 = some q → fr F_M_arrangeExactly s q.1) {s : ev_M} {x1 : Int32} {x2 : Int32} {x3 : Int32} {x4 : Int32} {x5 : Int32} {x6 : Int32} {y0 : Int32} {q : ev_M × Int32} (h : fM_arrangeExactly_b90 k8 k15 k44 s x1 x2 x3 x4 x5 x6 y0 = some q) : fr F_M_arrangeExactly s q.1 := by
  have g : fr F_M_arrangeExactly s s := fr.rf
  refine fr_if h (fun h => ?_) fun h => ?_
  · exact g.tr ((fr_fM_arrangeExactly_b106 hk8 hk15 hk44 h))
  · exact g.tr ((fr_fM_arrangeExactly_b106 hk8 hk15 hk44 h))
theorem fr_fM_arrangeExactly_h44 {k8 : ev_M → Int32 → Int32 → Int32 → Option (ev_M × Int32)} {k15 : ev_M → Int32 → Int32 → Int32 → Int32 → Option (ev_M × Int32)} (hk8 : ∀ {s : ev_M} {z1 : Int32} {z2 : Int32} {z3 : Int32} {q : ev_M × Int32} , k8 s z1 z2 z3 = some q → fr F_M_arrangeExactly s q.1) (hk15 : ∀ {s : ev_M} {z1 : Int32} {z2 : Int32} {z3 : Int32} {z4 : Int32} {q : ev_M × Int32} , k15 s z1 z2 z3 z4 = some q → fr F_M_arrangeExactly s q.1) : ∀ (n : Nat) {s : ev_M} {x1 : Int32} {x2 : Int32} {x3 : Int32} {x4 : Int32} {x5 : Int32} {x6 : Int32} {q : ev_M × Int32} , fM_arrangeExactly_h44 k8 k15 n s x1 x2 x3 x4 x5 x6 = some q → fr F_M_arrangeExactly s q.1 := by
  intro n
  induction n with
  | zero => intro s x1 x2 x3 x4 x5 x6 q h; cases h
  | succ n ih =>
    intro s x1 x2 x3 x4 x5 x6 q h
    have g : fr F_M_arrangeExactly s s := fr.rf
    refine fr_if h (fun h => ?_) fun h => ?_
    · refine fr_if h (fun h => ?_) fun h => ?_
      · refine fr_bd1 h fun v1 hc h => ?_
        refine fr_gd h fun c0 h => ?_
        exact g.tr ((fr_fM_arrangeExactly_b90 hk8 hk15 ih h))
      · exact g.tr ((fr_fM_arrangeExactly_b90 hk8 hk15 ih h))
    · refine fr_gd h fun c0 h => ?_
      refine fr_ltM h (Q := fr F_M_arrangeExactly s) (g.wI rfl) fun s2 gs2 h => ?_
      exact gs2.tr ((hk15 h))
theorem fr_fM_arrangeExactly_b39 {k8 : ev_M → Int32 → Int32 → Int32 → Option (ev_M × Int32)} {k15 : ev_M → Int32 → Int32 → Int32 → Int32 → Option (ev_M × Int32)} (hk8 : ∀ {s : ev_M} {z1 : Int32} {z2 : Int32} {z3 : Int32} {q : ev_M × Int32} , k8 s z1 z2 z3 = some q → fr F_M_arrangeExactly s q.1) (hk15 : ∀ {s : ev_M} {z1 : Int32} {z2 : Int32} {z3 : Int32} {z4 : Int32} {q : ev_M × Int32} , k15 s z1 z2 z3 z4 = some q → fr F_M_arrangeExactly s q.1) {s : ev_M} {x1 : Int32} {x2 : Int32} {x3 : Int32} {x4 : Int32} {y0 : Int32} {q : ev_M × Int32} (h : fM_arrangeExactly_b39 k8 k15 s x1 x2 x3 x4 y0 = some q) : fr F_M_arrangeExactly s q.1 := by
  have g : fr F_M_arrangeExactly s s := fr.rf
  exact g.tr ((fr_fM_arrangeExactly_h44 hk8 hk15 1048576 h))
theorem fr_fM_arrangeExactly_h15 {k8 : ev_M → Int32 → Int32 → Int32 → Option (ev_M × Int32)} (hk8 : ∀ {s : ev_M} {z1 : Int32} {z2 : Int32} {z3 : Int32} {q : ev_M × Int32} , k8 s z1 z2 z3 = some q → fr F_M_arrangeExactly s q.1) : ∀ (n : Nat) {s : ev_M} {x1 : Int32} {x2 : Int32} {x3 : Int32} {x4 : Int32} {q : ev_M × Int32} , fM_arrangeExactly_h15 k8 n s x1 x2 x3 x4 = some q → fr F_M_arrangeExactly s q.1 := by
  intro n
  induction n with
  | zero => intro s x1 x2 x3 x4 q h; cases h
  | succ n ih =>
    intro s x1 x2 x3 x4 q h
    have g : fr F_M_arrangeExactly s s := fr.rf
    refine fr_if h (fun h => ?_) fun h => ?_
    · refine fr_if h (fun h => ?_) fun h => ?_
      · refine fr_bd1 h fun v3 hc h => ?_
        exact g.tr ((fr_fM_arrangeExactly_b39 hk8 ih h))
      · exact g.tr ((fr_fM_arrangeExactly_b39 hk8 ih h))
    · exact g.tr ((hk8 h))
theorem fr_fM_arrangeExactly_b190 {k147 : ev_M → Int32 → Int32 → Int32 → Option (ev_M × Int32)} (hk147 : ∀ {s : ev_M} {z1 : Int32} {z2 : Int32} {z3 : Int32} {q : ev_M × Int32} , k147 s z1 z2 z3 = some q → fr F_M_arrangeExactly s q.1) {s : ev_M} {x1 : Int32} {x4 : Int32} {y0 : Int32} {q : ev_M × Int32} (h : fM_arrangeExactly_b190 k147 s x1 x4 y0 = some q) : fr F_M_arrangeExactly s q.1 := by
  have g : fr F_M_arrangeExactly s s := fr.rf
  exact g.tr ((hk147 h))
theorem fr_fM_arrangeExactly_b289 {k209 : ev_M → Int32 → Int32 → Int32 → Int32 → Int32 → Int32 → Option (ev_M × Int32)} {k223 : ev_M → Int32 → Int32 → Int32 → Int32 → Int32 → Int32 → Int32 → Int32 → Option (ev_M × Int32)} (hk209 : ∀ {s : ev_M} {z1 : Int32} {z2 : Int32} {z3 : Int32} {z4 : Int32} {z5 : Int32} {z6 : Int32} {q : ev_M × Int32} , k209 s z1 z2 z3 z4 z5 z6 = some q → fr F_M_arrangeExactly s q.1) (hk223 : ∀ {s : ev_M} {z1 : Int32} {z2 : Int32} {z3 : Int32} {z4 : Int32} {z5 : Int32} {z6 : Int32} {z7 : Int32} {z8 : Int32} {q : ev_M × Int32} , k223 s z1 z2 z3 z4 z5 z6 z7 z8 = some q → fr F_M_arrangeExactly s q.1) {s : ev_M} {x1 : Int32} {x3 : Int32} {x4 : Int32} {x5 : Int32} {x6 : Int32} {x7 : Int32} {x9 : Int32} {y0 : Int32} {q : ev_M × Int32} (h : fM_arrangeExactly_b289 k209 k223 s x1 x3 x4 x5 x6 x7 x9 y0 = some q) : fr F_M_arrangeExactly s q.1 := by
  have g : fr F_M_arrangeExactly s s := fr.rf
  exact g.tr ((hk223 h))
theorem fr_fM_arrangeExactly_b287 {k209 : ev_M → Int32 → Int32 → Int32 → Int32 → Int32 → Int32 → Option (ev_M × Int32)} {k223 : ev_M → Int32 → Int32 → Int32 → Int32 → Int32 → Int32 → Int32 → Int32 → Option (ev_M × Int32)} (hk209 : ∀ {s : ev_M} {z1 : Int32} {z2 : Int32} {z3 : Int32} {z4 : Int32} {z5 : Int32} {z6 : Int32} {q : ev_M × Int32} , k209 s z1 z2 z3 z4 z5 z6 = some q → fr F_M_arrangeExactly s q.1) (hk223 : ∀ {s : ev_M} {z1 : Int32} {z2 : Int32} {z3 : Int32} {z4 : Int32} {z5 : Int32} {z6 : Int32} {z7 : Int32} {z8 : Int32} {q : ev_M × Int32} , k223 s z1 z2 z3 z4 z5 z6 z7 z8 = some q → fr F_M_arrangeExactly s q.1) {s : ev_M} {x1 : Int32} {x3 : Int32} {x4 : Int32} {x5 : Int32} {x6 : Int32} {x7 : Int32} {x8 : Int32} {x9 : Int32} {q : ev_M × Int32} (h : fM_arrangeExactly_b287 k209 k223 s x1 x3 x4 x5 x6 x7 x8 x9 = some q) : fr F_M_arrangeExactly s q.1 := by
  have g : fr F_M_arrangeExactly s s := fr.rf
  exact g.tr ((fr_fM_arrangeExactly_b289 hk209 hk223 h))
theorem fr_fM_arrangeExactly_b243 {k209 : ev_M → Int32 → Int32 → Int32 → Int32 → Int32 → Int32 → Option (ev_M × Int32)} {k223 : ev_M → Int32 → Int32 → Int32 → Int32 → Int32 → Int32 → Int32 → Int32 → Option (ev_M × Int32)} (hk209 : ∀ {s : ev_M} {z1 : Int32} {z2 : Int32} {z3 : Int32} {z4 : Int32} {z5 : Int32} {z6 : Int32} {q : ev_M × Int32} , k209 s z1 z2 z3 z4 z5 z6 = some q → fr F_M_arrangeExactly s q.1) (hk223 : ∀ {s : ev_M} {z1 : Int32} {z2 : Int32} {z3 : Int32} {z4 : Int32} {z5 : Int32} {z6 : Int32} {z7 : Int32} {z8 : Int32} {q : ev_M × Int32} , k223 s z1 z2 z3 z4 z5 z6 z7 z8 = some q → fr F_M_arrangeExactly s q.1) {s : ev_M} {x1 : Int32} {x3 : Int32} {x4 : Int32} {x5 : Int32} {x6 : Int32} {x7 : Int32} {x8 : Int32} {x9 : Int32} {y0 : Int32} {q : ev_M × Int32} (h : fM_arrangeExactly_b243 k209 k223 s x1 x3 x4 x5 x6 x7 x8 x9 y0 = some q) : fr F_M_arrangeExactly s q.1 := by
  have g : fr F_M_arrangeExactly s s := fr.rf
  refine fr_if h (fun h => ?_) fun h => ?_
  · exact g.tr ((fr_fM_arrangeExactly_b287 hk209 hk223 h))
  · refine fr_bd1 h fun v4 hc h => ?_
    refine fr_gd h fun c0 h => ?_
    refine fr_if h (fun h => ?_) fun h => ?_
    · exact g.tr ((fr_fM_arrangeExactly_b289 hk209 hk223 h))
    · exact g.tr ((fr_fM_arrangeExactly_b287 hk209 hk223 h))
theorem fr_fM_arrangeExactly_h223 {k209 : ev_M → Int32 → Int32 → Int32 → Int32 → Int32 → Int32 → Option (ev_M × Int32)} (hk209 : ∀ {s : ev_M} {z1 : Int32} {z2 : Int32} {z3 : Int32} {z4 : Int32} {z5 : Int32} {z6 : Int32} {q : ev_M × Int32} , k209 s z1 z2 z3 z4 z5 z6 = some q → fr F_M_arrangeExactly s q.1) : ∀ (n : Nat) {s : ev_M} {x1 : Int32} {x3 : Int32} {x4 : Int32} {x5 : Int32} {x6 : Int32} {x7 : Int32} {x8 : Int32} {x9 : Int32} {q : ev_M × Int32} , fM_arrangeExactly_h223 k209 n s x1 x3 x4 x5 x6 x7 x8 x9 = some q → fr F_M_arrangeExactly s q.1 := by
  intro n
  induction n with
  | zero => intro s x1 x3 x4 x5 x6 x7 x8 x9 q h; cases h
  | succ n ih =>
    intro s x1 x3 x4 x5 x6 x7 x8 x9 q h
    have g : fr F_M_arrangeExactly s s := fr.rf
    refine fr_if h (fun h => ?_) fun h => ?_
    · refine fr_bd1 h fun v5 hc h => ?_
      refine fr_ltI h fun v6 h => ?_
      refine fr_ltI h fun v7 h => ?_
      refine fr_gd h fun c0 h => ?_
      refine fr_gd h fun c1 h => ?_
      refine fr_ltM h (Q := fr F_M_arrangeExactly s) (g.wI rfl) fun s8 gs8 h => ?_
      exact gs8.tr ((hk209 h))
    · refine fr_if h (fun h => ?_) fun h => ?_
      · exact g.tr ((fr_fM_arrangeExactly_b243 hk209 ih h))
      · exact g.tr ((fr_fM_arrangeExactly_b243 hk209 ih h))
theorem fr_fM_arrangeExactly_h209 : ∀ (n : Nat) {s : ev_M} {x1 : Int32} {x3 : Int32} {x4 : Int32} {x5 : Int32} {x6 : Int32} {x7 : Int32} {q : ev_M × Int32} , fM_arrangeExactly_h209 n s x1 x3 x4 x5 x6 x7 = some q → fr F_M_arrangeExactly s q.1 := by
  intro n
  induction n with
  | zero => intro s x1 x3 x4 x5 x6 x7 q h; cases h
  | succ n ih =>
    intro s x1 x3 x4 x5 x6 x7 q h
    have g : fr F_M_arrangeExactly s s := fr.rf
    refine fr_if h (fun h => ?_) fun h => ?_
    · refine fr_ltI h fun v9 h => ?_
      exact g.tr ((fr_fM_arrangeExactly_h223 ih 1048576 h))
    · cases h; exact g
theorem fr_fM_arrangeExactly_h147 : ∀ (n : Nat) {s : ev_M} {x1 : Int32} {x3 : Int32} {x4 : Int32} {q : ev_M × Int32} , fM_arrangeExactly_h147 n s x1 x3 x4 = some q → fr F_M_arrangeExactly s q.1 := by
  intro n
  induction n with
  | zero => intro s x1 x3 x4 q h; cases h
  | succ n ih =>
    intro s x1 x3 x4 q h
    have g : fr F_M_arrangeExactly s s := fr.rf
    refine fr_if h (fun h => ?_) fun h => ?_
    · refine fr_bd1 h fun v10 hc h => ?_
      refine fr_gd h fun c0 h => ?_
      refine fr_ltI h fun v11 h => ?_
      refine fr_if h (fun h => ?_) fun h => ?_
      · exact g.tr ((fr_fM_arrangeExactly_b190 ih h))
      · exact g.tr ((fr_fM_arrangeExactly_b190 ih h))
    · exact g.tr ((fr_fM_arrangeExactly_h209 1048576 h))
theorem fr_fM_arrangeExactly_h8 : ∀ (n : Nat) {s : ev_M} {x1 : Int32} {x2 : Int32} {x3 : Int32} {q : ev_M × Int32} , fM_arrangeExactly_h8 n s x1 x2 x3 = some q → fr F_M_arrangeExactly s q.1 := by
  intro n
  induction n with
  | zero => intro s x1 x2 x3 q h; cases h
  | succ n ih =>
    intro s x1 x2 x3 q h
    have g : fr F_M_arrangeExactly s s := fr.rf
    refine fr_if h (fun h => ?_) fun h => ?_
    · exact g.tr ((fr_fM_arrangeExactly_h147 1048576 h))
    · exact g.tr ((fr_fM_arrangeExactly_h15 ih 1048576 h))
theorem fr_fM_arrangeExactly {s : ev_M} {a1 : Int32} {q : ev_M × Int32} (h : fM_arrangeExactly s a1 = some q) : fr F_M_arrangeExactly s q.1 := by
  have g : fr F_M_arrangeExactly s s := fr.rf
  refine fr_ltI h fun v12 h => ?_
  exact g.tr ((fr_fM_arrangeExactly_h8 1048576 h))
def F_M_arrangeByNearest : List (Nat × (Nat × Nat)) := [(572, 572, 0)]
theorem fr_fM_arrangeByNearest_b80 {k10 : ev_M → Int32 → Int32 → Int32 → Int32 → Int32 → Option (ev_M × Int32)} {k22 : ev_M → Int32 → Int32 → Int32 → Int32 → Int32 → Int32 → Int32 → Option (ev_M × Int32)} (hk10 : ∀ {s : ev_M} {z1 : Int32} {z2 : Int32} {z3 : Int32} {z4 : Int32} {z5 : Int32} {q : ev_M × Int32} , k10 s z1 z2 z3 z4 z5 = some q → fr F_M_arrangeByNearest s q.1) (hk22 : ∀ {s : ev_M} {z1 : Int32} {z2 : Int32} {z3 : Int32} {z4 : Int32} {z5 : Int32} {z6 : Int32} {z7 : Int32} {q : ev_M × Int32} , k22 s z1 z2 z3 z4 z5 z6 z7 = some q → fr F_M_arrangeByNearest s q.1) {s : ev_M} {x1 : Int32} {x2 : Int32} {x3 : Int32} {x4 : Int32} {x5 : Int32} {x7 : Int32} {y0 : Int32} {q : ev_M × Int32} (h : fM_arrangeByNearest_b80 k10 k22 s x1 x2 x3 x4 x5 x7 y0 = some q) : fr F_M_arrangeByNearest s q.1 := by
  have g : fr F_M_arrangeByNearest s s := fr.rf
  exact g.tr ((hk22 h))
theorem fr_fM_arrangeByNearest_b73 {k10 : ev_M → Int32 → Int32 → Int32 → Int32 → Int32 → Option (ev_M × Int32)} {k22 : ev_M → Int32 → Int32 → Int32 → Int32 → Int32 → Int32 → Int32 → Option (ev_M × Int32)} (hk10 : ∀ {s : ev_M} {z1 : Int32} {z2 : Int32} {z3 : Int32} {z4 : Int32} {z5 : Int32} {q : ev_M × Int32} , k10 s z1 z2 z3 z4 z5 = some q → fr F_M_arrangeByNearest s q.1) (hk22 : ∀ {s : ev_M} {z1 : Int32} {z2 : Int32} {z3 : Int32} {z4 : Int32} {z5 : Int32} {z6 : Int32} {z7 : Int32} {q : ev_M × Int32} , k22 s z1 z2 z3 z4 z5 z6 z7 = some q → fr F_M_arrangeByNearest s q.1) {s : ev_M} {x1 : Int32} {x2 : Int32} {x3 : Int32} {x4 : Int32} {x5 : Int32} {x7 : Int32} {q : ev_M × Int32} (h : fM_arrangeByNearest_b73 k10 k22 s x1 x2 x3 x4 x5 x7 = some q) : fr F_M_arrangeByNearest s q.1 := by
  have g : fr F_M_arrangeByNearest s s := fr.rf
  exact g.tr ((fr_fM_arrangeByNearest_b80 hk10 hk22 h))
theorem fr_fM_arrangeByNearest_b78 {k10 : ev_M → Int32 → Int32 → Int32 → Int32 → Int32 → Option (ev_M × Int32)} {k22 : ev_M → Int32 → Int32 → Int32 → Int32 → Int32 → Int32 → Int32 → Option (ev_M × Int32)} (hk10 : ∀ {s : ev_M} {z1 : Int32} {z2 : Int32} {z3 : Int32} {z4 : Int32} {z5 : Int32} {q : ev_M × Int32} , k10 s z1 z2 z3 z4 z5 = some q → fr F_M_arrangeByNearest s q.1) (hk22 : ∀ {s : ev_M} {z1 : Int32} {z2 : Int32} {z3 : Int32} {z4 : Int32} {z5 : Int32} {z6 : Int32} {z7 : Int32} {q : ev_M × Int32} , k22 s z1 z2 z3 z4 z5 z6 z7 = some q → fr F_M_arrangeByNearest s q.1) {s : ev_M} {x1 : Int32} {x2 : Int32} {x3 : Int32} {x4 : Int32} {x5 : Int32} {x6 : Int32} {x7 : Int32} {q : ev_M × Int32} (h : fM_arrangeByNearest_b78 k10 k22 s x1 x2 x3 x4 x5 x6 x7 = some q) : fr F_M_arrangeByNearest s q.1 := by
  have g : fr F_M_arrangeByNearest s s := fr.rf
  exact g.tr ((fr_fM_arrangeByNearest_b80 hk10 hk22 h))
theorem fr_fM_arrangeByNearest_b43 {k10 : ev_M → Int32 → Int32 → Int32 → Int32 → Int32 → Option (ev_M × Int32)} {k22 : ev_M → Int32 → Int32 → Int32 → Int32 → Int32 → Int32 → Int32 → Option (ev_M × Int32)} (hk10 : ∀ {s : ev_M} {z1 : Int32} {z2 : Int32} {z3 : Int32} {z4 : Int32} {z5 : Int32} {q : ev_M × Int32} , k10 s z1 z2 z3 z4 z5 = some q → fr F_M_arrangeByNearest s q.1) (hk22 : ∀ {s : ev_M} {z1 : Int32} {z2 : Int32} {z3 : Int32} {z4 : Int32} {z5 : Int32} {z6 : Int32} {z7 : Int32} {q : ev_M × Int32} , k22 s z1 z2 z3 z4 z5 z6 z7 = some q → fr F_M_arrangeByNearest s q.1) {s : ev_M} {x1 : Int32} {x2 : Int32} {x3 : Int32} {x4 : Int32} {x5 : Int32} {x6 : Int32} {x7 : Int32} {y0 : Int32} {q : ev_M × Int32} (h : fM_arrangeByNearest_b43 k10 k22 s x1 x2 x3 x4 x5 x6 x7 y0 = some q) : fr F_M_arrangeByNearest s q.1 := by
  have g : fr F_M_arrangeByNearest s s := fr.rf
  refine fr_if h (fun h => ?_) fun h => ?_
  · exact g.tr ((fr_fM_arrangeByNearest_b78 hk10 hk22 h))
  · refine fr_if h (fun h => ?_) fun h => ?_
    · exact g.tr ((fr_fM_arrangeByNearest_b73 hk10 hk22 h))
    · refine fr_bd1 h fun v1 hc h => ?_
      refine fr_bd1 h fun v2 hc h => ?_
      refine fr_if h (fun h => ?_) fun h => ?_
      · exact g.tr ((fr_fM_arrangeByNearest_b73 hk10 hk22 h))
      · exact g.tr ((fr_fM_arrangeByNearest_b78 hk10 hk22 h))
theorem fr_fM_arrangeByNearest_h22 {k10 : ev_M → Int32 → Int32 → Int32 → Int32 → Int32 → Option (ev_M × Int32)} (hk10 : ∀ {s : ev_M} {z1 : Int32} {z2 : Int32} {z3 : Int32} {z4 : Int32} {z5 : Int32} {q : ev_M × Int32} , k10 s z1 z2 z3 z4 z5 = some q → fr F_M_arrangeByNearest s q.1) : ∀ (n : Nat) {s : ev_M} {x1 : Int32} {x2 : Int32} {x3 : Int32} {x4 : Int32} {x5 : Int32} {x6 : Int32} {x7 : Int32} {q : ev_M × Int32} , fM_arrangeByNearest_h22 k10 n s x1 x2 x3 x4 x5 x6 x7 = some q → fr F_M_arrangeByNearest s q.1 := by
  intro n
  induction n with
  | zero => intro s x1 x2 x3 x4 x5 x6 x7 q h; cases h
  | succ n ih =>
    intro s x1 x2 x3 x4 x5 x6 x7 q h
    have g : fr F_M_arrangeByNearest s s := fr.rf
    refine fr_if h (fun h => ?_) fun h => ?_
    · refine fr_if h (fun h => ?_) fun h => ?_
      · exact g.tr ((fr_fM_arrangeByNearest_b43 hk10 ih h))
      · exact g.tr ((fr_fM_arrangeByNearest_b43 hk10 ih h))
    · refine fr_bd1 h fun v3 hc h => ?_
      refine fr_ltI h fun v4 h => ?_
      refine fr_ltI h fun v5 h => ?_
      refine fr_gd h fun c0 h => ?_
      refine fr_gd h fun c1 h => ?_
      refine fr_ltM h (Q := fr F_M_arrangeByNearest s) (g.wI rfl) fun s6 gs6 h => ?_
      exact gs6.tr ((hk10 h))
theorem fr_fM_arrangeByNearest_h10 : ∀ (n : Nat) {s : ev_M} {x1 : Int32} {x2 : Int32} {x3 : Int32} {x4 : Int32} {x5 : Int32} {q : ev_M × Int32} , fM_arrangeByNearest_h10 n s x1 x2 x3 x4 x5 = some q → fr F_M_arrangeByNearest s q.1 := by
  intro n
  induction n with
  | zero => intro s x1 x2 x3 x4 x5 q h; cases h
  | succ n ih =>
    intro s x1 x2 x3 x4 x5 q h
    have g : fr F_M_arrangeByNearest s s := fr.rf
    refine fr_if h (fun h => ?_) fun h => ?_
    · exact g.tr ((fr_fM_arrangeByNearest_h22 ih 1048576 h))
    · refine fr_bd1 h fun v7 hc h => ?_
      cases h; exact g
theorem fr_fM_arrangeByNearest {s : ev_M} {a1 : Int32} {q : ev_M × Int32} (h : fM_arrangeByNearest s a1 = some q) : fr F_M_arrangeByNearest s q.1 := by
  have g : fr F_M_arrangeByNearest s s := fr.rf
  exact g.tr ((fr_fM_arrangeByNearest_h10 1048576 h))
def F_M_doArrange : List (Nat × (Nat × Nat)) := [(549, 549, 16), (572, 572, 0), (664, 664, 0), (665, 665, 0), (666, 666, 0), (667, 667, 0)]
theorem fr_fM_doArrange_b83 {k33 : ev_M → Int32 → Int32 → Int32 → Option (ev_M × Int32)} (hk33 : ∀ {s : ev_M} {z1 : Int32} {z2 : Int32} {z3 : Int32} {q : ev_M × Int32} , k33 s z1 z2 z3 = some q → fr F_M_doArrange s q.1) {s : ev_M} {x1 : Int32} {x2 : Int32} {x3 : Int32} {q : ev_M × Int32} (h : fM_doArrange_b83 k33 s x1 x2 x3 = some q) : fr F_M_doArrange s q.1 := by
  have g : fr F_M_doArrange s s := fr.rf
  exact g.tr ((hk33 h))
theorem fr_fM_doArrange_h33 : ∀ (n : Nat) {s : ev_M} {x1 : Int32} {x2 : Int32} {x3 : Int32} {q : ev_M × Int32} , fM_doArrange_h33 n s x1 x2 x3 = some q → fr F_M_doArrange s q.1 := by
  intro n
  induction n with
  | zero => intro s x1 x2 x3 q h; cases h
  | succ n ih =>
    intro s x1 x2 x3 q h
    have g : fr F_M_doArrange s s := fr.rf
    refine fr_if h (fun h => ?_) fun h => ?_
    · refine fr_gd h fun c0 h => ?_
      refine fr_if h (fun h => ?_) fun h => ?_
      · refine fr_gd h fun c1 h => ?_
        refine fr_ltM h (Q := fr F_M_doArrange s) (g.wI rfl) fun s1 gs1 h => ?_
        refine fr_bd1 h fun v2 hc h => ?_
        refine fr_gd h fun c2 h => ?_
        refine fr_ltM h (Q := fr F_M_doArrange s) (gs1.wI rfl) fun s3 gs3 h => ?_
        refine fr_bd1 h fun v4 hc h => ?_
        refine fr_gd h fun c3 h => ?_
        refine fr_ltM h (Q := fr F_M_doArrange s) (gs3.wI rfl) fun s5 gs5 h => ?_
        exact gs5.tr ((fr_fM_doArrange_b83 ih h))
      · exact g.tr ((fr_fM_doArrange_b83 ih h))
    · refine fr_gd h fun c0 h => ?_
      refine fr_gd h fun c1 h => ?_
      refine fr_ltM h (Q := fr F_M_doArrange s) (g.wI rfl) fun s6 gs6 h => ?_
      refine fr_gd h fun c2 h => ?_
      refine fr_gd h fun c3 h => ?_
      refine fr_ltM h (Q := fr F_M_doArrange s) (gs6.wI rfl) fun s7 gs7 h => ?_
      refine fr_if h (fun h => ?_) fun h => ?_
      · cases h; exact gs7
      · refine fr_if h (fun h => ?_) fun h => ?_
        · refine fr_bd2 h fun s8 v9 hc h => ?_
          have gs8 : fr F_M_doArrange s s8 := gs7.tr ((fr_fM_arrangeExactly hc).mono (F := F_M_doArrange) (by decide +kernel))
          cases h; exact gs8
        · refine fr_bd2 h fun s10 v11 hc h => ?_
          have gs10 : fr F_M_doArrange s s10 := gs7.tr ((fr_fM_arrangeByNearest hc).mono (F := F_M_doArrange) (by decide +kernel))
          cases h; exact gs10
theorem fr_fM_doArrange {s : ev_M} {a1 : Int32} {q : ev_M × Int32} (h : fM_doArrange s a1 = some q) : fr F_M_doArrange s q.1 := by
  have g : fr F_M_doArrange s s := fr.rf
  refine fr_bd1 h fun v12 hc h => ?_
  refine fr_if h (fun h => ?_) fun h => ?_
  · refine fr_bd2 h fun s13 v14 hc h => ?_
    have gs13 : fr F_M_doArrange s s13 := g.tr ((fr_fM_no hc).mono (F := F_M_doArrange) (by decide +kernel))
    cases h; exact gs13
  · refine fr_bd1 h fun v15 hc h => ?_
    refine fr_if h (fun h => ?_) fun h => ?_
    · exact g.tr ((fr_fM_doArrange_h33 1048576 h))
    · refine fr_bd2 h fun s16 v17 hc h => ?_
      have gs16 : fr F_M_doArrange s s16 := g.tr ((fr_fM_no hc).mono (F := F_M_doArrange) (by decide +kernel))
      cases h; exact gs16
def F_M_gates : List (Nat × (Nat × Nat)) := [(673, 673, 0), (674, 674, 0)]
theorem fr_fM_gates_b91 {k2 : ev_M → Int32 → Int32 → Int32 → Option (ev_M × Int32)} (hk2 : ∀ {s : ev_M} {z1 : Int32} {z2 : Int32} {z3 : Int32} {q : ev_M × Int32} , k2 s z1 z2 z3 = some q → fr F_M_gates s q.1) {s : ev_M} {x1 : Int32} {x2 : Int32} {x3 : Int32} {y1 : Int32} {y2 : Int32} {q : ev_M × Int32} (h : fM_gates_b91 k2 s x1 x2 x3 y1 y2 = some q) : fr F_M_gates s q.1 := by
  have g : fr F_M_gates s s := fr.rf
  refine fr_gd h fun c0 h => ?_
  refine fr_ltM h (Q := fr F_M_gates s) (g.wI rfl) fun s1 gs1 h => ?_
  refine fr_gd h fun c1 h => ?_
  refine fr_ltM h (Q := fr F_M_gates s) (gs1.wI rfl) fun s2 gs2 h => ?_
  refine fr_gd h fun c2 h => ?_
  refine fr_if h (fun h => ?_) fun h => ?_
  · exact gs2.tr ((hk2 h))
  · cases h; exact gs2
theorem fr_fM_gates_b68 {k2 : ev_M → Int32 → Int32 → Int32 → Option (ev_M × Int32)} (hk2 : ∀ {s : ev_M} {z1 : Int32} {z2 : Int32} {z3 : Int32} {q : ev_M × Int32} , k2 s z1 z2 z3 = some q → fr F_M_gates s q.1) {s : ev_M} {x1 : Int32} {x2 : Int32} {x3 : Int32} {x4 : Int32} {y0 : Int32} {q : ev_M × Int32} (h : fM_gates_b68 k2 s x1 x2 x3 x4 y0 = some q) : fr F_M_gates s q.1 := by
  have g : fr F_M_gates s s := fr.rf
  refine fr_if h (fun h => ?_) fun h => ?_
  · exact g.tr ((fr_fM_gates_b91 hk2 h))
  · refine fr_gd h fun c0 h => ?_
    exact g.tr ((fr_fM_gates_b91 hk2 h))
theorem fr_fM_gates_b67 {k2 : ev_M → Int32 → Int32 → Int32 → Option (ev_M × Int32)} (hk2 : ∀ {s : ev_M} {z1 : Int32} {z2 : Int32} {z3 : Int32} {q : ev_M × Int32} , k2 s z1 z2 z3 = some q → fr F_M_gates s q.1) {s : ev_M} {x1 : Int32} {x2 : Int32} {x3 : Int32} {x4 : Int32} {q : ev_M × Int32} (h : fM_gates_b67 k2 s x1 x2 x3 x4 = some q) : fr F_M_gates s q.1 := by
  have g : fr F_M_gates s s := fr.rf
  exact g.tr ((fr_fM_gates_b68 hk2 h))
theorem fr_fM_gates_b20 {k2 : ev_M → Int32 → Int32 → Int32 → Option (ev_M × Int32)} (hk2 : ∀ {s : ev_M} {z1 : Int32} {z2 : Int32} {z3 : Int32} {q : ev_M × Int32} , k2 s z1 z2 z3 = some q → fr F_M_gates s q.1) {s : ev_M} {x1 : Int32} {x2 : Int32} {x3 : Int32} {y0 : Int32} {q : ev_M × Int32} (h : fM_gates_b20 k2 s x1 x2 x3 y0 = some q) : fr F_M_gates s q.1 := by
  have g : fr F_M_gates s s := fr.rf
  refine fr_gd h fun c0 h => ?_
  refine fr_if h (fun h => ?_) fun h => ?_
  · exact g.tr ((fr_fM_gates_b67 hk2 h))
  · refine fr_gd h fun c1 h => ?_
    refine fr_if h (fun h => ?_) fun h => ?_
    · exact g.tr ((fr_fM_gates_b67 hk2 h))
    · refine fr_gd h fun c2 h => ?_
      refine fr_if h (fun h => ?_) fun h => ?_
      · exact g.tr ((fr_fM_gates_b68 hk2 h))
      · exact g.tr ((fr_fM_gates_b67 hk2 h))
theorem fr_fM_gates_h2 : ∀ (n : Nat) {s : ev_M} {x1 : Int32} {x2 : Int32} {x3 : Int32} {q : ev_M × Int32} , fM_gates_h2 n s x1 x2 x3 = some q → fr F_M_gates s q.1 := by
  intro n
  induction n with
  | zero => intro s x1 x2 x3 q h; cases h
  | succ n ih =>
    intro s x1 x2 x3 q h
    have g : fr F_M_gates s s := fr.rf
    refine fr_if h (fun h => ?_) fun h => ?_
    · refine fr_if h (fun h => ?_) fun h => ?_
      · exact g.tr ((fr_fM_gates_b20 ih h))
      · exact g.tr ((fr_fM_gates_b20 ih h))
    · cases h; exact g
theorem fr_fM_gates {s : ev_M} {a1 : Int32} {a2 : Int32} {q : ev_M × Int32} (h : fM_gates s a1 a2 = some q) : fr F_M_gates s q.1 := by
  have g : fr F_M_gates s s := fr.rf
  exact g.tr ((fr_fM_gates_h2 1048576 h))
def F_M_pass : List (Nat × (Nat × Nat)) := [(610, 610, 0), (668, 668, 0), (669, 669, 0), (672, 672, 0), (673, 673, 0), (674, 674, 0)]
theorem fr_fM_pass_b110 {k32 : ev_M → Int32 → Int32 → Option ev_M} (hk32 : ∀ {s : ev_M} {z1 : Int32} {z2 : Int32} {q : ev_M} , k32 s z1 z2 = some q → fr F_M_pass s q) {s : ev_M} {x1 : Int32} {x2 : Int32} {y1 : Int32} {y2 : Int32} {q : ev_M} (h : fM_pass_b110 k32 s x1 x2 y1 y2 = some q) : fr F_M_pass s q := by
  have g : fr F_M_pass s s := fr.rf
  refine fr_gd h fun c0 h => ?_
  refine fr_ltM h (Q := fr F_M_pass s) (g.wI rfl) fun s1 gs1 h => ?_
  exact gs1.tr ((hk32 h))
theorem fr_fM_pass_b105 {k32 : ev_M → Int32 → Int32 → Option ev_M} (hk32 : ∀ {s : ev_M} {z1 : Int32} {z2 : Int32} {q : ev_M} , k32 s z1 z2 = some q → fr F_M_pass s q) {s : ev_M} {x1 : Int32} {x2 : Int32} {y1 : Int32} {q : ev_M} (h : fM_pass_b105 k32 s x1 x2 y1 = some q) : fr F_M_pass s q := by
  have g : fr F_M_pass s s := fr.rf
  exact g.tr ((fr_fM_pass_b110 hk32 h))
theorem fr_fM_pass_b168 {k121 : ev_M → Int32 → Int32 → Option ev_M} {k132 : ev_M → Int32 → Int32 → Int32 → Option ev_M} (hk121 : ∀ {s : ev_M} {z1 : Int32} {z2 : Int32} {q : ev_M} , k121 s z1 z2 = some q → fr F_M_pass s q) (hk132 : ∀ {s : ev_M} {z1 : Int32} {z2 : Int32} {z3 : Int32} {q : ev_M} , k132 s z1 z2 z3 = some q → fr F_M_pass s q) {s : ev_M} {x2 : Int32} {x3 : Int32} {x4 : Int32} {q : ev_M} (h : fM_pass_b168 k121 k132 s x2 x3 x4 = some q) : fr F_M_pass s q := by
  have g : fr F_M_pass s s := fr.rf
  exact g.tr ((hk132 h))
theorem fr_fM_pass_h132 {k121 : ev_M → Int32 → Int32 → Option ev_M} (hk121 : ∀ {s : ev_M} {z1 : Int32} {z2 : Int32} {q : ev_M} , k121 s z1 z2 = some q → fr F_M_pass s q) : ∀ (n : Nat) {s : ev_M} {x2 : Int32} {x3 : Int32} {x4 : Int32} {q : ev_M} , fM_pass_h132 k121 n s x2 x3 x4 = some q → fr F_M_pass s q := by
  intro n
  induction n with
  | zero => intro s x2 x3 x4 q h; cases h
  | succ n ih =>
    intro s x2 x3 x4 q h
    have g : fr F_M_pass s s := fr.rf
    refine fr_if h (fun h => ?_) fun h => ?_
    · refine fr_gd h fun c0 h => ?_
      refine fr_if h (fun h => ?_) fun h => ?_
      · refine fr_gd h fun c1 h => ?_
        refine fr_gd h fun c2 h => ?_
        refine fr_ltM h (Q := fr F_M_pass s) (g.wI rfl) fun s2 gs2 h => ?_
        exact gs2.tr ((fr_fM_pass_b168 hk121 ih h))
      · exact g.tr ((fr_fM_pass_b168 hk121 ih h))
    · exact g.tr ((hk121 h))
theorem fr_fM_pass_h182 : ∀ (n : Nat) {s : ev_M} {x3 : Int32} {q : ev_M} , fM_pass_h182 n s x3 = some q → fr F_M_pass s q := by
  intro n
  induction n with
  | zero => intro s x3 q h; cases h
  | succ n ih =>
    intro s x3 q h
    have g : fr F_M_pass s s := fr.rf
    refine fr_if h (fun h => ?_) fun h => ?_
    · refine fr_gd h fun c0 h => ?_
      refine fr_gd h fun c1 h => ?_
      refine fr_ltM h (Q := fr F_M_pass s) (g.wI rfl) fun s3 gs3 h => ?_
      exact gs3.tr ((ih h))
    · cases h; exact g
theorem fr_fM_pass_h121 : ∀ (n : Nat) {s : ev_M} {x2 : Int32} {x3 : Int32} {q : ev_M} , fM_pass_h121 n s x2 x3 = some q → fr F_M_pass s q := by
  intro n
  induction n with
  | zero => intro s x2 x3 q h; cases h
  | succ n ih =>
    intro s x2 x3 q h
    have g : fr F_M_pass s s := fr.rf
    refine fr_if h (fun h => ?_) fun h => ?_
    · exact g.tr ((fr_fM_pass_h132 ih 1048576 h))
    · exact g.tr ((fr_fM_pass_h182 1048576 h))
theorem fr_fM_pass_h32 : ∀ (n : Nat) {s : ev_M} {x1 : Int32} {x2 : Int32} {q : ev_M} , fM_pass_h32 n s x1 x2 = some q → fr F_M_pass s q := by
  intro n
  induction n with
  | zero => intro s x1 x2 q h; cases h
  | succ n ih =>
    intro s x1 x2 q h
    have g : fr F_M_pass s s := fr.rf
    refine fr_if h (fun h => ?_) fun h => ?_
    · refine fr_gd h fun c0 h => ?_
      refine fr_gd h fun c1 h => ?_
      refine fr_dv h fun h => ?_
      refine fr_dv h fun h => ?_
      refine fr_ltI h fun v4 h => ?_
      refine fr_bd2 h fun s5 v6 hc h => ?_
      have gs5 : fr F_M_pass s s5 := g.tr ((fr_fM_gates hc).mono (F := F_M_pass) (by decide +kernel))
      refine fr_gd h fun c2 h => ?_
      refine fr_ltM h (Q := fr F_M_pass s) (gs5.wI rfl) fun s7 gs7 h => ?_
      refine fr_gd h fun c3 h => ?_
      refine fr_gd h fun c4 h => ?_
      refine fr_gd h fun c5 h => ?_
      refine fr_if h (fun h => ?_) fun h => ?_
      · refine fr_gd h fun c6 h => ?_
        refine fr_if h (fun h => ?_) fun h => ?_
        · exact gs7.tr ((fr_fM_pass_b110 ih h))
        · exact gs7.tr ((fr_fM_pass_b105 ih h))
      · exact gs7.tr ((fr_fM_pass_b105 ih h))
    · exact g.tr ((fr_fM_pass_h121 1048576 h))
theorem fr_fM_pass_h2 : ∀ (n : Nat) {s : ev_M} {x1 : Int32} {x2 : Int32} {q : ev_M} , fM_pass_h2 n s x1 x2 = some q → fr F_M_pass s q := by
  intro n
  induction n with
  | zero => intro s x1 x2 q h; cases h
  | succ n ih =>
    intro s x1 x2 q h
    have g : fr F_M_pass s s := fr.rf
    refine fr_if h (fun h => ?_) fun h => ?_
    · refine fr_gd h fun c0 h => ?_
      refine fr_ltM h (Q := fr F_M_pass s) (g.wI rfl) fun s8 gs8 h => ?_
      refine fr_gd h fun c1 h => ?_
      refine fr_ltM h (Q := fr F_M_pass s) (gs8.wI rfl) fun s9 gs9 h => ?_
      exact gs9.tr ((ih h))
    · exact g.tr ((fr_fM_pass_h32 1048576 h))
theorem fr_fM_pass {s : ev_M} {a1 : Int32} {q : ev_M} (h : fM_pass s a1 = some q) : fr F_M_pass s q := by
  have g : fr F_M_pass s s := fr.rf
  exact g.tr ((fr_fM_pass_h2 1048576 h))
def F_M_effectiveOf : List (Nat × (Nat × Nat)) := [(549, 549, 142), (648, 648, 0)]
theorem fr_fM_effectiveOf_b117 {k25 : ev_M → Int32 → Int32 → Option (ev_M × Int32)} {k43 : ev_M → Int32 → Int32 → Int32 → Int32 → Option (ev_M × Int32)} (hk25 : ∀ {s : ev_M} {z1 : Int32} {z2 : Int32} {q : ev_M × Int32} , k25 s z1 z2 = some q → fr F_M_effectiveOf s q.1) (hk43 : ∀ {s : ev_M} {z1 : Int32} {z2 : Int32} {z3 : Int32} {z4 : Int32} {q : ev_M × Int32} , k43 s z1 z2 z3 z4 = some q → fr F_M_effectiveOf s q.1) {s : ev_M} {x2 : Int32} {x3 : Int32} {x5 : Int32} {y0 : Int32} {q : ev_M × Int32} (h : fM_effectiveOf_b117 k25 k43 s x2 x3 x5 y0 = some q) : fr F_M_effectiveOf s q.1 := by
  have g : fr F_M_effectiveOf s s := fr.rf
  exact g.tr ((hk43 h))
theorem fr_fM_effectiveOf_b103 {k25 : ev_M → Int32 → Int32 → Option (ev_M × Int32)} {k43 : ev_M → Int32 → Int32 → Int32 → Int32 → Option (ev_M × Int32)} (hk25 : ∀ {s : ev_M} {z1 : Int32} {z2 : Int32} {q : ev_M × Int32} , k25 s z1 z2 = some q → fr F_M_effectiveOf s q.1) (hk43 : ∀ {s : ev_M} {z1 : Int32} {z2 : Int32} {z3 : Int32} {z4 : Int32} {q : ev_M × Int32} , k43 s z1 z2 z3 z4 = some q → fr F_M_effectiveOf s q.1) {s : ev_M} {x2 : Int32} {x3 : Int32} {x4 : Int32} {x5 : Int32} {y0 : Int32} {q : ev_M × Int32} (h : fM_effectiveOf_b103 k25 k43 s x2 x3 x4 x5 y0 = some q) : fr F_M_effectiveOf s q.1 := by
  have g : fr F_M_effectiveOf s s := fr.rf
  refine fr_if h (fun h => ?_) fun h => ?_
  · exact g.tr ((fr_fM_effectiveOf_b117 hk25 hk43 h))
  · exact g.tr ((fr_fM_effectiveOf_b117 hk25 hk43 h))
theorem fr_fM_effectiveOf_b102 {k25 : ev_M → Int32 → Int32 → Option (ev_M × Int32)} {k43 : ev_M → Int32 → Int32 → Int32 → Int32 → Option (ev_M × Int32)} (hk25 : ∀ {s : ev_M} {z1 : Int32} {z2 : Int32} {q : ev_M × Int32} , k25 s z1 z2 = some q → fr F_M_effectiveOf s q.1) (hk43 : ∀ {s : ev_M} {z1 : Int32} {z2 : Int32} {z3 : Int32} {z4 : Int32} {q : ev_M × Int32} , k43 s z1 z2 z3 z4 = some q → fr F_M_effectiveOf s q.1) {s : ev_M} {x2 : Int32} {x3 : Int32} {x4 : Int32} {x5 : Int32} {q : ev_M × Int32} (h : fM_effectiveOf_b102 k25 k43 s x2 x3 x4 x5 = some q) : fr F_M_effectiveOf s q.1 := by
  have g : fr F_M_effectiveOf s s := fr.rf
  exact g.tr ((fr_fM_effectiveOf_b103 hk25 hk43 h))
theorem fr_fM_effectiveOf_b84 {k25 : ev_M → Int32 → Int32 → Option (ev_M × Int32)} {k43 : ev_M → Int32 → Int32 → Int32 → Int32 → Option (ev_M × Int32)} (hk25 : ∀ {s : ev_M} {z1 : Int32} {z2 : Int32} {q : ev_M × Int32} , k25 s z1 z2 = some q → fr F_M_effectiveOf s q.1) (hk43 : ∀ {s : ev_M} {z1 : Int32} {z2 : Int32} {z3 : Int32} {z4 : Int32} {q : ev_M × Int32} , k43 s z1 z2 z3 z4 = some q → fr F_M_effectiveOf s q.1) {s : ev_M} {x2 : Int32} {x3 : Int32} {x4 : Int32} {x5 : Int32} {q : ev_M × Int32} (h : fM_effectiveOf_b84 k25 k43 s x2 x3 x4 x5 = some q) : fr F_M_effectiveOf s q.1 := by
  have g : fr F_M_effectiveOf s s := fr.rf
  refine fr_gd h fun c0 h => ?_
  refine fr_bd1 h fun v1 hc h => ?_
  refine fr_if h (fun h => ?_) fun h => ?_
  · exact g.tr ((fr_fM_effectiveOf_b102 hk25 hk43 h))
  · exact g.tr ((fr_fM_effectiveOf_b103 hk25 hk43 h))
theorem fr_fM_effectiveOf_h43 {k25 : ev_M → Int32 → Int32 → Option (ev_M × Int32)} (hk25 : ∀ {s : ev_M} {z1 : Int32} {z2 : Int32} {q : ev_M × Int32} , k25 s z1 z2 = some q → fr F_M_effectiveOf s q.1) : ∀ (n : Nat) {s : ev_M} {x2 : Int32} {x3 : Int32} {x4 : Int32} {x5 : Int32} {q : ev_M × Int32} , fM_effectiveOf_h43 k25 n s x2 x3 x4 x5 = some q → fr F_M_effectiveOf s q.1 := by
  intro n
  induction n with
  | zero => intro s x2 x3 x4 x5 q h; cases h
  | succ n ih =>
    intro s x2 x3 x4 x5 q h
    have g : fr F_M_effectiveOf s s := fr.rf
    refine fr_if h (fun h => ?_) fun h => ?_
    · refine fr_gd h fun c0 h => ?_
      refine fr_if h (fun h => ?_) fun h => ?_
      · refine fr_gd h fun c1 h => ?_
        refine fr_if h (fun h => ?_) fun h => ?_
        · exact g.tr ((fr_fM_effectiveOf_b84 hk25 ih h))
        · refine fr_gd h fun c2 h => ?_
          refine fr_if h (fun h => ?_) fun h => ?_
          · exact g.tr ((fr_fM_effectiveOf_b84 hk25 ih h))
          · exact g.tr ((fr_fM_effectiveOf_b102 hk25 ih h))
      · exact g.tr ((fr_fM_effectiveOf_b102 hk25 ih h))
    · refine fr_if h (fun h => ?_) fun h => ?_
      · cases h; exact g
      · refine fr_gd h fun c0 h => ?_
        refine fr_if h (fun h => ?_) fun h => ?_
        · cases h; exact g
        · refine fr_gd h fun c1 h => ?_
          refine fr_ltI h fun v2 h => ?_
          refine fr_gd h fun c2 h => ?_
          refine fr_if h (fun h => ?_) fun h => ?_
          · exact g.tr ((hk25 h))
          · cases h; exact g
theorem fr_fM_effectiveOf_h25 : ∀ (n : Nat) {s : ev_M} {x2 : Int32} {x3 : Int32} {q : ev_M × Int32} , fM_effectiveOf_h25 n s x2 x3 = some q → fr F_M_effectiveOf s q.1 := by
  intro n
  induction n with
  | zero => intro s x2 x3 q h; cases h
  | succ n ih =>
    intro s x2 x3 q h
    have g : fr F_M_effectiveOf s s := fr.rf
    refine fr_gd h fun c0 h => ?_
    refine fr_ltM h (Q := fr F_M_effectiveOf s) (g.wI rfl) fun s3 gs3 h => ?_
    refine fr_ltM h (Q := fr F_M_effectiveOf s) (gs3.wI rfl) fun s4 gs4 h => ?_
    exact gs4.tr ((fr_fM_effectiveOf_h43 ih 1048576 h))
theorem fr_fM_effectiveOf_h2 : ∀ (n : Nat) {s : ev_M} {x1 : Int32} {x2 : Int32} {x3 : Int32} {q : ev_M × Int32} , fM_effectiveOf_h2 n s x1 x2 x3 = some q → fr F_M_effectiveOf s q.1 := by
  intro n
  induction n with
  | zero => intro s x1 x2 x3 q h; cases h
  | succ n ih =>
    intro s x1 x2 x3 q h
    have g : fr F_M_effectiveOf s s := fr.rf
    refine fr_if h (fun h => ?_) fun h => ?_
    · refine fr_gd h fun c0 h => ?_
      refine fr_ltM h (Q := fr F_M_effectiveOf s) (g.wI rfl) fun s5 gs5 h => ?_
      exact gs5.tr ((ih h))
    · exact g.tr ((fr_fM_effectiveOf_h25 1048576 h))
theorem fr_fM_effectiveOf {s : ev_M} {a1 : Int32} {a2 : Int32} {q : ev_M × Int32} (h : fM_effectiveOf s a1 a2 = some q) : fr F_M_effectiveOf s q.1 := by
  have g : fr F_M_effectiveOf s s := fr.rf
  exact g.tr ((fr_fM_effectiveOf_h2 1048576 h))
def F_M_goalOf : List (Nat × (Nat × Nat)) := [(549, 549, 142), (648, 648, 0)]
theorem fr_fM_goalOf {s : ev_M} {a1 : Int32} {q : ev_M × Int32} (h : fM_goalOf s a1 = some q) : fr F_M_goalOf s q.1 := by
  have g : fr F_M_goalOf s s := fr.rf
  refine fr_gd h fun c0 h => ?_
  refine fr_if h (fun h => ?_) fun h => ?_
  · refine fr_gd h fun c1 h => ?_
    refine fr_if h (fun h => ?_) fun h => ?_
    · cases h; exact g
    · refine fr_gd h fun c2 h => ?_
      refine fr_gd h fun c3 h => ?_
      refine fr_bd2 h fun s1 v2 hc h => ?_
      have gs1 : fr F_M_goalOf s s1 := g.tr ((fr_fM_effectiveOf hc).mono (F := F_M_goalOf) (by decide +kernel))
      cases h; exact gs1
  · refine fr_gd h fun c1 h => ?_
    refine fr_gd h fun c2 h => ?_
    refine fr_ltM h (Q := fr F_M_goalOf s) (g.wI rfl) fun s3 gs3 h => ?_
    cases h; exact gs3
def F_M_findFed : List (Nat × (Nat × Nat)) := [(549, 549, 142), (549, 549, 167), (610, 610, 0), (648, 648, 0), (668, 668, 0), (670, 670, 0), (671, 671, 0)]
theorem fr_fM_findFed_b154 {k7 : ev_M → Int32 → Int32 → Option ev_M} (hk7 : ∀ {s : ev_M} {z1 : Int32} {z2 : Int32} {q : ev_M} , k7 s z1 z2 = some q → fr F_M_findFed s q) {s : ev_M} {x1 : Int32} {x2 : Int32} {q : ev_M} (h : fM_findFed_b154 k7 s x1 x2 = some q) : fr F_M_findFed s q := by
  have g : fr F_M_findFed s s := fr.rf
  exact g.tr ((hk7 h))
theorem fr_fM_findFed_b137 {k7 : ev_M → Int32 → Int32 → Option ev_M} (hk7 : ∀ {s : ev_M} {z1 : Int32} {z2 : Int32} {q : ev_M} , k7 s z1 z2 = some q → fr F_M_findFed s q) {s : ev_M} {x1 : Int32} {x2 : Int32} {x3 : Int32} {q : ev_M} (h : fM_findFed_b137 k7 s x1 x2 x3 = some q) : fr F_M_findFed s q := by
  have g : fr F_M_findFed s s := fr.rf
  refine fr_gd h fun c0 h => ?_
  refine fr_ltM h (Q := fr F_M_findFed s) (g.wI rfl) fun s1 gs1 h => ?_
  refine fr_ltM h (Q := fr F_M_findFed s) (gs1.wI rfl) fun s2 gs2 h => ?_
  exact gs2.tr ((fr_fM_findFed_b154 hk7 h))
theorem fr_fM_findFed_h91 {k7 : ev_M → Int32 → Int32 → Option ev_M} (hk7 : ∀ {s : ev_M} {z1 : Int32} {z2 : Int32} {q : ev_M} , k7 s z1 z2 = some q → fr F_M_findFed s q) : ∀ (n : Nat) {s : ev_M} {x1 : Int32} {x2 : Int32} {x3 : Int32} {q : ev_M} , fM_findFed_h91 k7 n s x1 x2 x3 = some q → fr F_M_findFed s q := by
  intro n
  induction n with
  | zero => intro s x1 x2 x3 q h; cases h
  | succ n ih =>
    intro s x1 x2 x3 q h
    have g : fr F_M_findFed s s := fr.rf
    refine fr_if h (fun h => ?_) fun h => ?_
    · exact g.tr ((fr_fM_findFed_b137 hk7 h))
    · refine fr_gd h fun c0 h => ?_
      refine fr_gd h fun c1 h => ?_
      refine fr_gd h fun c2 h => ?_
      refine fr_if h (fun h => ?_) fun h => ?_
      · exact g.tr ((fr_fM_findFed_b137 hk7 h))
      · refine fr_gd h fun c3 h => ?_
        refine fr_gd h fun c4 h => ?_
        refine fr_ltM h (Q := fr F_M_findFed s) (g.wI rfl) fun s3 gs3 h => ?_
        exact gs3.tr ((ih h))
theorem fr_fM_findFed_b61 {k7 : ev_M → Int32 → Int32 → Option ev_M} (hk7 : ∀ {s : ev_M} {z1 : Int32} {z2 : Int32} {q : ev_M} , k7 s z1 z2 = some q → fr F_M_findFed s q) {s : ev_M} {x1 : Int32} {x2 : Int32} {y1 : Int32} {y2 : Int32} {q : ev_M} (h : fM_findFed_b61 k7 s x1 x2 y1 y2 = some q) : fr F_M_findFed s q := by
  have g : fr F_M_findFed s s := fr.rf
  refine fr_gd h fun c0 h => ?_
  refine fr_ltM h (Q := fr F_M_findFed s) (g.wI rfl) fun s4 gs4 h => ?_
  refine fr_gd h fun c1 h => ?_
  refine fr_if h (fun h => ?_) fun h => ?_
  · exact gs4.tr ((fr_fM_findFed_b154 hk7 h))
  · refine fr_gd h fun c2 h => ?_
    refine fr_gd h fun c3 h => ?_
    refine fr_if h (fun h => ?_) fun h => ?_
    · refine fr_ltI h fun v5 h => ?_
      exact gs4.tr ((fr_fM_findFed_h91 hk7 1048576 h))
    · exact gs4.tr ((fr_fM_findFed_b154 hk7 h))
theorem fr_fM_findFed_b60 {k7 : ev_M → Int32 → Int32 → Option ev_M} (hk7 : ∀ {s : ev_M} {z1 : Int32} {z2 : Int32} {q : ev_M} , k7 s z1 z2 = some q → fr F_M_findFed s q) {s : ev_M} {x1 : Int32} {x2 : Int32} {y1 : Int32} {q : ev_M} (h : fM_findFed_b60 k7 s x1 x2 y1 = some q) : fr F_M_findFed s q := by
  have g : fr F_M_findFed s s := fr.rf
  exact g.tr ((fr_fM_findFed_b61 hk7 h))
theorem fr_fM_findFed_b248 {k162 : ev_M → Int32 → Option ev_M} {k193 : ev_M → Int32 → Int32 → Int32 → Int32 → Option ev_M} (hk162 : ∀ {s : ev_M} {z1 : Int32} {q : ev_M} , k162 s z1 = some q → fr F_M_findFed s q) (hk193 : ∀ {s : ev_M} {z1 : Int32} {z2 : Int32} {z3 : Int32} {z4 : Int32} {q : ev_M} , k193 s z1 z2 z3 z4 = some q → fr F_M_findFed s q) {s : ev_M} {x2 : Int32} {x3 : Int32} {x5 : Int32} {y0 : Int32} {q : ev_M} (h : fM_findFed_b248 k162 k193 s x2 x3 x5 y0 = some q) : fr F_M_findFed s q := by
  have g : fr F_M_findFed s s := fr.rf
  exact g.tr ((hk193 h))
theorem fr_fM_findFed_b239 {k162 : ev_M → Int32 → Option ev_M} {k193 : ev_M → Int32 → Int32 → Int32 → Int32 → Option ev_M} (hk162 : ∀ {s : ev_M} {z1 : Int32} {q : ev_M} , k162 s z1 = some q → fr F_M_findFed s q) (hk193 : ∀ {s : ev_M} {z1 : Int32} {z2 : Int32} {z3 : Int32} {z4 : Int32} {q : ev_M} , k193 s z1 z2 z3 z4 = some q → fr F_M_findFed s q) {s : ev_M} {x2 : Int32} {x3 : Int32} {x4 : Int32} {x5 : Int32} {q : ev_M} (h : fM_findFed_b239 k162 k193 s x2 x3 x4 x5 = some q) : fr F_M_findFed s q := by
  have g : fr F_M_findFed s s := fr.rf
  exact g.tr ((fr_fM_findFed_b248 hk162 hk193 h))
theorem fr_fM_findFed_b246 {k162 : ev_M → Int32 → Option ev_M} {k193 : ev_M → Int32 → Int32 → Int32 → Int32 → Option ev_M} (hk162 : ∀ {s : ev_M} {z1 : Int32} {q : ev_M} , k162 s z1 = some q → fr F_M_findFed s q) (hk193 : ∀ {s : ev_M} {z1 : Int32} {z2 : Int32} {z3 : Int32} {z4 : Int32} {q : ev_M} , k193 s z1 z2 z3 z4 = some q → fr F_M_findFed s q) {s : ev_M} {x2 : Int32} {x3 : Int32} {x4 : Int32} {x5 : Int32} {q : ev_M} (h : fM_findFed_b246 k162 k193 s x2 x3 x4 x5 = some q) : fr F_M_findFed s q := by
  have g : fr F_M_findFed s s := fr.rf
  exact g.tr ((fr_fM_findFed_b248 hk162 hk193 h))
theorem fr_fM_findFed_h193 {k162 : ev_M → Int32 → Option ev_M} (hk162 : ∀ {s : ev_M} {z1 : Int32} {q : ev_M} , k162 s z1 = some q → fr F_M_findFed s q) : ∀ (n : Nat) {s : ev_M} {x2 : Int32} {x3 : Int32} {x4 : Int32} {x5 : Int32} {q : ev_M} , fM_findFed_h193 k162 n s x2 x3 x4 x5 = some q → fr F_M_findFed s q := by
  intro n
  induction n with
  | zero => intro s x2 x3 x4 x5 q h; cases h
  | succ n ih =>
    intro s x2 x3 x4 x5 q h
    have g : fr F_M_findFed s s := fr.rf
    refine fr_if h (fun h => ?_) fun h => ?_
    · refine fr_gd h fun c0 h => ?_
      refine fr_gd h fun c1 h => ?_
      refine fr_gd h fun c2 h => ?_
      refine fr_ltI h fun v6 h => ?_
      refine fr_if h (fun h => ?_) fun h => ?_
      · exact g.tr ((fr_fM_findFed_b239 hk162 ih h))
      · refine fr_if h (fun h => ?_) fun h => ?_
        · refine fr_if h (fun h => ?_) fun h => ?_
          · exact g.tr ((fr_fM_findFed_b239 hk162 ih h))
          · exact g.tr ((fr_fM_findFed_b246 hk162 ih h))
        · exact g.tr ((fr_fM_findFed_b246 hk162 ih h))
    · refine fr_gd h fun c0 h => ?_
      refine fr_gd h fun c1 h => ?_
      refine fr_ltM h (Q := fr F_M_findFed s) (g.wI rfl) fun s7 gs7 h => ?_
      exact gs7.tr ((hk162 h))
theorem fr_fM_findFed_h162 : ∀ (n : Nat) {s : ev_M} {x2 : Int32} {q : ev_M} , fM_findFed_h162 n s x2 = some q → fr F_M_findFed s q := by
  intro n
  induction n with
  | zero => intro s x2 q h; cases h
  | succ n ih =>
    intro s x2 q h
    have g : fr F_M_findFed s s := fr.rf
    refine fr_if h (fun h => ?_) fun h => ?_
    · refine fr_gd h fun c0 h => ?_
      refine fr_gd h fun c1 h => ?_
      refine fr_gd h fun c2 h => ?_
      refine fr_ltI h fun v8 h => ?_
      exact g.tr ((fr_fM_findFed_h193 ih 1048576 h))
    · cases h; exact g
theorem fr_fM_findFed_h7 : ∀ (n : Nat) {s : ev_M} {x1 : Int32} {x2 : Int32} {q : ev_M} , fM_findFed_h7 n s x1 x2 = some q → fr F_M_findFed s q := by
  intro n
  induction n with
  | zero => intro s x1 x2 q h; cases h
  | succ n ih =>
    intro s x1 x2 q h
    have g : fr F_M_findFed s s := fr.rf
    refine fr_if h (fun h => ?_) fun h => ?_
    · refine fr_gd h fun c0 h => ?_
      refine fr_ltM h (Q := fr F_M_findFed s) (g.wI rfl) fun s9 gs9 h => ?_
      refine fr_gd h fun c1 h => ?_
      refine fr_if h (fun h => ?_) fun h => ?_
      · refine fr_gd h fun c2 h => ?_
        refine fr_gd h fun c3 h => ?_
        refine fr_if h (fun h => ?_) fun h => ?_
        · refine fr_bd2 h fun s10 v11 hc h => ?_
          have gs10 : fr F_M_findFed s s10 := gs9.tr ((fr_fM_goalOf hc).mono (F := F_M_findFed) (by decide +kernel))
          exact gs10.tr ((fr_fM_findFed_b61 ih h))
        · exact gs9.tr ((fr_fM_findFed_b60 ih h))
      · exact gs9.tr ((fr_fM_findFed_b60 ih h))
    · exact g.tr ((fr_fM_findFed_h162 1048576 h))
theorem fr_fM_findFed {s : ev_M} {a1 : Int32} {q : ev_M} (h : fM_findFed s a1 = some q) : fr F_M_findFed s q := by
  have g : fr F_M_findFed s s := fr.rf
  refine fr_ltM h (Q := fr F_M_findFed s) (g.wI rfl) fun s12 gs12 h => ?_
  exact gs12.tr ((fr_fM_findFed_h7 1048576 h))
def F_M_doSort : List (Nat × (Nat × Nat)) := [(549, 549, 16), (549, 549, 24), (549, 549, 92), (549, 549, 130), (549, 549, 135), (549, 549, 142), (549, 549, 167), (583, 583, 0), (593, 593, 0), (595, 595, 0), (596, 596, 0), (597, 597, 0), (598, 598, 0), (602, 602, 0), (610, 610, 0), (640, 640, 0), (641, 641, 0), (642, 642, 0), (643, 643, 0), (644, 644, 0), (645, 645, 0), (646, 646, 0), (648, 648, 0), (668, 668, 0), (669, 669, 0), (670, 670, 0), (671, 671, 0), (672, 672, 0), (673, 673, 0), (674, 674, 0)]
theorem fr_fM_doSort_b100 {k78 : ev_M → Int32 → Int32 → Option (ev_M × Int32)} (hk78 : ∀ {s : ev_M} {z1 : Int32} {z2 : Int32} {q : ev_M × Int32} , k78 s z1 z2 = some q → fr F_M_doSort s q.1) {s : ev_M} {x1 : Int32} {x2 : Int32} {q : ev_M × Int32} (h : fM_doSort_b100 k78 s x1 x2 = some q) : fr F_M_doSort s q.1 := by
  have g : fr F_M_doSort s s := fr.rf
  refine fr_bd1 h fun s1 hc h => ?_
  have gs1 := g.tr ((fr_fM_pass hc).mono (F := F_M_doSort) (by decide +kernel))
  refine fr_ltI h fun v2 h => ?_
  refine fr_ltM h (Q := fr F_M_doSort s) (gs1.wI rfl) fun s3 gs3 h => ?_
  exact gs3.tr ((hk78 h))
theorem fr_fM_doSort_b203 {k130 : ev_M → Int32 → Int32 → Int32 → Option (ev_M × Int32)} (hk130 : ∀ {s : ev_M} {z1 : Int32} {z2 : Int32} {z3 : Int32} {q : ev_M × Int32} , k130 s z1 z2 z3 = some q → fr F_M_doSort s q.1) {s : ev_M} {x1 : Int32} {x3 : Int32} {x4 : Int32} {q : ev_M × Int32} (h : fM_doSort_b203 k130 s x1 x3 x4 = some q) : fr F_M_doSort s q.1 := by
  have g : fr F_M_doSort s s := fr.rf
  exact g.tr ((hk130 h))
theorem fr_fM_doSort_h130 : ∀ (n : Nat) {s : ev_M} {x1 : Int32} {x3 : Int32} {x4 : Int32} {q : ev_M × Int32} , fM_doSort_h130 n s x1 x3 x4 = some q → fr F_M_doSort s q.1 := by
  intro n
  induction n with
  | zero => intro s x1 x3 x4 q h; cases h
  | succ n ih =>
    intro s x1 x3 x4 q h
    have g : fr F_M_doSort s s := fr.rf
    refine fr_if h (fun h => ?_) fun h => ?_
    · refine fr_gd h fun c0 h => ?_
      refine fr_ltI h fun v4 h => ?_
      refine fr_gd h fun c1 h => ?_
      refine fr_if h (fun h => ?_) fun h => ?_
      · refine fr_bd1 h fun s5 hc h => ?_
        have gs5 := g.tr ((fr_fM_leaves hc).mono (F := F_M_doSort) (by decide +kernel))
        refine fr_gd h fun c2 h => ?_
        refine fr_ltM h (Q := fr F_M_doSort s) (gs5.wI rfl) fun s6 gs6 h => ?_
        refine fr_ltM h (Q := fr F_M_doSort s) (gs6.wI rfl) fun s7 gs7 h => ?_
        refine fr_gd h fun c3 h => ?_
        refine fr_ltM h (Q := fr F_M_doSort s) (gs7.wI rfl) fun s8 gs8 h => ?_
        refine fr_bd1 h fun s9 hc h => ?_
        have gs9 := gs8.tr ((fr_fM_comes hc).mono (F := F_M_doSort) (by decide +kernel))
        exact gs9.tr ((fr_fM_doSort_b203 ih h))
      · exact g.tr ((fr_fM_doSort_b203 ih h))
    · cases h; exact g
theorem fr_fM_doSort_b125 {s : ev_M} {x1 : Int32} {q : ev_M × Int32} (h : fM_doSort_b125 s x1 = some q) : fr F_M_doSort s q.1 := by
  have g : fr F_M_doSort s s := fr.rf
  exact g.tr ((fr_fM_doSort_h130 1048576 h))
theorem fr_fM_doSort_h78 : ∀ (n : Nat) {s : ev_M} {x1 : Int32} {x2 : Int32} {q : ev_M × Int32} , fM_doSort_h78 n s x1 x2 = some q → fr F_M_doSort s q.1 := by
  intro n
  induction n with
  | zero => intro s x1 x2 q h; cases h
  | succ n ih =>
    intro s x1 x2 q h
    have g : fr F_M_doSort s s := fr.rf
    refine fr_if h (fun h => ?_) fun h => ?_
    · exact g.tr ((fr_fM_doSort_b125 h))
    · refine fr_if h (fun h => ?_) fun h => ?_
      · exact g.tr ((fr_fM_doSort_b100 ih h))
      · refine fr_if h (fun h => ?_) fun h => ?_
        · exact g.tr ((fr_fM_doSort_b100 ih h))
        · exact g.tr ((fr_fM_doSort_b125 h))
theorem fr_fM_doSort_h46 : ∀ (n : Nat) {s : ev_M} {x1 : Int32} {x2 : Int32} {q : ev_M × Int32} , fM_doSort_h46 n s x1 x2 = some q → fr F_M_doSort s q.1 := by
  intro n
  induction n with
  | zero => intro s x1 x2 q h; cases h
  | succ n ih =>
    intro s x1 x2 q h
    have g : fr F_M_doSort s s := fr.rf
    refine fr_if h (fun h => ?_) fun h => ?_
    · refine fr_gd h fun c0 h => ?_
      refine fr_ltM h (Q := fr F_M_doSort s) (g.wI rfl) fun s10 gs10 h => ?_
      exact gs10.tr ((ih h))
    · refine fr_bd1 h fun s11 hc h => ?_
      have gs11 := g.tr ((fr_fM_findFed hc).mono (F := F_M_doSort) (by decide +kernel))
      refine fr_ltM h (Q := fr F_M_doSort s) (gs11.wI rfl) fun s12 gs12 h => ?_
      exact gs12.tr ((fr_fM_doSort_h78 1048576 h))
theorem fr_fM_doSort {s : ev_M} {a1 : Int32} {q : ev_M × Int32} (h : fM_doSort s a1 = some q) : fr F_M_doSort s q.1 := by
  have g : fr F_M_doSort s s := fr.rf
  refine fr_bd1 h fun v13 hc h => ?_
  refine fr_if h (fun h => ?_) fun h => ?_
  · refine fr_bd2 h fun s14 v15 hc h => ?_
    have gs14 : fr F_M_doSort s s14 := g.tr ((fr_fM_no hc).mono (F := F_M_doSort) (by decide +kernel))
    cases h; exact gs14
  · refine fr_bd1 h fun v16 hc h => ?_
    refine fr_if h (fun h => ?_) fun h => ?_
    · refine fr_bd1 h fun v17 hc h => ?_
      refine fr_if h (fun h => ?_) fun h => ?_
      · exact g.tr ((fr_fM_doSort_h46 1048576 h))
      · refine fr_bd2 h fun s18 v19 hc h => ?_
        have gs18 : fr F_M_doSort s s18 := g.tr ((fr_fM_no hc).mono (F := F_M_doSort) (by decide +kernel))
        cases h; exact gs18
    · refine fr_bd2 h fun s20 v21 hc h => ?_
      have gs20 : fr F_M_doSort s s20 := g.tr ((fr_fM_no hc).mono (F := F_M_doSort) (by decide +kernel))
      cases h; exact gs20
def F_M_doOut : List (Nat × (Nat × Nat)) := [(549, 549, 16), (549, 549, 130), (549, 549, 135), (583, 583, 0), (593, 593, 0), (595, 595, 0), (597, 597, 0), (598, 598, 0), (602, 602, 0), (640, 640, 0), (641, 641, 0), (642, 642, 0), (643, 643, 0), (644, 644, 0), (645, 645, 0), (646, 646, 0)]
theorem fr_fM_doOut_h48 : ∀ (n : Nat) {s : ev_M} {x1 : Int32} {x2 : Int32} {x3 : Int32} {q : ev_M × Int32} , fM_doOut_h48 n s x1 x2 x3 = some q → fr F_M_doOut s q.1 := by
  intro n
  induction n with
  | zero => intro s x1 x2 x3 q h; cases h
  | succ n ih =>
    intro s x1 x2 x3 q h
    have g : fr F_M_doOut s s := fr.rf
    refine fr_if h (fun h => ?_) fun h => ?_
    · refine fr_bd1 h fun v1 hc h => ?_
      refine fr_bd1 h fun s2 hc h => ?_
      have gs2 := g.tr ((fr_fM_leaves hc).mono (F := F_M_doOut) (by decide +kernel))
      refine fr_bd1 h fun s3 hc h => ?_
      have gs3 := gs2.tr ((fr_fM_comes hc).mono (F := F_M_doOut) (by decide +kernel))
      exact gs3.tr ((ih h))
    · cases h; exact g
theorem fr_fM_doOut {s : ev_M} {a1 : Int32} {q : ev_M × Int32} (h : fM_doOut s a1 = some q) : fr F_M_doOut s q.1 := by
  have g : fr F_M_doOut s s := fr.rf
  refine fr_bd1 h fun v4 hc h => ?_
  refine fr_if h (fun h => ?_) fun h => ?_
  · refine fr_bd2 h fun s5 v6 hc h => ?_
    have gs5 : fr F_M_doOut s s5 := g.tr ((fr_fM_no hc).mono (F := F_M_doOut) (by decide +kernel))
    cases h; exact gs5
  · refine fr_bd1 h fun v7 hc h => ?_
    refine fr_if h (fun h => ?_) fun h => ?_
    · refine fr_bd2 h fun s8 v9 hc h => ?_
      have gs8 : fr F_M_doOut s s8 := g.tr ((fr_fM_no hc).mono (F := F_M_doOut) (by decide +kernel))
      cases h; exact gs8
    · refine fr_bd1 h fun v10 hc h => ?_
      refine fr_if h (fun h => ?_) fun h => ?_
      · exact g.tr ((fr_fM_doOut_h48 1048576 h))
      · refine fr_bd2 h fun s11 v12 hc h => ?_
        have gs11 : fr F_M_doOut s s11 := g.tr ((fr_fM_no hc).mono (F := F_M_doOut) (by decide +kernel))
        cases h; exact gs11
def F_M_doLeg : List (Nat × (Nat × Nat)) := [(549, 549, 16), (549, 549, 94), (611, 611, 0), (612, 612, 0), (613, 613, 0), (614, 614, 0), (615, 615, 0), (616, 616, 0), (617, 617, 0)]
theorem fr_fM_doLeg_b16 {s : ev_M} {q : ev_M × Int32} (h : fM_doLeg_b16 s = some q) : fr F_M_doLeg s q.1 := by
  have g : fr F_M_doLeg s s := fr.rf
  refine fr_bd2 h fun s1 v2 hc h => ?_
  have gs1 : fr F_M_doLeg s s1 := g.tr ((fr_fM_no hc).mono (F := F_M_doLeg) (by decide +kernel))
  cases h; exact gs1
theorem fr_fM_doLeg_b62 {s : ev_M} {q : ev_M × Int32} (h : fM_doLeg_b62 s = some q) : fr F_M_doLeg s q.1 := by
  have g : fr F_M_doLeg s s := fr.rf
  refine fr_bd2 h fun s3 v4 hc h => ?_
  have gs3 : fr F_M_doLeg s s3 := g.tr ((fr_fM_no hc).mono (F := F_M_doLeg) (by decide +kernel))
  cases h; exact gs3
theorem fr_fM_doLeg_b85 {s : ev_M} {q : ev_M × Int32} (h : fM_doLeg_b85 s = some q) : fr F_M_doLeg s q.1 := by
  have g : fr F_M_doLeg s s := fr.rf
  refine fr_bd2 h fun s5 v6 hc h => ?_
  have gs5 : fr F_M_doLeg s s5 := g.tr ((fr_fM_no hc).mono (F := F_M_doLeg) (by decide +kernel))
  cases h; exact gs5
theorem fr_fM_doLeg {s : ev_M} {a1 : Int32} {a2 : Int32} {a3 : Int32} {a4 : Int32} {a5 : Int32} {q : ev_M × Int32} (h : fM_doLeg s a1 a2 a3 a4 a5 = some q) : fr F_M_doLeg s q.1 := by
  have g : fr F_M_doLeg s s := fr.rf
  refine fr_bd1 h fun v7 hc h => ?_
  refine fr_if h (fun h => ?_) fun h => ?_
  · exact g.tr ((fr_fM_doLeg_b16 h))
  · refine fr_bd1 h fun v8 hc h => ?_
    refine fr_if h (fun h => ?_) fun h => ?_
    · exact g.tr ((fr_fM_doLeg_b16 h))
    · refine fr_if h (fun h => ?_) fun h => ?_
      · exact g.tr ((fr_fM_doLeg_b62 h))
      · refine fr_bd1 h fun v9 hc h => ?_
        refine fr_if h (fun h => ?_) fun h => ?_
        · exact g.tr ((fr_fM_doLeg_b62 h))
        · refine fr_bd1 h fun v10 hc h => ?_
          refine fr_if h (fun h => ?_) fun h => ?_
          · exact g.tr ((fr_fM_doLeg_b62 h))
          · refine fr_bd1 h fun v11 hc h => ?_
            refine fr_if h (fun h => ?_) fun h => ?_
            · exact g.tr ((fr_fM_doLeg_b62 h))
            · refine fr_if h (fun h => ?_) fun h => ?_
              · exact g.tr ((fr_fM_doLeg_b85 h))
              · refine fr_bd1 h fun v12 hc h => ?_
                refine fr_if h (fun h => ?_) fun h => ?_
                · refine fr_gd h fun c0 h => ?_
                  refine fr_ltM h (Q := fr F_M_doLeg s) (g.wI rfl) fun s13 gs13 h => ?_
                  refine fr_gd h fun c1 h => ?_
                  refine fr_ltM h (Q := fr F_M_doLeg s) (gs13.wI rfl) fun s14 gs14 h => ?_
                  refine fr_gd h fun c2 h => ?_
                  refine fr_ltM h (Q := fr F_M_doLeg s) (gs14.wI rfl) fun s15 gs15 h => ?_
                  refine fr_gd h fun c3 h => ?_
                  refine fr_ltM h (Q := fr F_M_doLeg s) (gs15.wI rfl) fun s16 gs16 h => ?_
                  refine fr_gd h fun c4 h => ?_
                  refine fr_ltM h (Q := fr F_M_doLeg s) (gs16.wI rfl) fun s17 gs17 h => ?_
                  refine fr_bd1 h fun v18 hc h => ?_
                  refine fr_gd h fun c5 h => ?_
                  refine fr_ltM h (Q := fr F_M_doLeg s) (gs17.wI rfl) fun s19 gs19 h => ?_
                  refine fr_gd h fun c6 h => ?_
                  refine fr_ltM h (Q := fr F_M_doLeg s) (gs19.wI rfl) fun s20 gs20 h => ?_
                  refine fr_ltM h (Q := fr F_M_doLeg s) (gs20.wI rfl) fun s21 gs21 h => ?_
                  cases h; exact gs21
                · exact g.tr ((fr_fM_doLeg_b85 h))
def F_M_doLate : List (Nat × (Nat × Nat)) := [(549, 549, 16), (616, 616, 0), (617, 617, 0)]
theorem fr_fM_doLate {s : ev_M} {a1 : Int32} {a2 : Int32} {q : ev_M × Int32} (h : fM_doLate s a1 a2 = some q) : fr F_M_doLate s q.1 := by
  have g : fr F_M_doLate s s := fr.rf
  refine fr_bd1 h fun v1 hc h => ?_
  refine fr_if h (fun h => ?_) fun h => ?_
  · refine fr_bd2 h fun s2 v3 hc h => ?_
    have gs2 : fr F_M_doLate s s2 := g.tr ((fr_fM_no hc).mono (F := F_M_doLate) (by decide +kernel))
    cases h; exact gs2
  · refine fr_bd1 h fun v4 hc h => ?_
    refine fr_if h (fun h => ?_) fun h => ?_
    · refine fr_bd2 h fun s5 v6 hc h => ?_
      have gs5 : fr F_M_doLate s s5 := g.tr ((fr_fM_no hc).mono (F := F_M_doLate) (by decide +kernel))
      cases h; exact gs5
    · refine fr_bd1 h fun v7 hc h => ?_
      refine fr_if h (fun h => ?_) fun h => ?_
      · refine fr_gd h fun c0 h => ?_
        refine fr_gd h fun c1 h => ?_
        refine fr_ltM h (Q := fr F_M_doLate s) (g.wI rfl) fun s8 gs8 h => ?_
        refine fr_gd h fun c2 h => ?_
        refine fr_gd h fun c3 h => ?_
        refine fr_ltM h (Q := fr F_M_doLate s) (gs8.wI rfl) fun s9 gs9 h => ?_
        refine fr_gd h fun c4 h => ?_
        cases h; exact gs9
      · refine fr_bd2 h fun s10 v11 hc h => ?_
        have gs10 : fr F_M_doLate s s10 := g.tr ((fr_fM_no hc).mono (F := F_M_doLate) (by decide +kernel))
        cases h; exact gs10
def F_M_doBag : List (Nat × (Nat × Nat)) := [(549, 549, 16), (549, 549, 102), (618, 618, 0), (619, 619, 0), (620, 620, 0), (621, 621, 0), (622, 622, 0)]
theorem fr_fM_doBag_b16 {s : ev_M} {q : ev_M × Int32} (h : fM_doBag_b16 s = some q) : fr F_M_doBag s q.1 := by
  have g : fr F_M_doBag s s := fr.rf
  refine fr_bd2 h fun s1 v2 hc h => ?_
  have gs1 : fr F_M_doBag s s1 := g.tr ((fr_fM_no hc).mono (F := F_M_doBag) (by decide +kernel))
  cases h; exact gs1
theorem fr_fM_doBag_b51 {s : ev_M} {q : ev_M × Int32} (h : fM_doBag_b51 s = some q) : fr F_M_doBag s q.1 := by
  have g : fr F_M_doBag s s := fr.rf
  refine fr_bd2 h fun s3 v4 hc h => ?_
  have gs3 : fr F_M_doBag s s3 := g.tr ((fr_fM_no hc).mono (F := F_M_doBag) (by decide +kernel))
  cases h; exact gs3
theorem fr_fM_doBag {s : ev_M} {a1 : Int32} {a2 : Int32} {q : ev_M × Int32} (h : fM_doBag s a1 a2 = some q) : fr F_M_doBag s q.1 := by
  have g : fr F_M_doBag s s := fr.rf
  refine fr_bd1 h fun v5 hc h => ?_
  refine fr_if h (fun h => ?_) fun h => ?_
  · exact g.tr ((fr_fM_doBag_b16 h))
  · refine fr_bd1 h fun v6 hc h => ?_
    refine fr_if h (fun h => ?_) fun h => ?_
    · exact g.tr ((fr_fM_doBag_b16 h))
    · refine fr_if h (fun h => ?_) fun h => ?_
      · refine fr_bd2 h fun s7 v8 hc h => ?_
        have gs7 : fr F_M_doBag s s7 := g.tr ((fr_fM_no hc).mono (F := F_M_doBag) (by decide +kernel))
        cases h; exact gs7
      · refine fr_if h (fun h => ?_) fun h => ?_
        · exact g.tr ((fr_fM_doBag_b51 h))
        · refine fr_bd1 h fun v9 hc h => ?_
          refine fr_if h (fun h => ?_) fun h => ?_
          · refine fr_gd h fun c0 h => ?_
            refine fr_ltM h (Q := fr F_M_doBag s) (g.wI rfl) fun s10 gs10 h => ?_
            refine fr_gd h fun c1 h => ?_
            refine fr_ltM h (Q := fr F_M_doBag s) (gs10.wI rfl) fun s11 gs11 h => ?_
            refine fr_gd h fun c2 h => ?_
            refine fr_ltM h (Q := fr F_M_doBag s) (gs11.wI rfl) fun s12 gs12 h => ?_
            refine fr_gd h fun c3 h => ?_
            refine fr_ltM h (Q := fr F_M_doBag s) (gs12.wI rfl) fun s13 gs13 h => ?_
            refine fr_gd h fun c4 h => ?_
            refine fr_ltM h (Q := fr F_M_doBag s) (gs13.wI rfl) fun s14 gs14 h => ?_
            refine fr_ltM h (Q := fr F_M_doBag s) (gs14.wI rfl) fun s15 gs15 h => ?_
            cases h; exact gs15
          · exact g.tr ((fr_fM_doBag_b51 h))
def F_M_doInto : List (Nat × (Nat × Nat)) := [(549, 549, 16), (549, 549, 24), (549, 549, 130), (549, 549, 135), (549, 549, 142), (583, 583, 0), (593, 593, 0), (594, 594, 0), (595, 595, 0), (597, 597, 0), (598, 598, 0), (602, 602, 0), (640, 640, 0), (641, 641, 0), (642, 642, 0), (643, 643, 0), (644, 644, 0), (645, 645, 0), (646, 646, 0), (648, 648, 0)]
theorem fr_fM_doInto_b16 {s : ev_M} {q : ev_M × Int32} (h : fM_doInto_b16 s = some q) : fr F_M_doInto s q.1 := by
  have g : fr F_M_doInto s s := fr.rf
  refine fr_bd2 h fun s1 v2 hc h => ?_
  have gs1 : fr F_M_doInto s s1 := g.tr ((fr_fM_no hc).mono (F := F_M_doInto) (by decide +kernel))
  cases h; exact gs1
theorem fr_fM_doInto_b67 {s : ev_M} {q : ev_M × Int32} (h : fM_doInto_b67 s = some q) : fr F_M_doInto s q.1 := by
  have g : fr F_M_doInto s s := fr.rf
  refine fr_bd2 h fun s3 v4 hc h => ?_
  have gs3 : fr F_M_doInto s s3 := g.tr ((fr_fM_no hc).mono (F := F_M_doInto) (by decide +kernel))
  cases h; exact gs3
theorem fr_fM_doInto_b125 {s : ev_M} {q : ev_M × Int32} (h : fM_doInto_b125 s = some q) : fr F_M_doInto s q.1 := by
  have g : fr F_M_doInto s s := fr.rf
  refine fr_bd2 h fun s5 v6 hc h => ?_
  have gs5 : fr F_M_doInto s s5 := g.tr ((fr_fM_no hc).mono (F := F_M_doInto) (by decide +kernel))
  cases h; exact gs5
theorem fr_fM_doInto {s : ev_M} {a1 : Int32} {a2 : Int32} {q : ev_M × Int32} (h : fM_doInto s a1 a2 = some q) : fr F_M_doInto s q.1 := by
  have g : fr F_M_doInto s s := fr.rf
  refine fr_bd1 h fun v7 hc h => ?_
  refine fr_if h (fun h => ?_) fun h => ?_
  · exact g.tr ((fr_fM_doInto_b16 h))
  · refine fr_bd1 h fun v8 hc h => ?_
    refine fr_if h (fun h => ?_) fun h => ?_
    · exact g.tr ((fr_fM_doInto_b16 h))
    · refine fr_gd h fun c0 h => ?_
      refine fr_if h (fun h => ?_) fun h => ?_
      · refine fr_gd h fun c1 h => ?_
        refine fr_if h (fun h => ?_) fun h => ?_
        · refine fr_gd h fun c2 h => ?_
          refine fr_gd h fun c3 h => ?_
          refine fr_if h (fun h => ?_) fun h => ?_
          · refine fr_gd h fun c4 h => ?_
            refine fr_if h (fun h => ?_) fun h => ?_
            · exact g.tr ((fr_fM_doInto_b67 h))
            · refine fr_bd2 h fun s9 v10 hc h => ?_
              have gs9 : fr F_M_doInto s s9 := g.tr ((fr_fM_goalOf hc).mono (F := F_M_doInto) (by decide +kernel))
              refine fr_bd1 h fun v11 hc h => ?_
              refine fr_gd h fun c5 h => ?_
              refine fr_if h (fun h => ?_) fun h => ?_
              · refine fr_bd1 h fun v12 hc h => ?_
                refine fr_if h (fun h => ?_) fun h => ?_
                · exact gs9.tr ((fr_fM_doInto_b125 h))
                · refine fr_bd1 h fun v13 hc h => ?_
                  refine fr_if h (fun h => ?_) fun h => ?_
                  · refine fr_bd1 h fun s14 hc h => ?_
                    have gs14 := gs9.tr ((fr_fM_leaves hc).mono (F := F_M_doInto) (by decide +kernel))
                    refine fr_gd h fun c6 h => ?_
                    refine fr_ltM h (Q := fr F_M_doInto s) (gs14.wI rfl) fun s15 gs15 h => ?_
                    refine fr_ltM h (Q := fr F_M_doInto s) (gs15.wI rfl) fun s16 gs16 h => ?_
                    refine fr_gd h fun c7 h => ?_
                    refine fr_ltM h (Q := fr F_M_doInto s) (gs16.wI rfl) fun s17 gs17 h => ?_
                    refine fr_bd1 h fun s18 hc h => ?_
                    have gs18 := gs17.tr ((fr_fM_comes hc).mono (F := F_M_doInto) (by decide +kernel))
                    cases h; exact gs18
                  · exact gs9.tr ((fr_fM_doInto_b125 h))
              · refine fr_bd2 h fun s19 v20 hc h => ?_
                have gs19 : fr F_M_doInto s s19 := gs9.tr ((fr_fM_no hc).mono (F := F_M_doInto) (by decide +kernel))
                cases h; exact gs19
          · exact g.tr ((fr_fM_doInto_b67 h))
        · exact g.tr ((fr_fM_doInto_b67 h))
      · exact g.tr ((fr_fM_doInto_b67 h))
def F_M_doClose : List (Nat × (Nat × Nat)) := [(549, 549, 16), (618, 618, 0)]
theorem fr_fM_doClose {s : ev_M} {a1 : Int32} {q : ev_M × Int32} (h : fM_doClose s a1 = some q) : fr F_M_doClose s q.1 := by
  have g : fr F_M_doClose s s := fr.rf
  refine fr_bd1 h fun v1 hc h => ?_
  refine fr_if h (fun h => ?_) fun h => ?_
  · refine fr_bd2 h fun s2 v3 hc h => ?_
    have gs2 : fr F_M_doClose s s2 := g.tr ((fr_fM_no hc).mono (F := F_M_doClose) (by decide +kernel))
    cases h; exact gs2
  · refine fr_gd h fun c0 h => ?_
    refine fr_if h (fun h => ?_) fun h => ?_
    · refine fr_bd1 h fun v4 hc h => ?_
      refine fr_if h (fun h => ?_) fun h => ?_
      · refine fr_gd h fun c1 h => ?_
        refine fr_ltM h (Q := fr F_M_doClose s) (g.wI rfl) fun s5 gs5 h => ?_
        refine fr_bd1 h fun v6 hc h => ?_
        cases h; exact gs5
      · refine fr_bd2 h fun s7 v8 hc h => ?_
        have gs7 : fr F_M_doClose s s7 := g.tr ((fr_fM_no hc).mono (F := F_M_doClose) (by decide +kernel))
        cases h; exact gs7
    · refine fr_bd2 h fun s9 v10 hc h => ?_
      have gs9 : fr F_M_doClose s s9 := g.tr ((fr_fM_no hc).mono (F := F_M_doClose) (by decide +kernel))
      cases h; exact gs9
def F_M_doOpen : List (Nat × (Nat × Nat)) := [(549, 549, 16), (549, 549, 24), (549, 549, 130), (549, 549, 135), (583, 583, 0), (591, 591, 0), (592, 592, 0), (593, 593, 0), (595, 595, 0), (597, 597, 0), (598, 598, 0), (602, 602, 0), (618, 618, 0), (640, 640, 0), (641, 641, 0), (642, 642, 0), (643, 643, 0), (644, 644, 0), (645, 645, 0), (646, 646, 0)]
theorem fr_fM_doOpen_b40 {s : ev_M} {q : ev_M × Int32} (h : fM_doOpen_b40 s = some q) : fr F_M_doOpen s q.1 := by
  have g : fr F_M_doOpen s s := fr.rf
  refine fr_bd2 h fun s1 v2 hc h => ?_
  have gs1 : fr F_M_doOpen s s1 := g.tr ((fr_fM_no hc).mono (F := F_M_doOpen) (by decide +kernel))
  cases h; exact gs1
theorem fr_fM_doOpen_b137 {k76 : ev_M → Int32 → Int32 → Int32 → Option (ev_M × Int32)} {k87 : ev_M → Int32 → Int32 → Int32 → Int32 → Int32 → Option (ev_M × Int32)} (hk76 : ∀ {s : ev_M} {z1 : Int32} {z2 : Int32} {z3 : Int32} {q : ev_M × Int32} , k76 s z1 z2 z3 = some q → fr F_M_doOpen s q.1) (hk87 : ∀ {s : ev_M} {z1 : Int32} {z2 : Int32} {z3 : Int32} {z4 : Int32} {z5 : Int32} {q : ev_M × Int32} , k87 s z1 z2 z3 z4 z5 = some q → fr F_M_doOpen s q.1) {s : ev_M} {x1 : Int32} {x2 : Int32} {x3 : Int32} {x5 : Int32} {y0 : Int32} {q : ev_M × Int32} (h : fM_doOpen_b137 k76 k87 s x1 x2 x3 x5 y0 = some q) : fr F_M_doOpen s q.1 := by
  have g : fr F_M_doOpen s s := fr.rf
  exact g.tr ((hk87 h))
theorem fr_fM_doOpen_b130 {k76 : ev_M → Int32 → Int32 → Int32 → Option (ev_M × Int32)} {k87 : ev_M → Int32 → Int32 → Int32 → Int32 → Int32 → Option (ev_M × Int32)} (hk76 : ∀ {s : ev_M} {z1 : Int32} {z2 : Int32} {z3 : Int32} {q : ev_M × Int32} , k76 s z1 z2 z3 = some q → fr F_M_doOpen s q.1) (hk87 : ∀ {s : ev_M} {z1 : Int32} {z2 : Int32} {z3 : Int32} {z4 : Int32} {z5 : Int32} {q : ev_M × Int32} , k87 s z1 z2 z3 z4 z5 = some q → fr F_M_doOpen s q.1) {s : ev_M} {x1 : Int32} {x2 : Int32} {x3 : Int32} {x5 : Int32} {q : ev_M × Int32} (h : fM_doOpen_b130 k76 k87 s x1 x2 x3 x5 = some q) : fr F_M_doOpen s q.1 := by
  have g : fr F_M_doOpen s s := fr.rf
  exact g.tr ((fr_fM_doOpen_b137 hk76 hk87 h))
theorem fr_fM_doOpen_b135 {k76 : ev_M → Int32 → Int32 → Int32 → Option (ev_M × Int32)} {k87 : ev_M → Int32 → Int32 → Int32 → Int32 → Int32 → Option (ev_M × Int32)} (hk76 : ∀ {s : ev_M} {z1 : Int32} {z2 : Int32} {z3 : Int32} {q : ev_M × Int32} , k76 s z1 z2 z3 = some q → fr F_M_doOpen s q.1) (hk87 : ∀ {s : ev_M} {z1 : Int32} {z2 : Int32} {z3 : Int32} {z4 : Int32} {z5 : Int32} {q : ev_M × Int32} , k87 s z1 z2 z3 z4 z5 = some q → fr F_M_doOpen s q.1) {s : ev_M} {x1 : Int32} {x2 : Int32} {x3 : Int32} {x4 : Int32} {x5 : Int32} {q : ev_M × Int32} (h : fM_doOpen_b135 k76 k87 s x1 x2 x3 x4 x5 = some q) : fr F_M_doOpen s q.1 := by
  have g : fr F_M_doOpen s s := fr.rf
  exact g.tr ((fr_fM_doOpen_b137 hk76 hk87 h))
theorem fr_fM_doOpen_h87 {k76 : ev_M → Int32 → Int32 → Int32 → Option (ev_M × Int32)} (hk76 : ∀ {s : ev_M} {z1 : Int32} {z2 : Int32} {z3 : Int32} {q : ev_M × Int32} , k76 s z1 z2 z3 = some q → fr F_M_doOpen s q.1) : ∀ (n : Nat) {s : ev_M} {x1 : Int32} {x2 : Int32} {x3 : Int32} {x4 : Int32} {x5 : Int32} {q : ev_M × Int32} , fM_doOpen_h87 k76 n s x1 x2 x3 x4 x5 = some q → fr F_M_doOpen s q.1 := by
  intro n
  induction n with
  | zero => intro s x1 x2 x3 x4 x5 q h; cases h
  | succ n ih =>
    intro s x1 x2 x3 x4 x5 q h
    have g : fr F_M_doOpen s s := fr.rf
    refine fr_if h (fun h => ?_) fun h => ?_
    · refine fr_gd h fun c0 h => ?_
      refine fr_if h (fun h => ?_) fun h => ?_
      · refine fr_if h (fun h => ?_) fun h => ?_
        · exact g.tr ((fr_fM_doOpen_b130 hk76 ih h))
        · refine fr_gd h fun c1 h => ?_
          refine fr_gd h fun c2 h => ?_
          refine fr_if h (fun h => ?_) fun h => ?_
          · exact g.tr ((fr_fM_doOpen_b130 hk76 ih h))
          · exact g.tr ((fr_fM_doOpen_b135 hk76 ih h))
      · exact g.tr ((fr_fM_doOpen_b135 hk76 ih h))
    · refine fr_gd h fun c0 h => ?_
      refine fr_bd1 h fun s3 hc h => ?_
      have gs3 := g.tr ((fr_fM_comesIn hc).mono (F := F_M_doOpen) (by decide +kernel))
      exact gs3.tr ((hk76 h))
theorem fr_fM_doOpen_h76 : ∀ (n : Nat) {s : ev_M} {x1 : Int32} {x2 : Int32} {x3 : Int32} {q : ev_M × Int32} , fM_doOpen_h76 n s x1 x2 x3 = some q → fr F_M_doOpen s q.1 := by
  intro n
  induction n with
  | zero => intro s x1 x2 x3 q h; cases h
  | succ n ih =>
    intro s x1 x2 x3 q h
    have g : fr F_M_doOpen s s := fr.rf
    refine fr_if h (fun h => ?_) fun h => ?_
    · exact g.tr ((fr_fM_doOpen_h87 ih 1048576 h))
    · cases h; exact g
theorem fr_fM_doOpen {s : ev_M} {a1 : Int32} {q : ev_M × Int32} (h : fM_doOpen s a1 = some q) : fr F_M_doOpen s q.1 := by
  have g : fr F_M_doOpen s s := fr.rf
  refine fr_bd1 h fun v4 hc h => ?_
  refine fr_if h (fun h => ?_) fun h => ?_
  · refine fr_bd2 h fun s5 v6 hc h => ?_
    have gs5 : fr F_M_doOpen s s5 := g.tr ((fr_fM_no hc).mono (F := F_M_doOpen) (by decide +kernel))
    cases h; exact gs5
  · refine fr_gd h fun c0 h => ?_
    refine fr_if h (fun h => ?_) fun h => ?_
    · refine fr_gd h fun c1 h => ?_
      refine fr_gd h fun c2 h => ?_
      refine fr_if h (fun h => ?_) fun h => ?_
      · refine fr_bd1 h fun v7 hc h => ?_
        refine fr_if h (fun h => ?_) fun h => ?_
        · refine fr_gd h fun c3 h => ?_
          refine fr_ltM h (Q := fr F_M_doOpen s) (g.wI rfl) fun s8 gs8 h => ?_
          refine fr_bd1 h fun v9 hc h => ?_
          exact gs8.tr ((fr_fM_doOpen_h76 1048576 h))
        · refine fr_bd2 h fun s10 v11 hc h => ?_
          have gs10 : fr F_M_doOpen s s10 := g.tr ((fr_fM_no hc).mono (F := F_M_doOpen) (by decide +kernel))
          cases h; exact gs10
      · exact g.tr ((fr_fM_doOpen_b40 h))
    · exact g.tr ((fr_fM_doOpen_b40 h))
def F_M_pay : List (Nat × (Nat × Nat)) := [(549, 549, 115), (628, 628, 0), (629, 629, 0), (630, 630, 0), (631, 631, 0)]
theorem fr_fM_pay {s : ev_M} {a1 : Int32} {a2 : Int32} {a3 : Int32} {a4 : Int32} {q : ev_M} (h : fM_pay s a1 a2 a3 a4 = some q) : fr F_M_pay s q := by
  have g : fr F_M_pay s s := fr.rf
  refine fr_if h (fun h => ?_) fun h => ?_
  · cases h; exact g
  · refine fr_gd h fun c0 h => ?_
    refine fr_ltM h (Q := fr F_M_pay s) (g.wI rfl) fun s1 gs1 h => ?_
    refine fr_gd h fun c1 h => ?_
    refine fr_ltM h (Q := fr F_M_pay s) (gs1.wI rfl) fun s2 gs2 h => ?_
    refine fr_gd h fun c2 h => ?_
    refine fr_ltM h (Q := fr F_M_pay s) (gs2.wI rfl) fun s3 gs3 h => ?_
    refine fr_gd h fun c3 h => ?_
    refine fr_ltM h (Q := fr F_M_pay s) (gs3.wI rfl) fun s4 gs4 h => ?_
    refine fr_ltM h (Q := fr F_M_pay s) (gs4.wI rfl) fun s5 gs5 h => ?_
    cases h; exact gs5
def F_M_handOver : List (Nat × (Nat × Nat)) := [(549, 549, 16), (549, 549, 115), (549, 549, 130), (549, 549, 135), (583, 583, 0), (593, 593, 0), (595, 595, 0), (597, 597, 0), (598, 598, 0), (602, 602, 0), (628, 628, 0), (629, 629, 0), (630, 630, 0), (631, 631, 0), (640, 640, 0), (641, 641, 0), (642, 642, 0), (643, 643, 0), (644, 644, 0), (645, 645, 0), (646, 646, 0)]
theorem fr_fM_handOver_b48 {s : ev_M} {q : ev_M × Int32} (h : fM_handOver_b48 s = some q) : fr F_M_handOver s q.1 := by
  have g : fr F_M_handOver s s := fr.rf
  refine fr_bd2 h fun s1 v2 hc h => ?_
  have gs1 : fr F_M_handOver s s1 := g.tr ((fr_fM_no hc).mono (F := F_M_handOver) (by decide +kernel))
  cases h; exact gs1
theorem fr_fM_handOver_b94 {s : ev_M} {q : ev_M × Int32} (h : fM_handOver_b94 s = some q) : fr F_M_handOver s q.1 := by
  have g : fr F_M_handOver s s := fr.rf
  refine fr_bd2 h fun s3 v4 hc h => ?_
  have gs3 : fr F_M_handOver s s3 := g.tr ((fr_fM_no hc).mono (F := F_M_handOver) (by decide +kernel))
  cases h; exact gs3
theorem fr_fM_handOver_b230 {s : ev_M} {q : ev_M × Int32} (h : fM_handOver_b230 s = some q) : fr F_M_handOver s q.1 := by
  have g : fr F_M_handOver s s := fr.rf
  refine fr_bd2 h fun s5 v6 hc h => ?_
  have gs5 : fr F_M_handOver s s5 := g.tr ((fr_fM_no hc).mono (F := F_M_handOver) (by decide +kernel))
  cases h; exact gs5
theorem fr_fM_handOver_b212 {s : ev_M} {x1 : Int32} {x6 : Int32} {x7 : Int32} {y1 : Int32} {y2 : Int32} {q : ev_M × Int32} (h : fM_handOver_b212 s x1 x6 x7 y1 y2 = some q) : fr F_M_handOver s q.1 := by
  have g : fr F_M_handOver s s := fr.rf
  refine fr_bd1 h fun v7 hc h => ?_
  refine fr_bd1 h fun v8 hc h => ?_
  refine fr_if h (fun h => ?_) fun h => ?_
  · refine fr_bd1 h fun v9 hc h => ?_
    refine fr_if h (fun h => ?_) fun h => ?_
    · refine fr_bd1 h fun s10 hc h => ?_
      have gs10 := g.tr ((fr_fM_leaves hc).mono (F := F_M_handOver) (by decide +kernel))
      refine fr_bd1 h fun s11 hc h => ?_
      have gs11 := gs10.tr ((fr_fM_comes hc).mono (F := F_M_handOver) (by decide +kernel))
      refine fr_bd1 h fun s12 hc h => ?_
      have gs12 := gs11.tr ((fr_fM_pay hc).mono (F := F_M_handOver) (by decide +kernel))
      refine fr_gd h fun c0 h => ?_
      refine fr_bd1 h fun s13 hc h => ?_
      have gs13 := gs12.tr ((fr_fM_pay hc).mono (F := F_M_handOver) (by decide +kernel))
      cases h; exact gs13
    · exact g.tr ((fr_fM_handOver_b230 h))
  · exact g.tr ((fr_fM_handOver_b230 h))
theorem fr_fM_handOver_b202 {s : ev_M} {x1 : Int32} {x6 : Int32} {x7 : Int32} {y1 : Int32} {q : ev_M × Int32} (h : fM_handOver_b202 s x1 x6 x7 y1 = some q) : fr F_M_handOver s q.1 := by
  have g : fr F_M_handOver s s := fr.rf
  refine fr_if h (fun h => ?_) fun h => ?_
  · exact g.tr ((fr_fM_handOver_b212 h))
  · exact g.tr ((fr_fM_handOver_b212 h))
theorem fr_fM_handOver_b160 {s : ev_M} {x1 : Int32} {x4 : Int32} {q : ev_M × Int32} (h : fM_handOver_b160 s x1 x4 = some q) : fr F_M_handOver s q.1 := by
  have g : fr F_M_handOver s s := fr.rf
  refine fr_bd1 h fun v14 hc h => ?_
  refine fr_bd1 h fun v15 hc h => ?_
  refine fr_if h (fun h => ?_) fun h => ?_
  · refine fr_if h (fun h => ?_) fun h => ?_
    · exact g.tr ((fr_fM_handOver_b202 h))
    · exact g.tr ((fr_fM_handOver_b202 h))
  · refine fr_bd2 h fun s16 v17 hc h => ?_
    have gs16 : fr F_M_handOver s s16 := g.tr ((fr_fM_no hc).mono (F := F_M_handOver) (by decide +kernel))
    cases h; exact gs16
theorem fr_fM_handOver_b138 {s : ev_M} {x1 : Int32} {x3 : Int32} {x4 : Int32} {q : ev_M × Int32} (h : fM_handOver_b138 s x1 x3 x4 = some q) : fr F_M_handOver s q.1 := by
  have g : fr F_M_handOver s s := fr.rf
  refine fr_gd h fun c0 h => ?_
  refine fr_if h (fun h => ?_) fun h => ?_
  · exact g.tr ((fr_fM_handOver_b160 h))
  · refine fr_if h (fun h => ?_) fun h => ?_
    · refine fr_bd2 h fun s18 v19 hc h => ?_
      have gs18 : fr F_M_handOver s s18 := g.tr ((fr_fM_no hc).mono (F := F_M_handOver) (by decide +kernel))
      cases h; exact gs18
    · exact g.tr ((fr_fM_handOver_b160 h))
theorem fr_fM_handOver_b101 {s : ev_M} {x1 : Int32} {x2 : Int32} {x3 : Int32} {x4 : Int32} {q : ev_M × Int32} (h : fM_handOver_b101 s x1 x2 x3 x4 = some q) : fr F_M_handOver s q.1 := by
  have g : fr F_M_handOver s s := fr.rf
  refine fr_gd h fun c0 h => ?_
  refine fr_if h (fun h => ?_) fun h => ?_
  · exact g.tr ((fr_fM_handOver_b138 h))
  · refine fr_gd h fun c1 h => ?_
    refine fr_if h (fun h => ?_) fun h => ?_
    · refine fr_gd h fun c2 h => ?_
      refine fr_if h (fun h => ?_) fun h => ?_
      · exact g.tr ((fr_fM_handOver_b138 h))
      · refine fr_bd2 h fun s20 v21 hc h => ?_
        have gs20 : fr F_M_handOver s s20 := g.tr ((fr_fM_no hc).mono (F := F_M_handOver) (by decide +kernel))
        cases h; exact gs20
    · exact g.tr ((fr_fM_handOver_b138 h))
theorem fr_fM_handOver {s : ev_M} {a1 : Int32} {a2 : Int32} {a3 : Int32} {a4 : Int32} {a5 : Int32} {q : ev_M × Int32} (h : fM_handOver s a1 a2 a3 a4 a5 = some q) : fr F_M_handOver s q.1 := by
  have g : fr F_M_handOver s s := fr.rf
  refine fr_bd1 h fun v22 hc h => ?_
  refine fr_if h (fun h => ?_) fun h => ?_
  · refine fr_bd2 h fun s23 v24 hc h => ?_
    have gs23 : fr F_M_handOver s s23 := g.tr ((fr_fM_no hc).mono (F := F_M_handOver) (by decide +kernel))
    cases h; exact gs23
  · refine fr_bd1 h fun v25 hc h => ?_
    refine fr_if h (fun h => ?_) fun h => ?_
    · exact g.tr ((fr_fM_handOver_b48 h))
    · refine fr_bd1 h fun v26 hc h => ?_
      refine fr_if h (fun h => ?_) fun h => ?_
      · exact g.tr ((fr_fM_handOver_b48 h))
      · refine fr_bd1 h fun v27 hc h => ?_
        refine fr_if h (fun h => ?_) fun h => ?_
        · exact g.tr ((fr_fM_handOver_b48 h))
        · refine fr_if h (fun h => ?_) fun h => ?_
          · refine fr_gd h fun c0 h => ?_
            refine fr_if h (fun h => ?_) fun h => ?_
            · refine fr_gd h fun c1 h => ?_
              refine fr_if h (fun h => ?_) fun h => ?_
              · exact g.tr ((fr_fM_handOver_b101 h))
              · exact g.tr ((fr_fM_handOver_b94 h))
            · exact g.tr ((fr_fM_handOver_b94 h))
          · refine fr_gd h fun c0 h => ?_
            refine fr_if h (fun h => ?_) fun h => ?_
            · exact g.tr ((fr_fM_handOver_b101 h))
            · exact g.tr ((fr_fM_handOver_b94 h))
def F_M_doMiss : List (Nat × (Nat × Nat)) := [(549, 549, 16), (549, 549, 130), (549, 549, 135), (583, 583, 0), (602, 602, 0), (640, 640, 0), (641, 641, 0), (642, 642, 0), (643, 643, 0), (644, 644, 0), (645, 645, 0), (646, 646, 0)]
theorem fr_fM_doMiss {s : ev_M} {a1 : Int32} {q : ev_M × Int32} (h : fM_doMiss s a1 = some q) : fr F_M_doMiss s q.1 := by
  have g : fr F_M_doMiss s s := fr.rf
  refine fr_bd1 h fun v1 hc h => ?_
  refine fr_if h (fun h => ?_) fun h => ?_
  · refine fr_bd2 h fun s2 v3 hc h => ?_
    have gs2 : fr F_M_doMiss s s2 := g.tr ((fr_fM_no hc).mono (F := F_M_doMiss) (by decide +kernel))
    cases h; exact gs2
  · refine fr_gd h fun c0 h => ?_
    refine fr_if h (fun h => ?_) fun h => ?_
    · refine fr_bd1 h fun v4 hc h => ?_
      refine fr_if h (fun h => ?_) fun h => ?_
      · refine fr_bd1 h fun v5 hc h => ?_
        refine fr_gd h fun c1 h => ?_
        refine fr_ltM h (Q := fr F_M_doMiss s) (g.wI rfl) fun s6 gs6 h => ?_
        refine fr_bd1 h fun s7 hc h => ?_
        have gs7 := gs6.tr ((fr_fM_comes hc).mono (F := F_M_doMiss) (by decide +kernel))
        refine fr_gd h fun c2 h => ?_
        cases h; exact gs7
      · refine fr_bd2 h fun s8 v9 hc h => ?_
        have gs8 : fr F_M_doMiss s s8 := g.tr ((fr_fM_no hc).mono (F := F_M_doMiss) (by decide +kernel))
        cases h; exact gs8
    · refine fr_bd2 h fun s10 v11 hc h => ?_
      have gs10 : fr F_M_doMiss s s10 := g.tr ((fr_fM_no hc).mono (F := F_M_doMiss) (by decide +kernel))
      cases h; exact gs10
def F_M_goesBack : List (Nat × (Nat × Nat)) := [(549, 549, 24), (549, 549, 130), (549, 549, 135), (583, 583, 0), (591, 591, 0), (592, 592, 0), (593, 593, 0), (595, 595, 0), (597, 597, 0), (598, 598, 0), (599, 599, 0), (602, 602, 0), (640, 640, 0), (641, 641, 0), (642, 642, 0), (643, 643, 0), (644, 644, 0), (645, 645, 0), (646, 646, 0)]
theorem fr_fM_goesBack {s : ev_M} {a1 : Int32} {q : ev_M × Int32} (h : fM_goesBack s a1 = some q) : fr F_M_goesBack s q.1 := by
  have g : fr F_M_goesBack s s := fr.rf
  refine fr_gd h fun c0 h => ?_
  refine fr_if h (fun h => ?_) fun h => ?_
  · refine fr_gd h fun c1 h => ?_
    refine fr_ltM h (Q := fr F_M_goesBack s) (g.wI rfl) fun s1 gs1 h => ?_
    refine fr_gd h fun c2 h => ?_
    refine fr_bd1 h fun s2 hc h => ?_
    have gs2 := gs1.tr ((fr_fM_comesIn hc).mono (F := F_M_goesBack) (by decide +kernel))
    cases h; exact gs2
  · refine fr_bd1 h fun s3 hc h => ?_
    have gs3 := g.tr ((fr_fM_leaves hc).mono (F := F_M_goesBack) (by decide +kernel))
    refine fr_bd1 h fun s4 hc h => ?_
    have gs4 := gs3.tr ((fr_fM_comes hc).mono (F := F_M_goesBack) (by decide +kernel))
    cases h; exact gs4
def F_M_doRefuse : List (Nat × (Nat × Nat)) := [(549, 549, 16), (549, 549, 24), (549, 549, 130), (549, 549, 135), (583, 583, 0), (591, 591, 0), (592, 592, 0), (593, 593, 0), (595, 595, 0), (597, 597, 0), (598, 598, 0), (599, 599, 0), (602, 602, 0), (640, 640, 0), (641, 641, 0), (642, 642, 0), (643, 643, 0), (644, 644, 0), (645, 645, 0), (646, 646, 0)]
theorem fr_fM_doRefuse_b46 {s : ev_M} {q : ev_M × Int32} (h : fM_doRefuse_b46 s = some q) : fr F_M_doRefuse s q.1 := by
  have g : fr F_M_doRefuse s s := fr.rf
  refine fr_bd2 h fun s1 v2 hc h => ?_
  have gs1 : fr F_M_doRefuse s s1 := g.tr ((fr_fM_no hc).mono (F := F_M_doRefuse) (by decide +kernel))
  cases h; exact gs1
theorem fr_fM_doRefuse_b53 {s : ev_M} {x1 : Int32} {q : ev_M × Int32} (h : fM_doRefuse_b53 s x1 = some q) : fr F_M_doRefuse s q.1 := by
  have g : fr F_M_doRefuse s s := fr.rf
  refine fr_bd1 h fun v3 hc h => ?_
  refine fr_if h (fun h => ?_) fun h => ?_
  · refine fr_bd2 h fun s4 v5 hc h => ?_
    have gs4 : fr F_M_doRefuse s s4 := g.tr ((fr_fM_goesBack hc).mono (F := F_M_doRefuse) (by decide +kernel))
    cases h; exact gs4
  · refine fr_bd2 h fun s6 v7 hc h => ?_
    have gs6 : fr F_M_doRefuse s s6 := g.tr ((fr_fM_no hc).mono (F := F_M_doRefuse) (by decide +kernel))
    cases h; exact gs6
theorem fr_fM_doRefuse {s : ev_M} {a1 : Int32} {q : ev_M × Int32} (h : fM_doRefuse s a1 = some q) : fr F_M_doRefuse s q.1 := by
  have g : fr F_M_doRefuse s s := fr.rf
  refine fr_bd1 h fun v8 hc h => ?_
  refine fr_if h (fun h => ?_) fun h => ?_
  · refine fr_bd2 h fun s9 v10 hc h => ?_
    have gs9 : fr F_M_doRefuse s s9 := g.tr ((fr_fM_no hc).mono (F := F_M_doRefuse) (by decide +kernel))
    cases h; exact gs9
  · refine fr_gd h fun c0 h => ?_
    refine fr_if h (fun h => ?_) fun h => ?_
    · exact g.tr ((fr_fM_doRefuse_b53 h))
    · refine fr_gd h fun c1 h => ?_
      refine fr_if h (fun h => ?_) fun h => ?_
      · refine fr_gd h fun c2 h => ?_
        refine fr_if h (fun h => ?_) fun h => ?_
        · exact g.tr ((fr_fM_doRefuse_b53 h))
        · exact g.tr ((fr_fM_doRefuse_b46 h))
      · exact g.tr ((fr_fM_doRefuse_b46 h))
def F_M_doPut : List (Nat × (Nat × Nat)) := [(549, 549, 16), (549, 549, 130), (549, 549, 135), (583, 583, 0), (597, 597, 0), (598, 598, 0), (602, 602, 0), (640, 640, 0), (641, 641, 0), (642, 642, 0), (643, 643, 0), (644, 644, 0), (645, 645, 0), (646, 646, 0)]
theorem fr_fM_doPut_b16 {s : ev_M} {q : ev_M × Int32} (h : fM_doPut_b16 s = some q) : fr F_M_doPut s q.1 := by
  have g : fr F_M_doPut s s := fr.rf
  refine fr_bd2 h fun s1 v2 hc h => ?_
  have gs1 : fr F_M_doPut s s1 := g.tr ((fr_fM_no hc).mono (F := F_M_doPut) (by decide +kernel))
  cases h; exact gs1
theorem fr_fM_doPut_b93 {s : ev_M} {q : ev_M × Int32} (h : fM_doPut_b93 s = some q) : fr F_M_doPut s q.1 := by
  have g : fr F_M_doPut s s := fr.rf
  refine fr_bd2 h fun s3 v4 hc h => ?_
  have gs3 : fr F_M_doPut s s3 := g.tr ((fr_fM_no hc).mono (F := F_M_doPut) (by decide +kernel))
  cases h; exact gs3
theorem fr_fM_doPut_b149 {s : ev_M} {q : ev_M × Int32} (h : fM_doPut_b149 s = some q) : fr F_M_doPut s q.1 := by
  have g : fr F_M_doPut s s := fr.rf
  refine fr_bd2 h fun s5 v6 hc h => ?_
  have gs5 : fr F_M_doPut s s5 := g.tr ((fr_fM_no hc).mono (F := F_M_doPut) (by decide +kernel))
  cases h; exact gs5
theorem fr_fM_doPut_b131 {s : ev_M} {x1 : Int32} {x2 : Int32} {x4 : Int32} {q : ev_M × Int32} (h : fM_doPut_b131 s x1 x2 x4 = some q) : fr F_M_doPut s q.1 := by
  have g : fr F_M_doPut s s := fr.rf
  refine fr_gd h fun c0 h => ?_
  refine fr_if h (fun h => ?_) fun h => ?_
  · exact g.tr ((fr_fM_doPut_b149 h))
  · refine fr_bd1 h fun v7 hc h => ?_
    refine fr_if h (fun h => ?_) fun h => ?_
    · refine fr_gd h fun c1 h => ?_
      refine fr_ltM h (Q := fr F_M_doPut s) (g.wI rfl) fun s8 gs8 h => ?_
      refine fr_gd h fun c2 h => ?_
      refine fr_ltM h (Q := fr F_M_doPut s) (gs8.wI rfl) fun s9 gs9 h => ?_
      refine fr_bd1 h fun v10 hc h => ?_
      refine fr_gd h fun c3 h => ?_
      refine fr_ltM h (Q := fr F_M_doPut s) (gs9.wI rfl) fun s11 gs11 h => ?_
      refine fr_bd1 h fun s12 hc h => ?_
      have gs12 := gs11.tr ((fr_fM_comes hc).mono (F := F_M_doPut) (by decide +kernel))
      cases h; exact gs12
    · exact g.tr ((fr_fM_doPut_b149 h))
theorem fr_fM_doPut_h103 : ∀ (n : Nat) {s : ev_M} {x1 : Int32} {x2 : Int32} {x4 : Int32} {q : ev_M × Int32} , fM_doPut_h103 n s x1 x2 x4 = some q → fr F_M_doPut s q.1 := by
  intro n
  induction n with
  | zero => intro s x1 x2 x4 q h; cases h
  | succ n ih =>
    intro s x1 x2 x4 q h
    have g : fr F_M_doPut s s := fr.rf
    refine fr_gd h fun c0 h => ?_
    refine fr_if h (fun h => ?_) fun h => ?_
    · refine fr_bd1 h fun v13 hc h => ?_
      refine fr_if h (fun h => ?_) fun h => ?_
      · exact g.tr ((fr_fM_doPut_b131 h))
      · exact g.tr ((ih h))
    · exact g.tr ((fr_fM_doPut_b131 h))
theorem fr_fM_doPut_b53 {s : ev_M} {x1 : Int32} {x2 : Int32} {y0 : Int32} {q : ev_M × Int32} (h : fM_doPut_b53 s x1 x2 y0 = some q) : fr F_M_doPut s q.1 := by
  have g : fr F_M_doPut s s := fr.rf
  refine fr_if h (fun h => ?_) fun h => ?_
  · exact g.tr ((fr_fM_doPut_b93 h))
  · refine fr_gd h fun c0 h => ?_
    refine fr_if h (fun h => ?_) fun h => ?_
    · refine fr_gd h fun c1 h => ?_
      refine fr_if h (fun h => ?_) fun h => ?_
      · refine fr_bd1 h fun v14 hc h => ?_
        refine fr_bd1 h fun v15 hc h => ?_
        refine fr_if h (fun h => ?_) fun h => ?_
        · exact g.tr ((fr_fM_doPut_h103 1048576 h))
        · exact g.tr ((fr_fM_doPut_b93 h))
      · exact g.tr ((fr_fM_doPut_b93 h))
    · exact g.tr ((fr_fM_doPut_b93 h))
theorem fr_fM_doPut_b52 {s : ev_M} {x1 : Int32} {x2 : Int32} {q : ev_M × Int32} (h : fM_doPut_b52 s x1 x2 = some q) : fr F_M_doPut s q.1 := by
  have g : fr F_M_doPut s s := fr.rf
  exact g.tr ((fr_fM_doPut_b53 h))
theorem fr_fM_doPut {s : ev_M} {a1 : Int32} {a2 : Int32} {q : ev_M × Int32} (h : fM_doPut s a1 a2 = some q) : fr F_M_doPut s q.1 := by
  have g : fr F_M_doPut s s := fr.rf
  refine fr_bd1 h fun v16 hc h => ?_
  refine fr_if h (fun h => ?_) fun h => ?_
  · exact g.tr ((fr_fM_doPut_b16 h))
  · refine fr_bd1 h fun v17 hc h => ?_
    refine fr_if h (fun h => ?_) fun h => ?_
    · exact g.tr ((fr_fM_doPut_b16 h))
    · refine fr_gd h fun c0 h => ?_
      refine fr_if h (fun h => ?_) fun h => ?_
      · refine fr_gd h fun c1 h => ?_
        refine fr_gd h fun c2 h => ?_
        refine fr_if h (fun h => ?_) fun h => ?_
        · exact g.tr ((fr_fM_doPut_b53 h))
        · exact g.tr ((fr_fM_doPut_b52 h))
      · exact g.tr ((fr_fM_doPut_b52 h))
def F_M_doBox : List (Nat × (Nat × Nat)) := [(549, 549, 16), (549, 549, 130), (549, 549, 135), (583, 583, 0), (593, 593, 0), (595, 595, 0), (597, 597, 0), (598, 598, 0), (602, 602, 0), (625, 625, 0), (640, 640, 0), (641, 641, 0), (642, 642, 0), (643, 643, 0), (644, 644, 0), (645, 645, 0), (646, 646, 0)]
theorem fr_fM_doBox_b97 {k48 : ev_M → Int32 → Int32 → Int32 → Option (ev_M × Int32)} (hk48 : ∀ {s : ev_M} {z1 : Int32} {z2 : Int32} {z3 : Int32} {q : ev_M × Int32} , k48 s z1 z2 z3 = some q → fr F_M_doBox s q.1) {s : ev_M} {x1 : Int32} {x2 : Int32} {x3 : Int32} {q : ev_M × Int32} (h : fM_doBox_b97 k48 s x1 x2 x3 = some q) : fr F_M_doBox s q.1 := by
  have g : fr F_M_doBox s s := fr.rf
  exact g.tr ((hk48 h))
theorem fr_fM_doBox_h48 : ∀ (n : Nat) {s : ev_M} {x1 : Int32} {x2 : Int32} {x3 : Int32} {q : ev_M × Int32} , fM_doBox_h48 n s x1 x2 x3 = some q → fr F_M_doBox s q.1 := by
  intro n
  induction n with
  | zero => intro s x1 x2 x3 q h; cases h
  | succ n ih =>
    intro s x1 x2 x3 q h
    have g : fr F_M_doBox s s := fr.rf
    refine fr_gd h fun c0 h => ?_
    refine fr_if h (fun h => ?_) fun h => ?_
    · refine fr_bd1 h fun v1 hc h => ?_
      refine fr_if h (fun h => ?_) fun h => ?_
      · exact g.tr ((fr_fM_doBox_b97 ih h))
      · refine fr_bd1 h fun v2 hc h => ?_
        refine fr_if h (fun h => ?_) fun h => ?_
        · refine fr_bd1 h fun s3 hc h => ?_
          have gs3 := g.tr ((fr_fM_leaves hc).mono (F := F_M_doBox) (by decide +kernel))
          refine fr_bd1 h fun s4 hc h => ?_
          have gs4 := gs3.tr ((fr_fM_comes hc).mono (F := F_M_doBox) (by decide +kernel))
          cases h; exact gs4
        · exact g.tr ((fr_fM_doBox_b97 ih h))
    · refine fr_gd h fun c1 h => ?_
      refine fr_gd h fun c2 h => ?_
      refine fr_ltM h (Q := fr F_M_doBox s) (g.wI rfl) fun s5 gs5 h => ?_
      cases h; exact gs5
theorem fr_fM_doBox {s : ev_M} {a1 : Int32} {a2 : Int32} {q : ev_M × Int32} (h : fM_doBox s a1 a2 = some q) : fr F_M_doBox s q.1 := by
  have g : fr F_M_doBox s s := fr.rf
  refine fr_bd1 h fun v6 hc h => ?_
  refine fr_if h (fun h => ?_) fun h => ?_
  · refine fr_bd2 h fun s7 v8 hc h => ?_
    have gs7 : fr F_M_doBox s s7 := g.tr ((fr_fM_no hc).mono (F := F_M_doBox) (by decide +kernel))
    cases h; exact gs7
  · refine fr_gd h fun c0 h => ?_
    refine fr_if h (fun h => ?_) fun h => ?_
    · refine fr_bd1 h fun v9 hc h => ?_
      refine fr_if h (fun h => ?_) fun h => ?_
      · exact g.tr ((fr_fM_doBox_h48 1048576 h))
      · refine fr_bd2 h fun s10 v11 hc h => ?_
        have gs10 : fr F_M_doBox s s10 := g.tr ((fr_fM_no hc).mono (F := F_M_doBox) (by decide +kernel))
        cases h; exact gs10
    · refine fr_bd2 h fun s12 v13 hc h => ?_
      have gs12 : fr F_M_doBox s s12 := g.tr ((fr_fM_no hc).mono (F := F_M_doBox) (by decide +kernel))
      cases h; exact gs12
def F_M_doLose : List (Nat × (Nat × Nat)) := [(549, 549, 16), (549, 549, 130), (549, 549, 135), (583, 583, 0), (593, 593, 0), (595, 595, 0), (597, 597, 0), (598, 598, 0), (602, 602, 0), (640, 640, 0), (641, 641, 0), (642, 642, 0), (643, 643, 0), (644, 644, 0), (645, 645, 0), (646, 646, 0)]
theorem fr_fM_doLose_b47 {s : ev_M} {q : ev_M × Int32} (h : fM_doLose_b47 s = some q) : fr F_M_doLose s q.1 := by
  have g : fr F_M_doLose s s := fr.rf
  refine fr_bd2 h fun s1 v2 hc h => ?_
  have gs1 : fr F_M_doLose s s1 := g.tr ((fr_fM_no hc).mono (F := F_M_doLose) (by decide +kernel))
  cases h; exact gs1
theorem fr_fM_doLose {s : ev_M} {a1 : Int32} {q : ev_M × Int32} (h : fM_doLose s a1 = some q) : fr F_M_doLose s q.1 := by
  have g : fr F_M_doLose s s := fr.rf
  refine fr_bd1 h fun v3 hc h => ?_
  refine fr_if h (fun h => ?_) fun h => ?_
  · refine fr_bd2 h fun s4 v5 hc h => ?_
    have gs4 : fr F_M_doLose s s4 := g.tr ((fr_fM_no hc).mono (F := F_M_doLose) (by decide +kernel))
    cases h; exact gs4
  · refine fr_gd h fun c0 h => ?_
    refine fr_if h (fun h => ?_) fun h => ?_
    · exact g.tr ((fr_fM_doLose_b47 h))
    · refine fr_gd h fun c1 h => ?_
      refine fr_if h (fun h => ?_) fun h => ?_
      · exact g.tr ((fr_fM_doLose_b47 h))
      · refine fr_gd h fun c2 h => ?_
        refine fr_if h (fun h => ?_) fun h => ?_
        · exact g.tr ((fr_fM_doLose_b47 h))
        · refine fr_bd1 h fun v6 hc h => ?_
          refine fr_if h (fun h => ?_) fun h => ?_
          · refine fr_bd1 h fun s7 hc h => ?_
            have gs7 := g.tr ((fr_fM_leaves hc).mono (F := F_M_doLose) (by decide +kernel))
            refine fr_bd1 h fun s8 hc h => ?_
            have gs8 := gs7.tr ((fr_fM_comes hc).mono (F := F_M_doLose) (by decide +kernel))
            cases h; exact gs8
          · refine fr_bd2 h fun s9 v10 hc h => ?_
            have gs9 : fr F_M_doLose s s9 := g.tr ((fr_fM_no hc).mono (F := F_M_doLose) (by decide +kernel))
            cases h; exact gs9
def F_M_doAccount : List (Nat × (Nat × Nat)) := [(549, 549, 16), (549, 549, 112), (626, 626, 0), (627, 627, 0)]
theorem fr_fM_doAccount_b31 {s : ev_M} {q : ev_M × Int32} (h : fM_doAccount_b31 s = some q) : fr F_M_doAccount s q.1 := by
  have g : fr F_M_doAccount s s := fr.rf
  refine fr_bd2 h fun s1 v2 hc h => ?_
  have gs1 : fr F_M_doAccount s s1 := g.tr ((fr_fM_no hc).mono (F := F_M_doAccount) (by decide +kernel))
  cases h; exact gs1
theorem fr_fM_doAccount {s : ev_M} {a1 : Int32} {q : ev_M × Int32} (h : fM_doAccount s a1 = some q) : fr F_M_doAccount s q.1 := by
  have g : fr F_M_doAccount s s := fr.rf
  refine fr_bd1 h fun v3 hc h => ?_
  refine fr_if h (fun h => ?_) fun h => ?_
  · refine fr_bd2 h fun s4 v5 hc h => ?_
    have gs4 : fr F_M_doAccount s s4 := g.tr ((fr_fM_no hc).mono (F := F_M_doAccount) (by decide +kernel))
    cases h; exact gs4
  · refine fr_if h (fun h => ?_) fun h => ?_
    · exact g.tr ((fr_fM_doAccount_b31 h))
    · refine fr_bd1 h fun v6 hc h => ?_
      refine fr_if h (fun h => ?_) fun h => ?_
      · refine fr_gd h fun c0 h => ?_
        refine fr_ltM h (Q := fr F_M_doAccount s) (g.wI rfl) fun s7 gs7 h => ?_
        refine fr_gd h fun c1 h => ?_
        refine fr_ltM h (Q := fr F_M_doAccount s) (gs7.wI rfl) fun s8 gs8 h => ?_
        refine fr_ltM h (Q := fr F_M_doAccount s) (gs8.wI rfl) fun s9 gs9 h => ?_
        cases h; exact gs9
      · exact g.tr ((fr_fM_doAccount_b31 h))
def F_M_doDeposit : List (Nat × (Nat × Nat)) := [(549, 549, 16), (549, 549, 115), (628, 628, 0), (629, 629, 0), (630, 630, 0), (631, 631, 0)]
theorem fr_fM_doDeposit_b52 {s : ev_M} {q : ev_M × Int32} (h : fM_doDeposit_b52 s = some q) : fr F_M_doDeposit s q.1 := by
  have g : fr F_M_doDeposit s s := fr.rf
  refine fr_bd2 h fun s1 v2 hc h => ?_
  have gs1 : fr F_M_doDeposit s s1 := g.tr ((fr_fM_no hc).mono (F := F_M_doDeposit) (by decide +kernel))
  cases h; exact gs1
theorem fr_fM_doDeposit {s : ev_M} {a1 : Int32} {a2 : Int32} {q : ev_M × Int32} (h : fM_doDeposit s a1 a2 = some q) : fr F_M_doDeposit s q.1 := by
  have g : fr F_M_doDeposit s s := fr.rf
  refine fr_bd1 h fun v3 hc h => ?_
  refine fr_if h (fun h => ?_) fun h => ?_
  · refine fr_bd2 h fun s4 v5 hc h => ?_
    have gs4 : fr F_M_doDeposit s s4 := g.tr ((fr_fM_no hc).mono (F := F_M_doDeposit) (by decide +kernel))
    cases h; exact gs4
  · refine fr_bd1 h fun v6 hc h => ?_
    refine fr_if h (fun h => ?_) fun h => ?_
    · refine fr_bd2 h fun s7 v8 hc h => ?_
      have gs7 : fr F_M_doDeposit s s7 := g.tr ((fr_fM_no hc).mono (F := F_M_doDeposit) (by decide +kernel))
      cases h; exact gs7
    · refine fr_bd1 h fun v9 hc h => ?_
      refine fr_bd1 h fun v10 hc h => ?_
      refine fr_if h (fun h => ?_) fun h => ?_
      · refine fr_bd1 h fun v11 hc h => ?_
        refine fr_if h (fun h => ?_) fun h => ?_
        · refine fr_bd1 h fun s12 hc h => ?_
          have gs12 := g.tr ((fr_fM_pay hc).mono (F := F_M_doDeposit) (by decide +kernel))
          refine fr_bd1 h fun v13 hc h => ?_
          cases h; exact gs12
        · exact g.tr ((fr_fM_doDeposit_b52 h))
      · exact g.tr ((fr_fM_doDeposit_b52 h))
def F_M_rowOfTariff : List (Nat × (Nat × Nat)) := [(549, 549, 126), (549, 549, 140), (549, 549, 141), (637, 637, 0), (638, 638, 0), (639, 639, 0)]
theorem fr_fM_rowOfTariff_b273 {k184 : ev_M → Int32 → Int32 → Int32 → Int32 → Int32 → Int32 → Option (ev_M × Int32)} (hk184 : ∀ {s : ev_M} {z1 : Int32} {z2 : Int32} {z3 : Int32} {z4 : Int32} {z5 : Int32} {z6 : Int32} {q : ev_M × Int32} , k184 s z1 z2 z3 z4 z5 z6 = some q → fr F_M_rowOfTariff s q.1) {s : ev_M} {x1 : Int32} {x2 : Int32} {x3 : Int32} {x4 : Int32} {x6 : Int32} {y0 : Int32} {q : ev_M × Int32} (h : fM_rowOfTariff_b273 k184 s x1 x2 x3 x4 x6 y0 = some q) : fr F_M_rowOfTariff s q.1 := by
  have g : fr F_M_rowOfTariff s s := fr.rf
  exact g.tr ((hk184 h))
theorem fr_fM_rowOfTariff_b272 {k184 : ev_M → Int32 → Int32 → Int32 → Int32 → Int32 → Int32 → Option (ev_M × Int32)} (hk184 : ∀ {s : ev_M} {z1 : Int32} {z2 : Int32} {z3 : Int32} {z4 : Int32} {z5 : Int32} {z6 : Int32} {q : ev_M × Int32} , k184 s z1 z2 z3 z4 z5 z6 = some q → fr F_M_rowOfTariff s q.1) {s : ev_M} {x1 : Int32} {x2 : Int32} {x3 : Int32} {x4 : Int32} {x6 : Int32} {q : ev_M × Int32} (h : fM_rowOfTariff_b272 k184 s x1 x2 x3 x4 x6 = some q) : fr F_M_rowOfTariff s q.1 := by
  have g : fr F_M_rowOfTariff s s := fr.rf
  exact g.tr ((fr_fM_rowOfTariff_b273 hk184 h))
theorem fr_fM_rowOfTariff_b256 {k184 : ev_M → Int32 → Int32 → Int32 → Int32 → Int32 → Int32 → Option (ev_M × Int32)} (hk184 : ∀ {s : ev_M} {z1 : Int32} {z2 : Int32} {z3 : Int32} {z4 : Int32} {z5 : Int32} {z6 : Int32} {q : ev_M × Int32} , k184 s z1 z2 z3 z4 z5 z6 = some q → fr F_M_rowOfTariff s q.1) {s : ev_M} {x1 : Int32} {x2 : Int32} {x3 : Int32} {x4 : Int32} {x5 : Int32} {x6 : Int32} {y0 : Int32} {q : ev_M × Int32} (h : fM_rowOfTariff_b256 k184 s x1 x2 x3 x4 x5 x6 y0 = some q) : fr F_M_rowOfTariff s q.1 := by
  have g : fr F_M_rowOfTariff s s := fr.rf
  refine fr_if h (fun h => ?_) fun h => ?_
  · exact g.tr ((fr_fM_rowOfTariff_b272 hk184 h))
  · refine fr_if h (fun h => ?_) fun h => ?_
    · exact g.tr ((fr_fM_rowOfTariff_b273 hk184 h))
    · exact g.tr ((fr_fM_rowOfTariff_b272 hk184 h))
theorem fr_fM_rowOfTariff_b225 {k184 : ev_M → Int32 → Int32 → Int32 → Int32 → Int32 → Int32 → Option (ev_M × Int32)} (hk184 : ∀ {s : ev_M} {z1 : Int32} {z2 : Int32} {z3 : Int32} {z4 : Int32} {z5 : Int32} {z6 : Int32} {q : ev_M × Int32} , k184 s z1 z2 z3 z4 z5 z6 = some q → fr F_M_rowOfTariff s q.1) {s : ev_M} {x1 : Int32} {x2 : Int32} {x3 : Int32} {x4 : Int32} {x5 : Int32} {x6 : Int32} {q : ev_M × Int32} (h : fM_rowOfTariff_b225 k184 s x1 x2 x3 x4 x5 x6 = some q) : fr F_M_rowOfTariff s q.1 := by
  have g : fr F_M_rowOfTariff s s := fr.rf
  exact g.tr ((fr_fM_rowOfTariff_b256 hk184 h))
theorem fr_fM_rowOfTariff_b255 {k184 : ev_M → Int32 → Int32 → Int32 → Int32 → Int32 → Int32 → Option (ev_M × Int32)} (hk184 : ∀ {s : ev_M} {z1 : Int32} {z2 : Int32} {z3 : Int32} {z4 : Int32} {z5 : Int32} {z6 : Int32} {q : ev_M × Int32} , k184 s z1 z2 z3 z4 z5 z6 = some q → fr F_M_rowOfTariff s q.1) {s : ev_M} {x1 : Int32} {x2 : Int32} {x3 : Int32} {x4 : Int32} {x5 : Int32} {x6 : Int32} {q : ev_M × Int32} (h : fM_rowOfTariff_b255 k184 s x1 x2 x3 x4 x5 x6 = some q) : fr F_M_rowOfTariff s q.1 := by
  have g : fr F_M_rowOfTariff s s := fr.rf
  exact g.tr ((fr_fM_rowOfTariff_b256 hk184 h))
theorem fr_fM_rowOfTariff_b325 {s : ev_M} {x4 : Int32} {x5 : Int32} {y1 : Int32} {y2 : Int32} {q : ev_M × Int32} (h : fM_rowOfTariff_b325 s x4 x5 y1 y2 = some q) : fr F_M_rowOfTariff s q.1 := by
  have g : fr F_M_rowOfTariff s s := fr.rf
  refine fr_gd h fun c0 h => ?_
  refine fr_ltM h (Q := fr F_M_rowOfTariff s) (g.wI rfl) fun s1 gs1 h => ?_
  refine fr_gd h fun c1 h => ?_
  refine fr_ltM h (Q := fr F_M_rowOfTariff s) (gs1.wI rfl) fun s2 gs2 h => ?_
  refine fr_ltM h (Q := fr F_M_rowOfTariff s) (gs2.wI rfl) fun s3 gs3 h => ?_
  refine fr_if h (fun h => ?_) fun h => ?_
  · cases h; exact gs3
  · cases h
theorem fr_fM_rowOfTariff_b305 {s : ev_M} {x1 : Int32} {x2 : Int32} {x3 : Int32} {x4 : Int32} {x5 : Int32} {y1 : Int32} {y2 : Int32} {q : ev_M × Int32} (h : fM_rowOfTariff_b305 s x1 x2 x3 x4 x5 y1 y2 = some q) : fr F_M_rowOfTariff s q.1 := by
  have g : fr F_M_rowOfTariff s s := fr.rf
  refine fr_gd h fun c0 h => ?_
  refine fr_ltM h (Q := fr F_M_rowOfTariff s) (g.wI rfl) fun s4 gs4 h => ?_
  refine fr_if h (fun h => ?_) fun h => ?_
  · exact gs4.tr ((fr_fM_rowOfTariff_b325 h))
  · exact gs4.tr ((fr_fM_rowOfTariff_b325 h))
theorem fr_fM_rowOfTariff_h184 : ∀ (n : Nat) {s : ev_M} {x1 : Int32} {x2 : Int32} {x3 : Int32} {x4 : Int32} {x5 : Int32} {x6 : Int32} {q : ev_M × Int32} , fM_rowOfTariff_h184 n s x1 x2 x3 x4 x5 x6 = some q → fr F_M_rowOfTariff s q.1 := by
  intro n
  induction n with
  | zero => intro s x1 x2 x3 x4 x5 x6 q h; cases h
  | succ n ih =>
    intro s x1 x2 x3 x4 x5 x6 q h
    have g : fr F_M_rowOfTariff s s := fr.rf
    refine fr_if h (fun h => ?_) fun h => ?_
    · refine fr_if h (fun h => ?_) fun h => ?_
      · refine fr_gd h fun c0 h => ?_
        refine fr_if h (fun h => ?_) fun h => ?_
        · refine fr_gd h fun c1 h => ?_
          refine fr_if h (fun h => ?_) fun h => ?_
          · exact g.tr ((fr_fM_rowOfTariff_b225 ih h))
          · exact g.tr ((fr_fM_rowOfTariff_b256 ih h))
        · exact g.tr ((fr_fM_rowOfTariff_b225 ih h))
      · refine fr_gd h fun c0 h => ?_
        refine fr_if h (fun h => ?_) fun h => ?_
        · refine fr_gd h fun c1 h => ?_
          refine fr_if h (fun h => ?_) fun h => ?_
          · exact g.tr ((fr_fM_rowOfTariff_b256 ih h))
          · exact g.tr ((fr_fM_rowOfTariff_b255 ih h))
        · exact g.tr ((fr_fM_rowOfTariff_b255 ih h))
    · refine fr_if h (fun h => ?_) fun h => ?_
      · refine fr_if h (fun h => ?_) fun h => ?_
        · cases h; exact g
        · cases h
      · refine fr_if h (fun h => ?_) fun h => ?_
        · exact g.tr ((fr_fM_rowOfTariff_b305 h))
        · exact g.tr ((fr_fM_rowOfTariff_b305 h))
theorem fr_fM_rowOfTariff_b179 {s : ev_M} {x1 : Int32} {x2 : Int32} {x3 : Int32} {x4 : Int32} {y0 : Int32} {q : ev_M × Int32} (h : fM_rowOfTariff_b179 s x1 x2 x3 x4 y0 = some q) : fr F_M_rowOfTariff s q.1 := by
  have g : fr F_M_rowOfTariff s s := fr.rf
  exact g.tr ((fr_fM_rowOfTariff_h184 1048576 h))
theorem fr_fM_rowOfTariff_b174 {s : ev_M} {x1 : Int32} {x2 : Int32} {x3 : Int32} {x4 : Int32} {q : ev_M × Int32} (h : fM_rowOfTariff_b174 s x1 x2 x3 x4 = some q) : fr F_M_rowOfTariff s q.1 := by
  have g : fr F_M_rowOfTariff s s := fr.rf
  exact g.tr ((fr_fM_rowOfTariff_b179 h))
theorem fr_fM_rowOfTariff_b178 {s : ev_M} {x1 : Int32} {x2 : Int32} {x3 : Int32} {x4 : Int32} {q : ev_M × Int32} (h : fM_rowOfTariff_b178 s x1 x2 x3 x4 = some q) : fr F_M_rowOfTariff s q.1 := by
  have g : fr F_M_rowOfTariff s s := fr.rf
  exact g.tr ((fr_fM_rowOfTariff_b179 h))
theorem fr_fM_rowOfTariff_b123 {s : ev_M} {x1 : Int32} {x2 : Int32} {x3 : Int32} {x4 : Int32} {y0 : Int32} {q : ev_M × Int32} (h : fM_rowOfTariff_b123 s x1 x2 x3 x4 y0 = some q) : fr F_M_rowOfTariff s q.1 := by
  have g : fr F_M_rowOfTariff s s := fr.rf
  refine fr_if h (fun h => ?_) fun h => ?_
  · exact g.tr ((fr_fM_rowOfTariff_b178 h))
  · refine fr_if h (fun h => ?_) fun h => ?_
    · refine fr_bd1 h fun v5 hc h => ?_
      refine fr_if h (fun h => ?_) fun h => ?_
      · exact g.tr ((fr_fM_rowOfTariff_b178 h))
      · refine fr_bd1 h fun v6 hc h => ?_
        refine fr_if h (fun h => ?_) fun h => ?_
        · exact g.tr ((fr_fM_rowOfTariff_b178 h))
        · exact g.tr ((fr_fM_rowOfTariff_b174 h))
    · refine fr_if h (fun h => ?_) fun h => ?_
      · exact g.tr ((fr_fM_rowOfTariff_b174 h))
      · refine fr_if h (fun h => ?_) fun h => ?_
        · exact g.tr ((fr_fM_rowOfTariff_b174 h))
        · refine fr_if h (fun h => ?_) fun h => ?_
          · exact g.tr ((fr_fM_rowOfTariff_b174 h))
          · exact g.tr ((fr_fM_rowOfTariff_b178 h))
theorem fr_fM_rowOfTariff_b122 {s : ev_M} {x1 : Int32} {x2 : Int32} {x3 : Int32} {x4 : Int32} {q : ev_M × Int32} (h : fM_rowOfTariff_b122 s x1 x2 x3 x4 = some q) : fr F_M_rowOfTariff s q.1 := by
  have g : fr F_M_rowOfTariff s s := fr.rf
  exact g.tr ((fr_fM_rowOfTariff_b123 h))
theorem fr_fM_rowOfTariff_b69 {s : ev_M} {x1 : Int32} {x2 : Int32} {y0 : Int32} {q : ev_M × Int32} (h : fM_rowOfTariff_b69 s x1 x2 y0 = some q) : fr F_M_rowOfTariff s q.1 := by
  have g : fr F_M_rowOfTariff s s := fr.rf
  refine fr_bd1 h fun s7 hc h => ?_
  have gs7 := g.tr ((fr_fM_eat hc).mono (F := F_M_rowOfTariff) (by decide +kernel))
  refine fr_bd2 h fun s8 v9 hc h => ?_
  have gs8 : fr F_M_rowOfTariff s s8 := gs7.tr ((fr_fM_digits hc).mono (F := F_M_rowOfTariff) (by decide +kernel))
  refine fr_bd1 h fun s10 hc h => ?_
  have gs10 := gs8.tr ((fr_fM_eat hc).mono (F := F_M_rowOfTariff) (by decide +kernel))
  refine fr_if h (fun h => ?_) fun h => ?_
  · refine fr_bd1 h fun v11 hc h => ?_
    refine fr_if h (fun h => ?_) fun h => ?_
    · exact gs10.tr ((fr_fM_rowOfTariff_b122 h))
    · refine fr_if h (fun h => ?_) fun h => ?_
      · exact gs10.tr ((fr_fM_rowOfTariff_b123 h))
      · exact gs10.tr ((fr_fM_rowOfTariff_b122 h))
  · cases h; exact gs10
theorem fr_fM_rowOfTariff_b47 {s : ev_M} {x1 : Int32} {y1 : Int32} {q : ev_M × Int32} (h : fM_rowOfTariff_b47 s x1 y1 = some q) : fr F_M_rowOfTariff s q.1 := by
  have g : fr F_M_rowOfTariff s s := fr.rf
  refine fr_ltM h (Q := fr F_M_rowOfTariff s) (g.wI rfl) fun s12 gs12 h => ?_
  refine fr_bd2 h fun s13 v14 hc h => ?_
  have gs13 : fr F_M_rowOfTariff s s13 := gs12.tr ((fr_fM_digits hc).mono (F := F_M_rowOfTariff) (by decide +kernel))
  refine fr_if h (fun h => ?_) fun h => ?_
  · refine fr_bd2 h fun s15 v16 hc h => ?_
    have gs15 : fr F_M_rowOfTariff s s15 := gs13.tr ((fr_fM_comma hc).mono (F := F_M_rowOfTariff) (by decide +kernel))
    exact gs15.tr ((fr_fM_rowOfTariff_b69 h))
  · exact gs13.tr ((fr_fM_rowOfTariff_b69 h))
theorem fr_fM_rowOfTariff_b23 {s : ev_M} {x1 : Int32} {y1 : Int32} {q : ev_M × Int32} (h : fM_rowOfTariff_b23 s x1 y1 = some q) : fr F_M_rowOfTariff s q.1 := by
  have g : fr F_M_rowOfTariff s s := fr.rf
  refine fr_gd h fun c0 h => ?_
  refine fr_ltM h (Q := fr F_M_rowOfTariff s) (g.wI rfl) fun s17 gs17 h => ?_
  refine fr_if h (fun h => ?_) fun h => ?_
  · exact gs17.tr ((fr_fM_rowOfTariff_b47 h))
  · exact gs17.tr ((fr_fM_rowOfTariff_b47 h))
theorem fr_fM_rowOfTariff_b22 {s : ev_M} {x1 : Int32} {q : ev_M × Int32} (h : fM_rowOfTariff_b22 s x1 = some q) : fr F_M_rowOfTariff s q.1 := by
  have g : fr F_M_rowOfTariff s s := fr.rf
  exact g.tr ((fr_fM_rowOfTariff_b23 h))
theorem fr_fM_rowOfTariff {s : ev_M} {q : ev_M × Int32} (h : fM_rowOfTariff s = some q) : fr F_M_rowOfTariff s q.1 := by
  have g : fr F_M_rowOfTariff s s := fr.rf
  refine fr_bd1 h fun v18 hc h => ?_
  refine fr_if h (fun h => ?_) fun h => ?_
  · exact g.tr ((fr_fM_rowOfTariff_b22 h))
  · refine fr_if h (fun h => ?_) fun h => ?_
    · exact g.tr ((fr_fM_rowOfTariff_b22 h))
    · exact g.tr ((fr_fM_rowOfTariff_b23 h))
def F_M_doTariff : List (Nat × (Nat × Nat)) := [(549, 549, 16), (549, 549, 126), (549, 549, 140), (549, 549, 141), (637, 637, 0), (638, 638, 0), (639, 639, 0), (678, 678, 0), (679, 679, 0), (680, 680, 0)]
theorem fr_fM_doTariff_b124 {k66 : ev_M → Int32 → Int32 → Option (ev_M × Int32)} (hk66 : ∀ {s : ev_M} {z1 : Int32} {z2 : Int32} {q : ev_M × Int32} , k66 s z1 z2 = some q → fr F_M_doTariff s q.1) {s : ev_M} {x1 : Int32} {y0 : Int32} {q : ev_M × Int32} (h : fM_doTariff_b124 k66 s x1 y0 = some q) : fr F_M_doTariff s q.1 := by
  have g : fr F_M_doTariff s s := fr.rf
  exact g.tr ((hk66 h))
theorem fr_fM_doTariff_b89 {k66 : ev_M → Int32 → Int32 → Option (ev_M × Int32)} (hk66 : ∀ {s : ev_M} {z1 : Int32} {z2 : Int32} {q : ev_M × Int32} , k66 s z1 z2 = some q → fr F_M_doTariff s q.1) {s : ev_M} {x1 : Int32} {q : ev_M × Int32} (h : fM_doTariff_b89 k66 s x1 = some q) : fr F_M_doTariff s q.1 := by
  have g : fr F_M_doTariff s s := fr.rf
  refine fr_ltI h fun v1 h => ?_
  refine fr_bd2 h fun s2 v3 hc h => ?_
  have gs2 : fr F_M_doTariff s s2 := g.tr ((fr_fM_rowOfTariff hc).mono (F := F_M_doTariff) (by decide +kernel))
  refine fr_if h (fun h => ?_) fun h => ?_
  · refine fr_if h (fun h => ?_) fun h => ?_
    · exact gs2.tr ((fr_fM_doTariff_b124 hk66 h))
    · exact gs2.tr ((fr_fM_doTariff_b124 hk66 h))
  · exact gs2.tr ((fr_fM_doTariff_b124 hk66 h))
theorem fr_fM_doTariff_b232 {s : ev_M} {y1 : Int32} {q : ev_M × Int32} (h : fM_doTariff_b232 s y1 = some q) : fr F_M_doTariff s q.1 := by
  have g : fr F_M_doTariff s s := fr.rf
  refine fr_bd2 h fun s4 v5 hc h => ?_
  have gs4 : fr F_M_doTariff s s4 := g.tr ((fr_fM_no hc).mono (F := F_M_doTariff) (by decide +kernel))
  cases h; exact gs4
theorem fr_fM_doTariff_h158 : ∀ (n : Nat) {s : ev_M} {x1 : Int32} {x2 : Int32} {x3 : Int32} {x4 : Int32} {q : ev_M × Int32} , fM_doTariff_h158 n s x1 x2 x3 x4 = some q → fr F_M_doTariff s q.1 := by
  intro n
  induction n with
  | zero => intro s x1 x2 x3 x4 q h; cases h
  | succ n ih =>
    intro s x1 x2 x3 x4 q h
    have g : fr F_M_doTariff s s := fr.rf
    refine fr_if h (fun h => ?_) fun h => ?_
    · refine fr_gd h fun c0 h => ?_
      refine fr_gd h fun c1 h => ?_
      refine fr_ltM h (Q := fr F_M_doTariff s) (g.wI rfl) fun s6 gs6 h => ?_
      refine fr_gd h fun c2 h => ?_
      refine fr_gd h fun c3 h => ?_
      refine fr_ltM h (Q := fr F_M_doTariff s) (gs6.wI rfl) fun s7 gs7 h => ?_
      refine fr_gd h fun c4 h => ?_
      refine fr_gd h fun c5 h => ?_
      refine fr_ltM h (Q := fr F_M_doTariff s) (gs7.wI rfl) fun s8 gs8 h => ?_
      exact gs8.tr ((ih h))
    · refine fr_ltM h (Q := fr F_M_doTariff s) (g.wI rfl) fun s9 gs9 h => ?_
      refine fr_if h (fun h => ?_) fun h => ?_
      · exact gs9.tr ((fr_fM_doTariff_b232 h))
      · exact gs9.tr ((fr_fM_doTariff_b232 h))
theorem fr_fM_doTariff_b155 {s : ev_M} {x1 : Int32} {x2 : Int32} {x3 : Int32} {q : ev_M × Int32} (h : fM_doTariff_b155 s x1 x2 x3 = some q) : fr F_M_doTariff s q.1 := by
  have g : fr F_M_doTariff s s := fr.rf
  exact g.tr ((fr_fM_doTariff_h158 1048576 h))
theorem fr_fM_doTariff_b145 {s : ev_M} {x1 : Int32} {x2 : Int32} {y0 : Int32} {q : ev_M × Int32} (h : fM_doTariff_b145 s x1 x2 y0 = some q) : fr F_M_doTariff s q.1 := by
  have g : fr F_M_doTariff s s := fr.rf
  refine fr_if h (fun h => ?_) fun h => ?_
  · refine fr_if h (fun h => ?_) fun h => ?_
    · cases h; exact g
    · exact g.tr ((fr_fM_doTariff_b155 h))
  · exact g.tr ((fr_fM_doTariff_b155 h))
theorem fr_fM_doTariff_b144 {s : ev_M} {x1 : Int32} {x2 : Int32} {q : ev_M × Int32} (h : fM_doTariff_b144 s x1 x2 = some q) : fr F_M_doTariff s q.1 := by
  have g : fr F_M_doTariff s s := fr.rf
  exact g.tr ((fr_fM_doTariff_b145 h))
theorem fr_fM_doTariff_b128 {s : ev_M} {x1 : Int32} {x2 : Int32} {q : ev_M × Int32} (h : fM_doTariff_b128 s x1 x2 = some q) : fr F_M_doTariff s q.1 := by
  have g : fr F_M_doTariff s s := fr.rf
  refine fr_if h (fun h => ?_) fun h => ?_
  · refine fr_bd1 h fun v10 hc h => ?_
    refine fr_if h (fun h => ?_) fun h => ?_
    · exact g.tr ((fr_fM_doTariff_b144 h))
    · exact g.tr ((fr_fM_doTariff_b145 h))
  · exact g.tr ((fr_fM_doTariff_b144 h))
theorem fr_fM_doTariff_h66 : ∀ (n : Nat) {s : ev_M} {x1 : Int32} {x2 : Int32} {q : ev_M × Int32} , fM_doTariff_h66 n s x1 x2 = some q → fr F_M_doTariff s q.1 := by
  intro n
  induction n with
  | zero => intro s x1 x2 q h; cases h
  | succ n ih =>
    intro s x1 x2 q h
    have g : fr F_M_doTariff s s := fr.rf
    refine fr_if h (fun h => ?_) fun h => ?_
    · refine fr_if h (fun h => ?_) fun h => ?_
      · exact g.tr ((fr_fM_doTariff_b89 ih h))
      · refine fr_if h (fun h => ?_) fun h => ?_
        · exact g.tr ((fr_fM_doTariff_b89 ih h))
        · exact g.tr ((fr_fM_doTariff_b128 h))
    · exact g.tr ((fr_fM_doTariff_b128 h))
theorem fr_fM_doTariff_h7 : ∀ (n : Nat) {s : ev_M} {x1 : Int32} {x2 : Int32} {q : ev_M × Int32} , fM_doTariff_h7 n s x1 x2 = some q → fr F_M_doTariff s q.1 := by
  intro n
  induction n with
  | zero => intro s x1 x2 q h; cases h
  | succ n ih =>
    intro s x1 x2 q h
    have g : fr F_M_doTariff s s := fr.rf
    refine fr_if h (fun h => ?_) fun h => ?_
    · refine fr_gd h fun c0 h => ?_
      refine fr_gd h fun c1 h => ?_
      refine fr_ltM h (Q := fr F_M_doTariff s) (g.wI rfl) fun s11 gs11 h => ?_
      refine fr_gd h fun c2 h => ?_
      refine fr_gd h fun c3 h => ?_
      refine fr_ltM h (Q := fr F_M_doTariff s) (gs11.wI rfl) fun s12 gs12 h => ?_
      refine fr_gd h fun c4 h => ?_
      refine fr_gd h fun c5 h => ?_
      refine fr_ltM h (Q := fr F_M_doTariff s) (gs12.wI rfl) fun s13 gs13 h => ?_
      exact gs13.tr ((ih h))
    · refine fr_ltM h (Q := fr F_M_doTariff s) (g.wI rfl) fun s14 gs14 h => ?_
      refine fr_ltM h (Q := fr F_M_doTariff s) (gs14.wI rfl) fun s15 gs15 h => ?_
      exact gs15.tr ((fr_fM_doTariff_h66 1048576 h))
theorem fr_fM_doTariff {s : ev_M} {q : ev_M × Int32} (h : fM_doTariff s = some q) : fr F_M_doTariff s q.1 := by
  have g : fr F_M_doTariff s s := fr.rf
  refine fr_ltI h fun v16 h => ?_
  exact g.tr ((fr_fM_doTariff_h7 1048576 h))
def F_M_doFrank : List (Nat × (Nat × Nat)) := [(549, 549, 16), (549, 549, 115), (600, 600, 0), (628, 628, 0), (629, 629, 0), (630, 630, 0), (631, 631, 0)]
theorem fr_fM_doFrank_b44 {s : ev_M} {q : ev_M × Int32} (h : fM_doFrank_b44 s = some q) : fr F_M_doFrank s q.1 := by
  have g : fr F_M_doFrank s s := fr.rf
  refine fr_bd2 h fun s1 v2 hc h => ?_
  have gs1 : fr F_M_doFrank s s1 := g.tr ((fr_fM_no hc).mono (F := F_M_doFrank) (by decide +kernel))
  cases h; exact gs1
theorem fr_fM_doFrank_b101 {s : ev_M} {q : ev_M × Int32} (h : fM_doFrank_b101 s = some q) : fr F_M_doFrank s q.1 := by
  have g : fr F_M_doFrank s s := fr.rf
  refine fr_bd2 h fun s3 v4 hc h => ?_
  have gs3 : fr F_M_doFrank s s3 := g.tr ((fr_fM_no hc).mono (F := F_M_doFrank) (by decide +kernel))
  cases h; exact gs3
theorem fr_fM_doFrank_b84 {s : ev_M} {x1 : Int32} {x2 : Int32} {y1 : Int32} {q : ev_M × Int32} (h : fM_doFrank_b84 s x1 x2 y1 = some q) : fr F_M_doFrank s q.1 := by
  have g : fr F_M_doFrank s s := fr.rf
  refine fr_bd1 h fun v5 hc h => ?_
  refine fr_bd1 h fun v6 hc h => ?_
  refine fr_if h (fun h => ?_) fun h => ?_
  · refine fr_bd1 h fun v7 hc h => ?_
    refine fr_if h (fun h => ?_) fun h => ?_
    · refine fr_gd h fun c0 h => ?_
      refine fr_ltM h (Q := fr F_M_doFrank s) (g.wI rfl) fun s8 gs8 h => ?_
      refine fr_gd h fun c1 h => ?_
      refine fr_bd1 h fun s9 hc h => ?_
      have gs9 := gs8.tr ((fr_fM_pay hc).mono (F := F_M_doFrank) (by decide +kernel))
      cases h; exact gs9
    · exact g.tr ((fr_fM_doFrank_b101 h))
  · exact g.tr ((fr_fM_doFrank_b101 h))
theorem fr_fM_doFrank {s : ev_M} {a1 : Int32} {q : ev_M × Int32} (h : fM_doFrank s a1 = some q) : fr F_M_doFrank s q.1 := by
  have g : fr F_M_doFrank s s := fr.rf
  refine fr_bd1 h fun v10 hc h => ?_
  refine fr_if h (fun h => ?_) fun h => ?_
  · refine fr_bd2 h fun s11 v12 hc h => ?_
    have gs11 : fr F_M_doFrank s s11 := g.tr ((fr_fM_no hc).mono (F := F_M_doFrank) (by decide +kernel))
    cases h; exact gs11
  · refine fr_bd1 h fun v13 hc h => ?_
    refine fr_gd h fun c0 h => ?_
    refine fr_if h (fun h => ?_) fun h => ?_
    · refine fr_bd1 h fun v14 hc h => ?_
      refine fr_if h (fun h => ?_) fun h => ?_
      · exact g.tr ((fr_fM_doFrank_b44 h))
      · refine fr_if h (fun h => ?_) fun h => ?_
        · exact g.tr ((fr_fM_doFrank_b44 h))
        · refine fr_gd h fun c1 h => ?_
          refine fr_bd1 h fun v15 hc h => ?_
          refine fr_if h (fun h => ?_) fun h => ?_
          · refine fr_bd2 h fun s16 v17 hc h => ?_
            have gs16 : fr F_M_doFrank s s16 := g.tr ((fr_fM_no hc).mono (F := F_M_doFrank) (by decide +kernel))
            cases h; exact gs16
          · refine fr_if h (fun h => ?_) fun h => ?_
            · exact g.tr ((fr_fM_doFrank_b84 h))
            · exact g.tr ((fr_fM_doFrank_b84 h))
    · exact g.tr ((fr_fM_doFrank_b44 h))
def F_M_doOrder : List (Nat × (Nat × Nat)) := [(549, 549, 16), (549, 549, 115), (549, 549, 120), (628, 628, 0), (629, 629, 0), (630, 630, 0), (631, 631, 0), (632, 632, 0), (633, 633, 0), (634, 634, 0), (635, 635, 0), (636, 636, 0)]
theorem fr_fM_doOrder_b36 {s : ev_M} {q : ev_M × Int32} (h : fM_doOrder_b36 s = some q) : fr F_M_doOrder s q.1 := by
  have g : fr F_M_doOrder s s := fr.rf
  refine fr_bd2 h fun s1 v2 hc h => ?_
  have gs1 : fr F_M_doOrder s s1 := g.tr ((fr_fM_no hc).mono (F := F_M_doOrder) (by decide +kernel))
  cases h; exact gs1
theorem fr_fM_doOrder_b91 {s : ev_M} {q : ev_M × Int32} (h : fM_doOrder_b91 s = some q) : fr F_M_doOrder s q.1 := by
  have g : fr F_M_doOrder s s := fr.rf
  refine fr_bd2 h fun s3 v4 hc h => ?_
  have gs3 : fr F_M_doOrder s s3 := g.tr ((fr_fM_no hc).mono (F := F_M_doOrder) (by decide +kernel))
  cases h; exact gs3
theorem fr_fM_doOrder {s : ev_M} {a1 : Int32} {a2 : Int32} {a3 : Int32} {q : ev_M × Int32} (h : fM_doOrder s a1 a2 a3 = some q) : fr F_M_doOrder s q.1 := by
  have g : fr F_M_doOrder s s := fr.rf
  refine fr_bd1 h fun v5 hc h => ?_
  refine fr_if h (fun h => ?_) fun h => ?_
  · refine fr_bd2 h fun s6 v7 hc h => ?_
    have gs6 : fr F_M_doOrder s s6 := g.tr ((fr_fM_no hc).mono (F := F_M_doOrder) (by decide +kernel))
    cases h; exact gs6
  · refine fr_bd1 h fun v8 hc h => ?_
    refine fr_if h (fun h => ?_) fun h => ?_
    · exact g.tr ((fr_fM_doOrder_b36 h))
    · refine fr_bd1 h fun v9 hc h => ?_
      refine fr_if h (fun h => ?_) fun h => ?_
      · exact g.tr ((fr_fM_doOrder_b36 h))
      · refine fr_bd1 h fun v10 hc h => ?_
        refine fr_if h (fun h => ?_) fun h => ?_
        · refine fr_bd2 h fun s11 v12 hc h => ?_
          have gs11 : fr F_M_doOrder s s11 := g.tr ((fr_fM_no hc).mono (F := F_M_doOrder) (by decide +kernel))
          cases h; exact gs11
        · refine fr_if h (fun h => ?_) fun h => ?_
          · exact g.tr ((fr_fM_doOrder_b91 h))
          · refine fr_bd1 h fun v13 hc h => ?_
            refine fr_bd1 h fun v14 hc h => ?_
            refine fr_if h (fun h => ?_) fun h => ?_
            · refine fr_bd1 h fun v15 hc h => ?_
              refine fr_if h (fun h => ?_) fun h => ?_
              · refine fr_gd h fun c0 h => ?_
                refine fr_ltM h (Q := fr F_M_doOrder s) (g.wI rfl) fun s16 gs16 h => ?_
                refine fr_gd h fun c1 h => ?_
                refine fr_ltM h (Q := fr F_M_doOrder s) (gs16.wI rfl) fun s17 gs17 h => ?_
                refine fr_gd h fun c2 h => ?_
                refine fr_ltM h (Q := fr F_M_doOrder s) (gs17.wI rfl) fun s18 gs18 h => ?_
                refine fr_gd h fun c3 h => ?_
                refine fr_ltM h (Q := fr F_M_doOrder s) (gs18.wI rfl) fun s19 gs19 h => ?_
                refine fr_bd1 h fun v20 hc h => ?_
                refine fr_gd h fun c4 h => ?_
                refine fr_ltM h (Q := fr F_M_doOrder s) (gs19.wI rfl) fun s21 gs21 h => ?_
                refine fr_ltM h (Q := fr F_M_doOrder s) (gs21.wI rfl) fun s22 gs22 h => ?_
                refine fr_bd1 h fun s23 hc h => ?_
                have gs23 := gs22.tr ((fr_fM_pay hc).mono (F := F_M_doOrder) (by decide +kernel))
                cases h; exact gs23
              · exact g.tr ((fr_fM_doOrder_b91 h))
            · exact g.tr ((fr_fM_doOrder_b91 h))
def F_M_doPayOut : List (Nat × (Nat × Nat)) := [(549, 549, 16), (549, 549, 115), (628, 628, 0), (629, 629, 0), (630, 630, 0), (631, 631, 0), (632, 632, 0)]
theorem fr_fM_doPayOut_b42 {s : ev_M} {q : ev_M × Int32} (h : fM_doPayOut_b42 s = some q) : fr F_M_doPayOut s q.1 := by
  have g : fr F_M_doPayOut s s := fr.rf
  refine fr_bd2 h fun s1 v2 hc h => ?_
  have gs1 : fr F_M_doPayOut s s1 := g.tr ((fr_fM_no hc).mono (F := F_M_doPayOut) (by decide +kernel))
  cases h; exact gs1
theorem fr_fM_doPayOut {s : ev_M} {a1 : Int32} {a2 : Int32} {a3 : Int32} {q : ev_M × Int32} (h : fM_doPayOut s a1 a2 a3 = some q) : fr F_M_doPayOut s q.1 := by
  have g : fr F_M_doPayOut s s := fr.rf
  refine fr_bd1 h fun v3 hc h => ?_
  refine fr_if h (fun h => ?_) fun h => ?_
  · refine fr_bd2 h fun s4 v5 hc h => ?_
    have gs4 : fr F_M_doPayOut s s4 := g.tr ((fr_fM_no hc).mono (F := F_M_doPayOut) (by decide +kernel))
    cases h; exact gs4
  · refine fr_bd1 h fun v6 hc h => ?_
    refine fr_if h (fun h => ?_) fun h => ?_
    · exact g.tr ((fr_fM_doPayOut_b42 h))
    · refine fr_bd1 h fun v7 hc h => ?_
      refine fr_if h (fun h => ?_) fun h => ?_
      · exact g.tr ((fr_fM_doPayOut_b42 h))
      · refine fr_gd h fun c0 h => ?_
        refine fr_if h (fun h => ?_) fun h => ?_
        · refine fr_gd h fun c1 h => ?_
          refine fr_if h (fun h => ?_) fun h => ?_
          · refine fr_if h (fun h => ?_) fun h => ?_
            · refine fr_bd2 h fun s8 v9 hc h => ?_
              have gs8 : fr F_M_doPayOut s s8 := g.tr ((fr_fM_no hc).mono (F := F_M_doPayOut) (by decide +kernel))
              cases h; exact gs8
            · refine fr_bd1 h fun v10 hc h => ?_
              refine fr_if h (fun h => ?_) fun h => ?_
              · refine fr_gd h fun c2 h => ?_
                refine fr_ltM h (Q := fr F_M_doPayOut s) (g.wI rfl) fun s11 gs11 h => ?_
                refine fr_gd h fun c3 h => ?_
                refine fr_bd1 h fun s12 hc h => ?_
                have gs12 := gs11.tr ((fr_fM_pay hc).mono (F := F_M_doPayOut) (by decide +kernel))
                refine fr_gd h fun c4 h => ?_
                cases h; exact gs12
              · refine fr_bd2 h fun s13 v14 hc h => ?_
                have gs13 : fr F_M_doPayOut s s13 := g.tr ((fr_fM_no hc).mono (F := F_M_doPayOut) (by decide +kernel))
                cases h; exact gs13
          · refine fr_bd2 h fun s15 v16 hc h => ?_
            have gs15 : fr F_M_doPayOut s s15 := g.tr ((fr_fM_no hc).mono (F := F_M_doPayOut) (by decide +kernel))
            cases h; exact gs15
        · refine fr_bd2 h fun s17 v18 hc h => ?_
          have gs17 : fr F_M_doPayOut s s17 := g.tr ((fr_fM_no hc).mono (F := F_M_doPayOut) (by decide +kernel))
          cases h; exact gs17
def F_M_doClaim : List (Nat × (Nat × Nat)) := [(549, 549, 16), (549, 549, 115), (603, 603, 0), (628, 628, 0), (629, 629, 0), (630, 630, 0), (631, 631, 0)]
theorem fr_fM_doClaim_b64 {s : ev_M} {q : ev_M × Int32} (h : fM_doClaim_b64 s = some q) : fr F_M_doClaim s q.1 := by
  have g : fr F_M_doClaim s s := fr.rf
  refine fr_bd2 h fun s1 v2 hc h => ?_
  have gs1 : fr F_M_doClaim s s1 := g.tr ((fr_fM_no hc).mono (F := F_M_doClaim) (by decide +kernel))
  cases h; exact gs1
theorem fr_fM_doClaim_b90 {s : ev_M} {q : ev_M × Int32} (h : fM_doClaim_b90 s = some q) : fr F_M_doClaim s q.1 := by
  have g : fr F_M_doClaim s s := fr.rf
  refine fr_bd2 h fun s3 v4 hc h => ?_
  have gs3 : fr F_M_doClaim s s3 := g.tr ((fr_fM_no hc).mono (F := F_M_doClaim) (by decide +kernel))
  cases h; exact gs3
theorem fr_fM_doClaim_b111 {s : ev_M} {x1 : Int32} {y0 : Int32} {q : ev_M × Int32} (h : fM_doClaim_b111 s x1 y0 = some q) : fr F_M_doClaim s q.1 := by
  have g : fr F_M_doClaim s s := fr.rf
  refine fr_gd h fun c0 h => ?_
  refine fr_ltM h (Q := fr F_M_doClaim s) (g.wI rfl) fun s5 gs5 h => ?_
  refine fr_gd h fun c1 h => ?_
  refine fr_bd1 h fun s6 hc h => ?_
  have gs6 := gs5.tr ((fr_fM_pay hc).mono (F := F_M_doClaim) (by decide +kernel))
  cases h; exact gs6
theorem fr_fM_doClaim {s : ev_M} {a1 : Int32} {a2 : Int32} {q : ev_M × Int32} (h : fM_doClaim s a1 a2 = some q) : fr F_M_doClaim s q.1 := by
  have g : fr F_M_doClaim s s := fr.rf
  refine fr_bd1 h fun v7 hc h => ?_
  refine fr_if h (fun h => ?_) fun h => ?_
  · refine fr_bd2 h fun s8 v9 hc h => ?_
    have gs8 : fr F_M_doClaim s s8 := g.tr ((fr_fM_no hc).mono (F := F_M_doClaim) (by decide +kernel))
    cases h; exact gs8
  · refine fr_bd1 h fun v10 hc h => ?_
    refine fr_if h (fun h => ?_) fun h => ?_
    · refine fr_bd2 h fun s11 v12 hc h => ?_
      have gs11 : fr F_M_doClaim s s11 := g.tr ((fr_fM_no hc).mono (F := F_M_doClaim) (by decide +kernel))
      cases h; exact gs11
    · refine fr_gd h fun c0 h => ?_
      refine fr_if h (fun h => ?_) fun h => ?_
      · refine fr_gd h fun c1 h => ?_
        refine fr_if h (fun h => ?_) fun h => ?_
        · exact g.tr ((fr_fM_doClaim_b64 h))
        · refine fr_gd h fun c2 h => ?_
          refine fr_if h (fun h => ?_) fun h => ?_
          · refine fr_bd1 h fun v13 hc h => ?_
            refine fr_bd1 h fun v14 hc h => ?_
            refine fr_if h (fun h => ?_) fun h => ?_
            · refine fr_bd1 h fun v15 hc h => ?_
              refine fr_if h (fun h => ?_) fun h => ?_
              · refine fr_if h (fun h => ?_) fun h => ?_
                · exact g.tr ((fr_fM_doClaim_b111 h))
                · exact g.tr ((fr_fM_doClaim_b111 h))
              · exact g.tr ((fr_fM_doClaim_b90 h))
            · exact g.tr ((fr_fM_doClaim_b90 h))
          · exact g.tr ((fr_fM_doClaim_b64 h))
      · exact g.tr ((fr_fM_doClaim_b64 h))
def F_M_doLocker : List (Nat × (Nat × Nat)) := [(549, 549, 16), (549, 549, 108), (623, 623, 0), (624, 624, 0), (625, 625, 0)]
theorem fr_fM_doLocker_b48 {s : ev_M} {q : ev_M × Int32} (h : fM_doLocker_b48 s = some q) : fr F_M_doLocker s q.1 := by
  have g : fr F_M_doLocker s s := fr.rf
  refine fr_bd2 h fun s1 v2 hc h => ?_
  have gs1 : fr F_M_doLocker s s1 := g.tr ((fr_fM_no hc).mono (F := F_M_doLocker) (by decide +kernel))
  cases h; exact gs1
theorem fr_fM_doLocker {s : ev_M} {a1 : Int32} {a2 : Int32} {q : ev_M × Int32} (h : fM_doLocker s a1 a2 = some q) : fr F_M_doLocker s q.1 := by
  have g : fr F_M_doLocker s s := fr.rf
  refine fr_bd1 h fun v3 hc h => ?_
  refine fr_if h (fun h => ?_) fun h => ?_
  · refine fr_bd2 h fun s4 v5 hc h => ?_
    have gs4 : fr F_M_doLocker s s4 := g.tr ((fr_fM_no hc).mono (F := F_M_doLocker) (by decide +kernel))
    cases h; exact gs4
  · refine fr_bd1 h fun v6 hc h => ?_
    refine fr_if h (fun h => ?_) fun h => ?_
    · refine fr_bd2 h fun s7 v8 hc h => ?_
      have gs7 : fr F_M_doLocker s s7 := g.tr ((fr_fM_no hc).mono (F := F_M_doLocker) (by decide +kernel))
      cases h; exact gs7
    · refine fr_if h (fun h => ?_) fun h => ?_
      · exact g.tr ((fr_fM_doLocker_b48 h))
      · refine fr_bd1 h fun v9 hc h => ?_
        refine fr_if h (fun h => ?_) fun h => ?_
        · refine fr_gd h fun c0 h => ?_
          refine fr_ltM h (Q := fr F_M_doLocker s) (g.wI rfl) fun s10 gs10 h => ?_
          refine fr_gd h fun c1 h => ?_
          refine fr_ltM h (Q := fr F_M_doLocker s) (gs10.wI rfl) fun s11 gs11 h => ?_
          refine fr_gd h fun c2 h => ?_
          refine fr_ltM h (Q := fr F_M_doLocker s) (gs11.wI rfl) fun s12 gs12 h => ?_
          refine fr_ltM h (Q := fr F_M_doLocker s) (gs12.wI rfl) fun s13 gs13 h => ?_
          cases h; exact gs13
        · exact g.tr ((fr_fM_doLocker_b48 h))
def F_M_doDevice : List (Nat × (Nat × Nat)) := [(549, 549, 16), (647, 647, 0)]
theorem fr_fM_doDevice {s : ev_M} {a1 : Int32} {a2 : Int32} {q : ev_M × Int32} (h : fM_doDevice s a1 a2 = some q) : fr F_M_doDevice s q.1 := by
  have g : fr F_M_doDevice s s := fr.rf
  refine fr_bd1 h fun v1 hc h => ?_
  refine fr_if h (fun h => ?_) fun h => ?_
  · refine fr_bd2 h fun s2 v3 hc h => ?_
    have gs2 : fr F_M_doDevice s s2 := g.tr ((fr_fM_no hc).mono (F := F_M_doDevice) (by decide +kernel))
    cases h; exact gs2
  · refine fr_bd1 h fun v4 hc h => ?_
    refine fr_if h (fun h => ?_) fun h => ?_
    · refine fr_bd2 h fun s5 v6 hc h => ?_
      have gs5 : fr F_M_doDevice s s5 := g.tr ((fr_fM_no hc).mono (F := F_M_doDevice) (by decide +kernel))
      cases h; exact gs5
    · refine fr_bd1 h fun v7 hc h => ?_
      refine fr_if h (fun h => ?_) fun h => ?_
      · refine fr_gd h fun c0 h => ?_
        refine fr_ltM h (Q := fr F_M_doDevice s) (g.wI rfl) fun s8 gs8 h => ?_
        refine fr_gd h fun c1 h => ?_
        cases h; exact gs8
      · refine fr_bd2 h fun s9 v10 hc h => ?_
        have gs9 : fr F_M_doDevice s s9 := g.tr ((fr_fM_no hc).mono (F := F_M_doDevice) (by decide +kernel))
        cases h; exact gs9
def F_M_doScanned : List (Nat × (Nat × Nat)) := [(549, 549, 16), (549, 549, 130), (640, 640, 0), (641, 641, 0), (642, 642, 0), (643, 643, 0)]
theorem fr_fM_doScanned_b18 {s : ev_M} {q : ev_M × Int32} (h : fM_doScanned_b18 s = some q) : fr F_M_doScanned s q.1 := by
  have g : fr F_M_doScanned s s := fr.rf
  refine fr_bd2 h fun s1 v2 hc h => ?_
  have gs1 : fr F_M_doScanned s s1 := g.tr ((fr_fM_no hc).mono (F := F_M_doScanned) (by decide +kernel))
  cases h; exact gs1
theorem fr_fM_doScanned_b67 {s : ev_M} {q : ev_M × Int32} (h : fM_doScanned_b67 s = some q) : fr F_M_doScanned s q.1 := by
  have g : fr F_M_doScanned s s := fr.rf
  refine fr_bd2 h fun s3 v4 hc h => ?_
  have gs3 : fr F_M_doScanned s s3 := g.tr ((fr_fM_no hc).mono (F := F_M_doScanned) (by decide +kernel))
  cases h; exact gs3
theorem fr_fM_doScanned {s : ev_M} {a1 : Int32} {a2 : Int32} {a3 : Int32} {a4 : Int32} {q : ev_M × Int32} (h : fM_doScanned s a1 a2 a3 a4 = some q) : fr F_M_doScanned s q.1 := by
  have g : fr F_M_doScanned s s := fr.rf
  refine fr_bd1 h fun v5 hc h => ?_
  refine fr_if h (fun h => ?_) fun h => ?_
  · exact g.tr ((fr_fM_doScanned_b18 h))
  · refine fr_bd1 h fun v6 hc h => ?_
    refine fr_if h (fun h => ?_) fun h => ?_
    · exact g.tr ((fr_fM_doScanned_b18 h))
    · refine fr_bd1 h fun v7 hc h => ?_
      refine fr_if h (fun h => ?_) fun h => ?_
      · exact g.tr ((fr_fM_doScanned_b67 h))
      · refine fr_bd1 h fun v8 hc h => ?_
        refine fr_if h (fun h => ?_) fun h => ?_
        · exact g.tr ((fr_fM_doScanned_b67 h))
        · refine fr_gd h fun c0 h => ?_
          refine fr_bd1 h fun v9 hc h => ?_
          refine fr_if h (fun h => ?_) fun h => ?_
          · exact g.tr ((fr_fM_doScanned_b67 h))
          · refine fr_bd1 h fun v10 hc h => ?_
            refine fr_if h (fun h => ?_) fun h => ?_
            · refine fr_gd h fun c1 h => ?_
              refine fr_bd1 h fun s11 hc h => ?_
              have gs11 := g.tr ((fr_fM_event hc).mono (F := F_M_doScanned) (by decide +kernel))
              cases h; exact gs11
            · refine fr_bd2 h fun s12 v13 hc h => ?_
              have gs12 : fr F_M_doScanned s s12 := g.tr ((fr_fM_no hc).mono (F := F_M_doScanned) (by decide +kernel))
              cases h; exact gs12
def F_M_findWays : List (Nat × (Nat × Nat)) := [(675, 675, 0), (676, 676, 0), (677, 677, 0)]
theorem fr_fM_findWays_b191 {k49 : ev_M → Int32 → Int32 → Option ev_M} {k63 : ev_M → Int32 → Int32 → Int32 → Option ev_M} (hk49 : ∀ {s : ev_M} {z1 : Int32} {z2 : Int32} {q : ev_M} , k49 s z1 z2 = some q → fr F_M_findWays s q) (hk63 : ∀ {s : ev_M} {z1 : Int32} {z2 : Int32} {z3 : Int32} {q : ev_M} , k63 s z1 z2 z3 = some q → fr F_M_findWays s q) {s : ev_M} {x1 : Int32} {x2 : Int32} {x3 : Int32} {q : ev_M} (h : fM_findWays_b191 k49 k63 s x1 x2 x3 = some q) : fr F_M_findWays s q := by
  have g : fr F_M_findWays s s := fr.rf
  exact g.tr ((hk63 h))
theorem fr_fM_findWays_b190 {k49 : ev_M → Int32 → Int32 → Option ev_M} {k63 : ev_M → Int32 → Int32 → Int32 → Option ev_M} (hk49 : ∀ {s : ev_M} {z1 : Int32} {z2 : Int32} {q : ev_M} , k49 s z1 z2 = some q → fr F_M_findWays s q) (hk63 : ∀ {s : ev_M} {z1 : Int32} {z2 : Int32} {z3 : Int32} {q : ev_M} , k63 s z1 z2 z3 = some q → fr F_M_findWays s q) {s : ev_M} {x1 : Int32} {x2 : Int32} {x3 : Int32} {y1 : Int32} {y2 : Int32} {q : ev_M} (h : fM_findWays_b190 k49 k63 s x1 x2 x3 y1 y2 = some q) : fr F_M_findWays s q := by
  have g : fr F_M_findWays s s := fr.rf
  refine fr_gd h fun c0 h => ?_
  refine fr_ltM h (Q := fr F_M_findWays s) (g.wI rfl) fun s1 gs1 h => ?_
  exact gs1.tr ((fr_fM_findWays_b191 hk49 hk63 h))
theorem fr_fM_findWays_b160 {k49 : ev_M → Int32 → Int32 → Option ev_M} {k63 : ev_M → Int32 → Int32 → Int32 → Option ev_M} (hk49 : ∀ {s : ev_M} {z1 : Int32} {z2 : Int32} {q : ev_M} , k49 s z1 z2 = some q → fr F_M_findWays s q) (hk63 : ∀ {s : ev_M} {z1 : Int32} {z2 : Int32} {z3 : Int32} {q : ev_M} , k63 s z1 z2 z3 = some q → fr F_M_findWays s q) {s : ev_M} {x1 : Int32} {x2 : Int32} {x3 : Int32} {x4 : Int32} {x5 : Int32} {q : ev_M} (h : fM_findWays_b160 k49 k63 s x1 x2 x3 x4 x5 = some q) : fr F_M_findWays s q := by
  have g : fr F_M_findWays s s := fr.rf
  refine fr_gd h fun c0 h => ?_
  refine fr_ltM h (Q := fr F_M_findWays s) (g.wI rfl) fun s2 gs2 h => ?_
  refine fr_if h (fun h => ?_) fun h => ?_
  · exact gs2.tr ((fr_fM_findWays_b190 hk49 hk63 h))
  · refine fr_gd h fun c1 h => ?_
    exact gs2.tr ((fr_fM_findWays_b190 hk49 hk63 h))
theorem fr_fM_findWays_b120 {k49 : ev_M → Int32 → Int32 → Option ev_M} {k63 : ev_M → Int32 → Int32 → Int32 → Option ev_M} (hk49 : ∀ {s : ev_M} {z1 : Int32} {z2 : Int32} {q : ev_M} , k49 s z1 z2 = some q → fr F_M_findWays s q) (hk63 : ∀ {s : ev_M} {z1 : Int32} {z2 : Int32} {z3 : Int32} {q : ev_M} , k63 s z1 z2 z3 = some q → fr F_M_findWays s q) {s : ev_M} {x1 : Int32} {x2 : Int32} {x3 : Int32} {y0 : Int32} {q : ev_M} (h : fM_findWays_b120 k49 k63 s x1 x2 x3 y0 = some q) : fr F_M_findWays s q := by
  have g : fr F_M_findWays s s := fr.rf
  refine fr_gd h fun c0 h => ?_
  refine fr_ltI h fun v3 h => ?_
  refine fr_gd h fun c1 h => ?_
  refine fr_ltI h fun v4 h => ?_
  refine fr_gd h fun c2 h => ?_
  refine fr_if h (fun h => ?_) fun h => ?_
  · exact g.tr ((fr_fM_findWays_b160 hk49 hk63 h))
  · refine fr_gd h fun c3 h => ?_
    refine fr_if h (fun h => ?_) fun h => ?_
    · exact g.tr ((fr_fM_findWays_b160 hk49 hk63 h))
    · exact g.tr ((fr_fM_findWays_b191 hk49 hk63 h))
theorem fr_fM_findWays_b265 {k49 : ev_M → Int32 → Int32 → Option ev_M} {k201 : ev_M → Int32 → Int32 → Int32 → Option ev_M} (hk49 : ∀ {s : ev_M} {z1 : Int32} {z2 : Int32} {q : ev_M} , k49 s z1 z2 = some q → fr F_M_findWays s q) (hk201 : ∀ {s : ev_M} {z1 : Int32} {z2 : Int32} {z3 : Int32} {q : ev_M} , k201 s z1 z2 z3 = some q → fr F_M_findWays s q) {s : ev_M} {x1 : Int32} {x3 : Int32} {y0 : Int32} {q : ev_M} (h : fM_findWays_b265 k49 k201 s x1 x3 y0 = some q) : fr F_M_findWays s q := by
  have g : fr F_M_findWays s s := fr.rf
  exact g.tr ((hk201 h))
theorem fr_fM_findWays_b260 {k49 : ev_M → Int32 → Int32 → Option ev_M} {k201 : ev_M → Int32 → Int32 → Int32 → Option ev_M} (hk49 : ∀ {s : ev_M} {z1 : Int32} {z2 : Int32} {q : ev_M} , k49 s z1 z2 = some q → fr F_M_findWays s q) (hk201 : ∀ {s : ev_M} {z1 : Int32} {z2 : Int32} {z3 : Int32} {q : ev_M} , k201 s z1 z2 z3 = some q → fr F_M_findWays s q) {s : ev_M} {x1 : Int32} {x3 : Int32} {q : ev_M} (h : fM_findWays_b260 k49 k201 s x1 x3 = some q) : fr F_M_findWays s q := by
  have g : fr F_M_findWays s s := fr.rf
  exact g.tr ((fr_fM_findWays_b265 hk49 hk201 h))
theorem fr_fM_findWays_b264 {k49 : ev_M → Int32 → Int32 → Option ev_M} {k201 : ev_M → Int32 → Int32 → Int32 → Option ev_M} (hk49 : ∀ {s : ev_M} {z1 : Int32} {z2 : Int32} {q : ev_M} , k49 s z1 z2 = some q → fr F_M_findWays s q) (hk201 : ∀ {s : ev_M} {z1 : Int32} {z2 : Int32} {z3 : Int32} {q : ev_M} , k201 s z1 z2 z3 = some q → fr F_M_findWays s q) {s : ev_M} {x1 : Int32} {x2 : Int32} {x3 : Int32} {q : ev_M} (h : fM_findWays_b264 k49 k201 s x1 x2 x3 = some q) : fr F_M_findWays s q := by
  have g : fr F_M_findWays s s := fr.rf
  exact g.tr ((fr_fM_findWays_b265 hk49 hk201 h))
theorem fr_fM_findWays_b233 {k49 : ev_M → Int32 → Int32 → Option ev_M} {k201 : ev_M → Int32 → Int32 → Int32 → Option ev_M} (hk49 : ∀ {s : ev_M} {z1 : Int32} {z2 : Int32} {q : ev_M} , k49 s z1 z2 = some q → fr F_M_findWays s q) (hk201 : ∀ {s : ev_M} {z1 : Int32} {z2 : Int32} {z3 : Int32} {q : ev_M} , k201 s z1 z2 z3 = some q → fr F_M_findWays s q) {s : ev_M} {x1 : Int32} {x2 : Int32} {x3 : Int32} {y0 : Int32} {q : ev_M} (h : fM_findWays_b233 k49 k201 s x1 x2 x3 y0 = some q) : fr F_M_findWays s q := by
  have g : fr F_M_findWays s s := fr.rf
  refine fr_if h (fun h => ?_) fun h => ?_
  · exact g.tr ((fr_fM_findWays_b264 hk49 hk201 h))
  · refine fr_if h (fun h => ?_) fun h => ?_
    · exact g.tr ((fr_fM_findWays_b260 hk49 hk201 h))
    · refine fr_gd h fun c0 h => ?_
      refine fr_gd h fun c1 h => ?_
      refine fr_if h (fun h => ?_) fun h => ?_
      · exact g.tr ((fr_fM_findWays_b260 hk49 hk201 h))
      · exact g.tr ((fr_fM_findWays_b264 hk49 hk201 h))
theorem fr_fM_findWays_b232 {k49 : ev_M → Int32 → Int32 → Option ev_M} {k201 : ev_M → Int32 → Int32 → Int32 → Option ev_M} (hk49 : ∀ {s : ev_M} {z1 : Int32} {z2 : Int32} {q : ev_M} , k49 s z1 z2 = some q → fr F_M_findWays s q) (hk201 : ∀ {s : ev_M} {z1 : Int32} {z2 : Int32} {z3 : Int32} {q : ev_M} , k201 s z1 z2 z3 = some q → fr F_M_findWays s q) {s : ev_M} {x1 : Int32} {x2 : Int32} {x3 : Int32} {q : ev_M} (h : fM_findWays_b232 k49 k201 s x1 x2 x3 = some q) : fr F_M_findWays s q := by
  have g : fr F_M_findWays s s := fr.rf
  exact g.tr ((fr_fM_findWays_b233 hk49 hk201 h))
theorem fr_fM_findWays_h201 {k49 : ev_M → Int32 → Int32 → Option ev_M} (hk49 : ∀ {s : ev_M} {z1 : Int32} {z2 : Int32} {q : ev_M} , k49 s z1 z2 = some q → fr F_M_findWays s q) : ∀ (n : Nat) {s : ev_M} {x1 : Int32} {x2 : Int32} {x3 : Int32} {q : ev_M} , fM_findWays_h201 k49 n s x1 x2 x3 = some q → fr F_M_findWays s q := by
  intro n
  induction n with
  | zero => intro s x1 x2 x3 q h; cases h
  | succ n ih =>
    intro s x1 x2 x3 q h
    have g : fr F_M_findWays s s := fr.rf
    refine fr_if h (fun h => ?_) fun h => ?_
    · refine fr_gd h fun c0 h => ?_
      refine fr_if h (fun h => ?_) fun h => ?_
      · exact g.tr ((fr_fM_findWays_b232 hk49 ih h))
      · refine fr_gd h fun c1 h => ?_
        refine fr_if h (fun h => ?_) fun h => ?_
        · exact g.tr ((fr_fM_findWays_b233 hk49 ih h))
        · exact g.tr ((fr_fM_findWays_b232 hk49 ih h))
    · exact g.tr ((hk49 h))
theorem fr_fM_findWays_h63 {k49 : ev_M → Int32 → Int32 → Option ev_M} (hk49 : ∀ {s : ev_M} {z1 : Int32} {z2 : Int32} {q : ev_M} , k49 s z1 z2 = some q → fr F_M_findWays s q) : ∀ (n : Nat) {s : ev_M} {x1 : Int32} {x2 : Int32} {x3 : Int32} {q : ev_M} , fM_findWays_h63 k49 n s x1 x2 x3 = some q → fr F_M_findWays s q := by
  intro n
  induction n with
  | zero => intro s x1 x2 x3 q h; cases h
  | succ n ih =>
    intro s x1 x2 x3 q h
    have g : fr F_M_findWays s s := fr.rf
    refine fr_if h (fun h => ?_) fun h => ?_
    · refine fr_gd h fun c0 h => ?_
      refine fr_if h (fun h => ?_) fun h => ?_
      · refine fr_gd h fun c1 h => ?_
        refine fr_gd h fun c2 h => ?_
        refine fr_if h (fun h => ?_) fun h => ?_
        · refine fr_gd h fun c3 h => ?_
          refine fr_gd h fun c4 h => ?_
          refine fr_bd1 h fun v5 hc h => ?_
          exact g.tr ((fr_fM_findWays_b120 hk49 ih h))
        · refine fr_gd h fun c3 h => ?_
          exact g.tr ((fr_fM_findWays_b120 hk49 ih h))
      · exact g.tr ((fr_fM_findWays_b191 hk49 ih h))
    · exact g.tr ((fr_fM_findWays_h201 hk49 1048576 h))
theorem fr_fM_findWays_h49 : ∀ (n : Nat) {s : ev_M} {x1 : Int32} {x2 : Int32} {q : ev_M} , fM_findWays_h49 n s x1 x2 = some q → fr F_M_findWays s q := by
  intro n
  induction n with
  | zero => intro s x1 x2 q h; cases h
  | succ n ih =>
    intro s x1 x2 q h
    have g : fr F_M_findWays s s := fr.rf
    refine fr_if h (fun h => ?_) fun h => ?_
    · cases h; exact g
    · refine fr_gd h fun c0 h => ?_
      refine fr_ltM h (Q := fr F_M_findWays s) (g.wI rfl) fun s6 gs6 h => ?_
      exact gs6.tr ((fr_fM_findWays_h63 ih 1048576 h))
theorem fr_fM_findWays_h2 : ∀ (n : Nat) {s : ev_M} {x1 : Int32} {x2 : Int32} {q : ev_M} , fM_findWays_h2 n s x1 x2 = some q → fr F_M_findWays s q := by
  intro n
  induction n with
  | zero => intro s x1 x2 q h; cases h
  | succ n ih =>
    intro s x1 x2 q h
    have g : fr F_M_findWays s s := fr.rf
    refine fr_if h (fun h => ?_) fun h => ?_
    · refine fr_gd h fun c0 h => ?_
      refine fr_ltM h (Q := fr F_M_findWays s) (g.wI rfl) fun s7 gs7 h => ?_
      refine fr_gd h fun c1 h => ?_
      refine fr_ltM h (Q := fr F_M_findWays s) (gs7.wI rfl) fun s8 gs8 h => ?_
      refine fr_gd h fun c2 h => ?_
      refine fr_ltM h (Q := fr F_M_findWays s) (gs8.wI rfl) fun s9 gs9 h => ?_
      exact gs9.tr ((ih h))
    · refine fr_gd h fun c0 h => ?_
      refine fr_ltM h (Q := fr F_M_findWays s) (g.wI rfl) fun s10 gs10 h => ?_
      exact gs10.tr ((fr_fM_findWays_h49 1048576 h))
theorem fr_fM_findWays {s : ev_M} {a1 : Int32} {q : ev_M} (h : fM_findWays s a1 = some q) : fr F_M_findWays s q := by
  have g : fr F_M_findWays s s := fr.rf
  exact g.tr ((fr_fM_findWays_h2 1048576 h))
def F_M_departs : List (Nat × (Nat × Nat)) := [(616, 616, 0), (617, 617, 0), (618, 618, 0), (621, 621, 0), (622, 622, 0), (675, 675, 0), (676, 676, 0), (677, 677, 0)]
theorem fr_fM_departs_b44 {k9 : ev_M → Int32 → Int32 → Int32 → Option ev_M} (hk9 : ∀ {s : ev_M} {z1 : Int32} {z2 : Int32} {z3 : Int32} {q : ev_M} , k9 s z1 z2 z3 = some q → fr F_M_departs s q) {s : ev_M} {x1 : Int32} {x3 : Int32} {y0 : Int32} {q : ev_M} (h : fM_departs_b44 k9 s x1 x3 y0 = some q) : fr F_M_departs s q := by
  have g : fr F_M_departs s s := fr.rf
  exact g.tr ((hk9 h))
theorem fr_fM_departs_b43 {k9 : ev_M → Int32 → Int32 → Int32 → Option ev_M} (hk9 : ∀ {s : ev_M} {z1 : Int32} {z2 : Int32} {z3 : Int32} {q : ev_M} , k9 s z1 z2 z3 = some q → fr F_M_departs s q) {s : ev_M} {x1 : Int32} {x2 : Int32} {x3 : Int32} {q : ev_M} (h : fM_departs_b43 k9 s x1 x2 x3 = some q) : fr F_M_departs s q := by
  have g : fr F_M_departs s s := fr.rf
  exact g.tr ((fr_fM_departs_b44 hk9 h))
theorem fr_fM_departs_b101 {k56 : ev_M → Int32 → Int32 → Int32 → Int32 → Option ev_M} (hk56 : ∀ {s : ev_M} {z1 : Int32} {z2 : Int32} {z3 : Int32} {z4 : Int32} {q : ev_M} , k56 s z1 z2 z3 z4 = some q → fr F_M_departs s q) {s : ev_M} {x1 : Int32} {x2 : Int32} {x4 : Int32} {y0 : Int32} {q : ev_M} (h : fM_departs_b101 k56 s x1 x2 x4 y0 = some q) : fr F_M_departs s q := by
  have g : fr F_M_departs s s := fr.rf
  exact g.tr ((hk56 h))
theorem fr_fM_departs_b96 {k56 : ev_M → Int32 → Int32 → Int32 → Int32 → Option ev_M} (hk56 : ∀ {s : ev_M} {z1 : Int32} {z2 : Int32} {z3 : Int32} {z4 : Int32} {q : ev_M} , k56 s z1 z2 z3 z4 = some q → fr F_M_departs s q) {s : ev_M} {x1 : Int32} {x2 : Int32} {x4 : Int32} {q : ev_M} (h : fM_departs_b96 k56 s x1 x2 x4 = some q) : fr F_M_departs s q := by
  have g : fr F_M_departs s s := fr.rf
  exact g.tr ((fr_fM_departs_b101 hk56 h))
theorem fr_fM_departs_b100 {k56 : ev_M → Int32 → Int32 → Int32 → Int32 → Option ev_M} (hk56 : ∀ {s : ev_M} {z1 : Int32} {z2 : Int32} {z3 : Int32} {z4 : Int32} {q : ev_M} , k56 s z1 z2 z3 z4 = some q → fr F_M_departs s q) {s : ev_M} {x1 : Int32} {x2 : Int32} {x4 : Int32} {q : ev_M} (h : fM_departs_b100 k56 s x1 x2 x4 = some q) : fr F_M_departs s q := by
  have g : fr F_M_departs s s := fr.rf
  exact g.tr ((fr_fM_departs_b101 hk56 h))
theorem fr_fM_departs_b234 {k125 : ev_M → Int32 → Int32 → Int32 → Int32 → Option ev_M} (hk125 : ∀ {s : ev_M} {z1 : Int32} {z2 : Int32} {z3 : Int32} {z4 : Int32} {q : ev_M} , k125 s z1 z2 z3 z4 = some q → fr F_M_departs s q) {s : ev_M} {x1 : Int32} {x2 : Int32} {x3 : Int32} {x4 : Int32} {q : ev_M} (h : fM_departs_b234 k125 s x1 x2 x3 x4 = some q) : fr F_M_departs s q := by
  have g : fr F_M_departs s s := fr.rf
  exact g.tr ((hk125 h))
theorem fr_fM_departs_b186 {k125 : ev_M → Int32 → Int32 → Int32 → Int32 → Option ev_M} (hk125 : ∀ {s : ev_M} {z1 : Int32} {z2 : Int32} {z3 : Int32} {z4 : Int32} {q : ev_M} , k125 s z1 z2 z3 z4 = some q → fr F_M_departs s q) {s : ev_M} {x1 : Int32} {x2 : Int32} {x3 : Int32} {x4 : Int32} {y0 : Int32} {q : ev_M} (h : fM_departs_b186 k125 s x1 x2 x3 x4 y0 = some q) : fr F_M_departs s q := by
  have g : fr F_M_departs s s := fr.rf
  refine fr_if h (fun h => ?_) fun h => ?_
  · exact g.tr ((fr_fM_departs_b234 hk125 h))
  · refine fr_if h (fun h => ?_) fun h => ?_
    · exact g.tr ((fr_fM_departs_b234 hk125 h))
    · refine fr_gd h fun c0 h => ?_
      refine fr_ltM h (Q := fr F_M_departs s) (g.wI rfl) fun s1 gs1 h => ?_
      refine fr_gd h fun c1 h => ?_
      refine fr_ltM h (Q := fr F_M_departs s) (gs1.wI rfl) fun s2 gs2 h => ?_
      refine fr_gd h fun c2 h => ?_
      refine fr_gd h fun c3 h => ?_
      refine fr_ltM h (Q := fr F_M_departs s) (gs2.wI rfl) fun s3 gs3 h => ?_
      exact gs3.tr ((fr_fM_departs_b234 hk125 h))
theorem fr_fM_departs_b185 {k125 : ev_M → Int32 → Int32 → Int32 → Int32 → Option ev_M} (hk125 : ∀ {s : ev_M} {z1 : Int32} {z2 : Int32} {z3 : Int32} {z4 : Int32} {q : ev_M} , k125 s z1 z2 z3 z4 = some q → fr F_M_departs s q) {s : ev_M} {x1 : Int32} {x2 : Int32} {x3 : Int32} {x4 : Int32} {q : ev_M} (h : fM_departs_b185 k125 s x1 x2 x3 x4 = some q) : fr F_M_departs s q := by
  have g : fr F_M_departs s s := fr.rf
  exact g.tr ((fr_fM_departs_b186 hk125 h))
theorem fr_fM_departs_b240 {s : ev_M} {x1 : Int32} {q : ev_M} (h : fM_departs_b240 s x1 = some q) : fr F_M_departs s q := by
  have g : fr F_M_departs s s := fr.rf
  refine fr_gd h fun c0 h => ?_
  refine fr_bd1 h fun v4 hc h => ?_
  refine fr_gd h fun c1 h => ?_
  refine fr_ltM h (Q := fr F_M_departs s) (g.wI rfl) fun s5 gs5 h => ?_
  refine fr_gd h fun c2 h => ?_
  refine fr_ltM h (Q := fr F_M_departs s) (gs5.wI rfl) fun s6 gs6 h => ?_
  cases h; exact gs6
theorem fr_fM_departs_h125 : ∀ (n : Nat) {s : ev_M} {x1 : Int32} {x2 : Int32} {x3 : Int32} {x4 : Int32} {q : ev_M} , fM_departs_h125 n s x1 x2 x3 x4 = some q → fr F_M_departs s q := by
  intro n
  induction n with
  | zero => intro s x1 x2 x3 x4 q h; cases h
  | succ n ih =>
    intro s x1 x2 x3 x4 q h
    have g : fr F_M_departs s s := fr.rf
    refine fr_if h (fun h => ?_) fun h => ?_
    · refine fr_if h (fun h => ?_) fun h => ?_
      · exact g.tr ((fr_fM_departs_b240 h))
      · refine fr_gd h fun c0 h => ?_
        refine fr_if h (fun h => ?_) fun h => ?_
        · refine fr_gd h fun c1 h => ?_
          refine fr_gd h fun c2 h => ?_
          refine fr_if h (fun h => ?_) fun h => ?_
          · refine fr_gd h fun c3 h => ?_
            refine fr_gd h fun c4 h => ?_
            refine fr_if h (fun h => ?_) fun h => ?_
            · exact g.tr ((fr_fM_departs_b186 ih h))
            · exact g.tr ((fr_fM_departs_b185 ih h))
          · exact g.tr ((fr_fM_departs_b185 ih h))
        · exact g.tr ((fr_fM_departs_b185 ih h))
    · exact g.tr ((fr_fM_departs_b240 h))
theorem fr_fM_departs_b122 {s : ev_M} {x1 : Int32} {x2 : Int32} {x3 : Int32} {q : ev_M} (h : fM_departs_b122 s x1 x2 x3 = some q) : fr F_M_departs s q := by
  have g : fr F_M_departs s s := fr.rf
  exact g.tr ((fr_fM_departs_h125 1048576 h))
theorem fr_fM_departs_h56 : ∀ (n : Nat) {s : ev_M} {x1 : Int32} {x2 : Int32} {x3 : Int32} {x4 : Int32} {q : ev_M} , fM_departs_h56 n s x1 x2 x3 x4 = some q → fr F_M_departs s q := by
  intro n
  induction n with
  | zero => intro s x1 x2 x3 x4 q h; cases h
  | succ n ih =>
    intro s x1 x2 x3 x4 q h
    have g : fr F_M_departs s s := fr.rf
    refine fr_if h (fun h => ?_) fun h => ?_
    · refine fr_if h (fun h => ?_) fun h => ?_
      · refine fr_gd h fun c0 h => ?_
        refine fr_if h (fun h => ?_) fun h => ?_
        · refine fr_gd h fun c1 h => ?_
          refine fr_gd h fun c2 h => ?_
          refine fr_if h (fun h => ?_) fun h => ?_
          · exact g.tr ((fr_fM_departs_b96 ih h))
          · exact g.tr ((fr_fM_departs_b100 ih h))
        · exact g.tr ((fr_fM_departs_b100 ih h))
      · exact g.tr ((fr_fM_departs_b96 ih h))
    · refine fr_if h (fun h => ?_) fun h => ?_
      · exact g.tr ((fr_fM_departs_b122 h))
      · refine fr_gd h fun c0 h => ?_
        refine fr_bd1 h fun s7 hc h => ?_
        have gs7 := g.tr ((fr_fM_findWays hc).mono (F := F_M_departs) (by decide +kernel))
        exact gs7.tr ((fr_fM_departs_b122 h))
theorem fr_fM_departs_h9 : ∀ (n : Nat) {s : ev_M} {x1 : Int32} {x2 : Int32} {x3 : Int32} {q : ev_M} , fM_departs_h9 n s x1 x2 x3 = some q → fr F_M_departs s q := by
  intro n
  induction n with
  | zero => intro s x1 x2 x3 q h; cases h
  | succ n ih =>
    intro s x1 x2 x3 q h
    have g : fr F_M_departs s s := fr.rf
    refine fr_if h (fun h => ?_) fun h => ?_
    · refine fr_gd h fun c0 h => ?_
      refine fr_if h (fun h => ?_) fun h => ?_
      · refine fr_gd h fun c1 h => ?_
        refine fr_if h (fun h => ?_) fun h => ?_
        · exact g.tr ((fr_fM_departs_b44 ih h))
        · exact g.tr ((fr_fM_departs_b43 ih h))
      · exact g.tr ((fr_fM_departs_b43 ih h))
    · exact g.tr ((fr_fM_departs_h56 1048576 h))
theorem fr_fM_departs {s : ev_M} {a1 : Int32} {q : ev_M} (h : fM_departs s a1 = some q) : fr F_M_departs s q := by
  have g : fr F_M_departs s s := fr.rf
  refine fr_gd h fun c0 h => ?_
  refine fr_ltI h fun v8 h => ?_
  exact g.tr ((fr_fM_departs_h9 1048576 h))
def F_M_dayBegins : List (Nat × (Nat × Nat)) := [(549, 549, 24), (549, 549, 115), (549, 549, 130), (549, 549, 135), (583, 583, 0), (591, 591, 0), (592, 592, 0), (593, 593, 0), (595, 595, 0), (597, 597, 0), (598, 598, 0), (599, 599, 0), (602, 602, 0), (625, 625, 0), (628, 628, 0), (629, 629, 0), (630, 630, 0), (631, 631, 0), (632, 632, 0), (640, 640, 0), (641, 641, 0), (642, 642, 0), (643, 643, 0), (644, 644, 0), (645, 645, 0), (646, 646, 0)]
theorem fr_fM_dayBegins_b40 {k2 : ev_M → Int32 → Option ev_M} (hk2 : ∀ {s : ev_M} {z1 : Int32} {q : ev_M} , k2 s z1 = some q → fr F_M_dayBegins s q) {s : ev_M} {x1 : Int32} {q : ev_M} (h : fM_dayBegins_b40 k2 s x1 = some q) : fr F_M_dayBegins s q := by
  have g : fr F_M_dayBegins s s := fr.rf
  exact g.tr ((hk2 h))
theorem fr_fM_dayBegins_b103 {k48 : ev_M → Int32 → Option ev_M} (hk48 : ∀ {s : ev_M} {z1 : Int32} {q : ev_M} , k48 s z1 = some q → fr F_M_dayBegins s q) {s : ev_M} {x1 : Int32} {q : ev_M} (h : fM_dayBegins_b103 k48 s x1 = some q) : fr F_M_dayBegins s q := by
  have g : fr F_M_dayBegins s s := fr.rf
  exact g.tr ((hk48 h))
theorem fr_fM_dayBegins_h111 : ∀ (n : Nat) {s : ev_M} {x1 : Int32} {q : ev_M} , fM_dayBegins_h111 n s x1 = some q → fr F_M_dayBegins s q := by
  intro n
  induction n with
  | zero => intro s x1 q h; cases h
  | succ n ih =>
    intro s x1 q h
    have g : fr F_M_dayBegins s s := fr.rf
    refine fr_if h (fun h => ?_) fun h => ?_
    · refine fr_gd h fun c0 h => ?_
      refine fr_ltM h (Q := fr F_M_dayBegins s) (g.wI rfl) fun s1 gs1 h => ?_
      exact gs1.tr ((ih h))
    · cases h; exact g
theorem fr_fM_dayBegins_h48 : ∀ (n : Nat) {s : ev_M} {x1 : Int32} {q : ev_M} , fM_dayBegins_h48 n s x1 = some q → fr F_M_dayBegins s q := by
  intro n
  induction n with
  | zero => intro s x1 q h; cases h
  | succ n ih =>
    intro s x1 q h
    have g : fr F_M_dayBegins s s := fr.rf
    refine fr_if h (fun h => ?_) fun h => ?_
    · refine fr_gd h fun c0 h => ?_
      refine fr_if h (fun h => ?_) fun h => ?_
      · refine fr_gd h fun c1 h => ?_
        refine fr_bd1 h fun v2 hc h => ?_
        refine fr_if h (fun h => ?_) fun h => ?_
        · refine fr_gd h fun c2 h => ?_
          refine fr_ltM h (Q := fr F_M_dayBegins s) (g.wI rfl) fun s3 gs3 h => ?_
          refine fr_gd h fun c3 h => ?_
          refine fr_gd h fun c4 h => ?_
          refine fr_bd1 h fun s4 hc h => ?_
          have gs4 := gs3.tr ((fr_fM_pay hc).mono (F := F_M_dayBegins) (by decide +kernel))
          exact gs4.tr ((fr_fM_dayBegins_b103 ih h))
        · exact g.tr ((fr_fM_dayBegins_b103 ih h))
      · exact g.tr ((fr_fM_dayBegins_b103 ih h))
    · exact g.tr ((fr_fM_dayBegins_h111 1048576 h))
theorem fr_fM_dayBegins_h2 : ∀ (n : Nat) {s : ev_M} {x1 : Int32} {q : ev_M} , fM_dayBegins_h2 n s x1 = some q → fr F_M_dayBegins s q := by
  intro n
  induction n with
  | zero => intro s x1 q h; cases h
  | succ n ih =>
    intro s x1 q h
    have g : fr F_M_dayBegins s s := fr.rf
    refine fr_if h (fun h => ?_) fun h => ?_
    · refine fr_gd h fun c0 h => ?_
      refine fr_if h (fun h => ?_) fun h => ?_
      · refine fr_gd h fun c1 h => ?_
        refine fr_bd1 h fun v5 hc h => ?_
        refine fr_if h (fun h => ?_) fun h => ?_
        · refine fr_bd2 h fun s6 v7 hc h => ?_
          have gs6 : fr F_M_dayBegins s s6 := g.tr ((fr_fM_goesBack hc).mono (F := F_M_dayBegins) (by decide +kernel))
          exact gs6.tr ((fr_fM_dayBegins_b40 ih h))
        · exact g.tr ((fr_fM_dayBegins_b40 ih h))
      · exact g.tr ((fr_fM_dayBegins_b40 ih h))
    · exact g.tr ((fr_fM_dayBegins_h48 1048576 h))
theorem fr_fM_dayBegins {s : ev_M} {q : ev_M} (h : fM_dayBegins s = some q) : fr F_M_dayBegins s q := by
  have g : fr F_M_dayBegins s s := fr.rf
  exact g.tr ((fr_fM_dayBegins_h2 1048576 h))
def F_M_doTick : List (Nat × (Nat × Nat)) := [(549, 549, 16), (549, 549, 23), (549, 549, 24), (549, 549, 115), (549, 549, 130), (549, 549, 135), (583, 583, 0), (591, 591, 0), (592, 592, 0), (593, 593, 0), (595, 595, 0), (597, 597, 0), (598, 598, 0), (599, 599, 0), (602, 602, 0), (616, 616, 0), (617, 617, 0), (618, 618, 0), (619, 619, 0), (621, 621, 0), (622, 622, 0), (625, 625, 0), (628, 628, 0), (629, 629, 0), (630, 630, 0), (631, 631, 0), (632, 632, 0), (640, 640, 0), (641, 641, 0), (642, 642, 0), (643, 643, 0), (644, 644, 0), (645, 645, 0), (646, 646, 0), (675, 675, 0), (676, 676, 0), (677, 677, 0)]
theorem fr_fM_doTick_b23 {s : ev_M} {q : ev_M × Int32} (h : fM_doTick_b23 s = some q) : fr F_M_doTick s q.1 := by
  have g : fr F_M_doTick s s := fr.rf
  refine fr_bd2 h fun s1 v2 hc h => ?_
  have gs1 : fr F_M_doTick s s1 := g.tr ((fr_fM_no hc).mono (F := F_M_doTick) (by decide +kernel))
  cases h; exact gs1
theorem fr_fM_doTick_b154 {k51 : ev_M → Int32 → Option (ev_M × Int32)} {k85 : ev_M → Int32 → Int32 → Option (ev_M × Int32)} (hk51 : ∀ {s : ev_M} {z1 : Int32} {q : ev_M × Int32} , k51 s z1 = some q → fr F_M_doTick s q.1) (hk85 : ∀ {s : ev_M} {z1 : Int32} {z2 : Int32} {q : ev_M × Int32} , k85 s z1 z2 = some q → fr F_M_doTick s q.1) {s : ev_M} {x2 : Int32} {x3 : Int32} {q : ev_M × Int32} (h : fM_doTick_b154 k51 k85 s x2 x3 = some q) : fr F_M_doTick s q.1 := by
  have g : fr F_M_doTick s s := fr.rf
  exact g.tr ((hk85 h))
theorem fr_fM_doTick_b188 {k51 : ev_M → Int32 → Option (ev_M × Int32)} {k162 : ev_M → Int32 → Int32 → Option (ev_M × Int32)} (hk51 : ∀ {s : ev_M} {z1 : Int32} {q : ev_M × Int32} , k51 s z1 = some q → fr F_M_doTick s q.1) (hk162 : ∀ {s : ev_M} {z1 : Int32} {z2 : Int32} {q : ev_M × Int32} , k162 s z1 z2 = some q → fr F_M_doTick s q.1) {s : ev_M} {x2 : Int32} {x3 : Int32} {q : ev_M × Int32} (h : fM_doTick_b188 k51 k162 s x2 x3 = some q) : fr F_M_doTick s q.1 := by
  have g : fr F_M_doTick s s := fr.rf
  exact g.tr ((hk162 h))
theorem fr_fM_doTick_h162 {k51 : ev_M → Int32 → Option (ev_M × Int32)} (hk51 : ∀ {s : ev_M} {z1 : Int32} {q : ev_M × Int32} , k51 s z1 = some q → fr F_M_doTick s q.1) : ∀ (n : Nat) {s : ev_M} {x2 : Int32} {x3 : Int32} {q : ev_M × Int32} , fM_doTick_h162 k51 n s x2 x3 = some q → fr F_M_doTick s q.1 := by
  intro n
  induction n with
  | zero => intro s x2 x3 q h; cases h
  | succ n ih =>
    intro s x2 x3 q h
    have g : fr F_M_doTick s s := fr.rf
    refine fr_if h (fun h => ?_) fun h => ?_
    · refine fr_gd h fun c0 h => ?_
      refine fr_if h (fun h => ?_) fun h => ?_
      · refine fr_bd1 h fun s3 hc h => ?_
        have gs3 := g.tr ((fr_fM_departs hc).mono (F := F_M_doTick) (by decide +kernel))
        exact gs3.tr ((fr_fM_doTick_b188 hk51 ih h))
      · exact g.tr ((fr_fM_doTick_b188 hk51 ih h))
    · exact g.tr ((hk51 h))
theorem fr_fM_doTick_h85 {k51 : ev_M → Int32 → Option (ev_M × Int32)} (hk51 : ∀ {s : ev_M} {z1 : Int32} {q : ev_M × Int32} , k51 s z1 = some q → fr F_M_doTick s q.1) : ∀ (n : Nat) {s : ev_M} {x2 : Int32} {x3 : Int32} {q : ev_M × Int32} , fM_doTick_h85 k51 n s x2 x3 = some q → fr F_M_doTick s q.1 := by
  intro n
  induction n with
  | zero => intro s x2 x3 q h; cases h
  | succ n ih =>
    intro s x2 x3 q h
    have g : fr F_M_doTick s s := fr.rf
    refine fr_if h (fun h => ?_) fun h => ?_
    · refine fr_gd h fun c0 h => ?_
      refine fr_if h (fun h => ?_) fun h => ?_
      · refine fr_gd h fun c1 h => ?_
        refine fr_if h (fun h => ?_) fun h => ?_
        · refine fr_gd h fun c2 h => ?_
          refine fr_ltM h (Q := fr F_M_doTick s) (g.wI rfl) fun s4 gs4 h => ?_
          refine fr_gd h fun c3 h => ?_
          refine fr_gd h fun c4 h => ?_
          refine fr_gd h fun c5 h => ?_
          refine fr_ltM h (Q := fr F_M_doTick s) (gs4.wI rfl) fun s5 gs5 h => ?_
          refine fr_gd h fun c6 h => ?_
          refine fr_ltM h (Q := fr F_M_doTick s) (gs5.wI rfl) fun s6 gs6 h => ?_
          refine fr_gd h fun c7 h => ?_
          refine fr_ltM h (Q := fr F_M_doTick s) (gs6.wI rfl) fun s7 gs7 h => ?_
          exact gs7.tr ((fr_fM_doTick_b154 hk51 ih h))
        · exact g.tr ((fr_fM_doTick_b154 hk51 ih h))
      · exact g.tr ((fr_fM_doTick_b154 hk51 ih h))
    · exact g.tr ((fr_fM_doTick_h162 hk51 1048576 h))
theorem fr_fM_doTick_b83 {k51 : ev_M → Int32 → Option (ev_M × Int32)} (hk51 : ∀ {s : ev_M} {z1 : Int32} {q : ev_M × Int32} , k51 s z1 = some q → fr F_M_doTick s q.1) {s : ev_M} {x2 : Int32} {q : ev_M × Int32} (h : fM_doTick_b83 k51 s x2 = some q) : fr F_M_doTick s q.1 := by
  have g : fr F_M_doTick s s := fr.rf
  exact g.tr ((fr_fM_doTick_h85 hk51 1048576 h))
theorem fr_fM_doTick_h51 : ∀ (n : Nat) {s : ev_M} {x2 : Int32} {q : ev_M × Int32} , fM_doTick_h51 n s x2 = some q → fr F_M_doTick s q.1 := by
  intro n
  induction n with
  | zero => intro s x2 q h; cases h
  | succ n ih =>
    intro s x2 q h
    have g : fr F_M_doTick s s := fr.rf
    refine fr_if h (fun h => ?_) fun h => ?_
    · refine fr_bd1 h fun v8 hc h => ?_
      refine fr_ltM h (Q := fr F_M_doTick s) (g.wI rfl) fun s9 gs9 h => ?_
      refine fr_dv h fun h => ?_
      refine fr_if h (fun h => ?_) fun h => ?_
      · refine fr_bd1 h fun s10 hc h => ?_
        have gs10 := gs9.tr ((fr_fM_dayBegins hc).mono (F := F_M_doTick) (by decide +kernel))
        exact gs10.tr ((fr_fM_doTick_b83 ih h))
      · exact gs9.tr ((fr_fM_doTick_b83 ih h))
    · cases h; exact g
theorem fr_fM_doTick {s : ev_M} {a1 : Int32} {q : ev_M × Int32} (h : fM_doTick s a1 = some q) : fr F_M_doTick s q.1 := by
  have g : fr F_M_doTick s s := fr.rf
  refine fr_bd1 h fun v11 hc h => ?_
  refine fr_if h (fun h => ?_) fun h => ?_
  · exact g.tr ((fr_fM_doTick_b23 h))
  · refine fr_if h (fun h => ?_) fun h => ?_
    · refine fr_bd1 h fun v12 hc h => ?_
      refine fr_if h (fun h => ?_) fun h => ?_
      · refine fr_ltI h fun v13 h => ?_
        exact g.tr ((fr_fM_doTick_h51 1048576 h))
      · refine fr_bd2 h fun s14 v15 hc h => ?_
        have gs14 : fr F_M_doTick s s14 := g.tr ((fr_fM_no hc).mono (F := F_M_doTick) (by decide +kernel))
        cases h; exact gs14
    · exact g.tr ((fr_fM_doTick_b23 h))
def F_M_act : List (Nat × (Nat × Nat)) := [(549, 549, 16), (549, 549, 23), (549, 549, 24), (549, 549, 25), (549, 549, 28), (549, 549, 34), (549, 549, 39), (549, 549, 44), (549, 549, 49), (549, 549, 50), (549, 549, 51), (549, 549, 52), (549, 549, 59), (549, 549, 84), (549, 549, 85), (549, 549, 86), (549, 549, 87), (549, 549, 88), (549, 549, 92), (549, 549, 94), (549, 549, 102), (549, 549, 108), (549, 549, 112), (549, 549, 115), (549, 549, 120), (549, 549, 126), (549, 549, 130), (549, 549, 135), (549, 549, 140), (549, 549, 141), (549, 549, 142), (549, 549, 147), (549, 549, 153), (549, 549, 154), (549, 549, 167), (558, 558, 0), (559, 559, 0), (560, 560, 0), (561, 561, 0), (562, 562, 0), (563, 563, 0), (564, 564, 0), (565, 565, 0), (566, 566, 0), (567, 567, 0), (568, 568, 0), (569, 569, 0), (570, 570, 0), (571, 571, 0), (572, 572, 0), (573, 573, 0), (574, 574, 0), (575, 575, 0), (576, 576, 0), (577, 577, 0), (578, 578, 0), (579, 579, 0), (580, 580, 0), (581, 581, 0), (582, 582, 0), (583, 583, 0), (584, 584, 0), (585, 585, 0), (586, 586, 0), (587, 587, 0), (588, 588, 0), (589, 589, 0), (590, 590, 0), (591, 591, 0), (592, 592, 0), (593, 593, 0), (594, 594, 0), (595, 595, 0), (596, 596, 0), (597, 597, 0), (598, 598, 0), (599, 599, 0), (600, 600, 0), (601, 601, 0), (602, 602, 0), (603, 603, 0), (604, 604, 0), (605, 605, 0), (606, 606, 0), (607, 607, 0), (608, 608, 0), (609, 609, 0), (610, 610, 0), (611, 611, 0), (612, 612, 0), (613, 613, 0), (614, 614, 0), (615, 615, 0), (616, 616, 0), (617, 617, 0), (618, 618, 0), (619, 619, 0), (620, 620, 0), (621, 621, 0), (622, 622, 0), (623, 623, 0), (624, 624, 0), (625, 625, 0), (626, 626, 0), (627, 627, 0), (628, 628, 0), (629, 629, 0), (630, 630, 0), (631, 631, 0), (632, 632, 0), (633, 633, 0), (634, 634, 0), (635, 635, 0), (636, 636, 0), (637, 637, 0), (638, 638, 0), (639, 639, 0), (640, 640, 0), (641, 641, 0), (642, 642, 0), (643, 643, 0), (644, 644, 0), (645, 645, 0), (646, 646, 0), (647, 647, 0), (648, 648, 0), (649, 649, 0), (650, 650, 0), (651, 651, 0), (652, 652, 0), (653, 653, 0), (654, 654, 0), (655, 655, 0), (656, 656, 0), (658, 658, 0), (659, 659, 0), (664, 664, 0), (665, 665, 0), (666, 666, 0), (667, 667, 0), (668, 668, 0), (669, 669, 0), (670, 670, 0), (671, 671, 0), (672, 672, 0), (673, 673, 0), (674, 674, 0), (675, 675, 0), (676, 676, 0), (677, 677, 0), (678, 678, 0), (679, 679, 0), (680, 680, 0)]
theorem fr_fM_act_b516 {s : ev_M} {y1 : Int32} {y2 : Int32} {y3 : Int32} {q : ev_M × Int32} (h : fM_act_b516 s y1 y2 y3 = some q) : fr F_M_act s q.1 := by
  have g : fr F_M_act s s := fr.rf
  refine fr_bd2 h fun s1 v2 hc h => ?_
  have gs1 : fr F_M_act s s1 := g.tr ((fr_fM_doWish hc).mono (F := F_M_act) (by decide +kernel))
  cases h; exact gs1
theorem fr_fM_act {s : ev_M} {q : ev_M × Int32} (h : fM_act s = some q) : fr F_M_act s q.1 := by
  have g : fr F_M_act s s := fr.rf
  refine fr_ltI h fun v3 h => ?_
  refine fr_ltI h fun v4 h => ?_
  refine fr_ltI h fun v5 h => ?_
  refine fr_ltI h fun v6 h => ?_
  refine fr_if h (fun h => ?_) fun h => ?_
  · refine fr_bd2 h fun s7 v8 hc h => ?_
    have gs7 : fr F_M_act s s7 := g.tr ((fr_fM_doBook hc).mono (F := F_M_act) (by decide +kernel))
    cases h; exact gs7
  · refine fr_if h (fun h => ?_) fun h => ?_
    · refine fr_bd2 h fun s9 v10 hc h => ?_
      have gs9 : fr F_M_act s s9 := g.tr ((fr_fM_doNote hc).mono (F := F_M_act) (by decide +kernel))
      cases h; exact gs9
    · refine fr_if h (fun h => ?_) fun h => ?_
      · refine fr_bd2 h fun s11 v12 hc h => ?_
        have gs11 : fr F_M_act s s11 := g.tr ((fr_fM_doNote hc).mono (F := F_M_act) (by decide +kernel))
        cases h; exact gs11
      · refine fr_if h (fun h => ?_) fun h => ?_
        · refine fr_bd2 h fun s13 v14 hc h => ?_
          have gs13 : fr F_M_act s s13 := g.tr ((fr_fM_doSheet hc).mono (F := F_M_act) (by decide +kernel))
          cases h; exact gs13
        · refine fr_if h (fun h => ?_) fun h => ?_
          · refine fr_bd2 h fun s15 v16 hc h => ?_
            have gs15 : fr F_M_act s s15 := g.tr ((fr_fM_doItem hc).mono (F := F_M_act) (by decide +kernel))
            cases h; exact gs15
          · refine fr_if h (fun h => ?_) fun h => ?_
            · refine fr_bd2 h fun s17 v18 hc h => ?_
              have gs17 : fr F_M_act s s17 := g.tr ((fr_fM_doAddress hc).mono (F := F_M_act) (by decide +kernel))
              cases h; exact gs17
            · refine fr_if h (fun h => ?_) fun h => ?_
              · refine fr_bd2 h fun s19 v20 hc h => ?_
                have gs19 : fr F_M_act s s19 := g.tr ((fr_fM_doTake hc).mono (F := F_M_act) (by decide +kernel))
                cases h; exact gs19
              · refine fr_if h (fun h => ?_) fun h => ?_
                · refine fr_bd2 h fun s21 v22 hc h => ?_
                  have gs21 : fr F_M_act s s21 := g.tr ((fr_fM_doClerk hc).mono (F := F_M_act) (by decide +kernel))
                  cases h; exact gs21
                · refine fr_if h (fun h => ?_) fun h => ?_
                  · refine fr_bd2 h fun s23 v24 hc h => ?_
                    have gs23 : fr F_M_act s s23 := g.tr ((fr_fM_doPost hc).mono (F := F_M_act) (by decide +kernel))
                    cases h; exact gs23
                  · refine fr_if h (fun h => ?_) fun h => ?_
                    · refine fr_bd2 h fun s25 v26 hc h => ?_
                      have gs25 : fr F_M_act s s25 := g.tr ((fr_fM_doMachine hc).mono (F := F_M_act) (by decide +kernel))
                      cases h; exact gs25
                    · refine fr_if h (fun h => ?_) fun h => ?_
                      · refine fr_bd2 h fun s27 v28 hc h => ?_
                        have gs27 : fr F_M_act s s27 := g.tr ((fr_fM_doRound hc).mono (F := F_M_act) (by decide +kernel))
                        cases h; exact gs27
                      · refine fr_if h (fun h => ?_) fun h => ?_
                        · refine fr_bd2 h fun s29 v30 hc h => ?_
                          have gs29 : fr F_M_act s s29 := g.tr ((fr_fM_doAssign hc).mono (F := F_M_act) (by decide +kernel))
                          cases h; exact gs29
                        · refine fr_if h (fun h => ?_) fun h => ?_
                          · refine fr_bd2 h fun s31 v32 hc h => ?_
                            have gs31 : fr F_M_act s s31 := g.tr ((fr_fM_doArrange hc).mono (F := F_M_act) (by decide +kernel))
                            cases h; exact gs31
                          · refine fr_if h (fun h => ?_) fun h => ?_
                            · refine fr_bd2 h fun s33 v34 hc h => ?_
                              have gs33 : fr F_M_act s s33 := g.tr ((fr_fM_doSort hc).mono (F := F_M_act) (by decide +kernel))
                              cases h; exact gs33
                            · refine fr_if h (fun h => ?_) fun h => ?_
                              · refine fr_bd2 h fun s35 v36 hc h => ?_
                                have gs35 : fr F_M_act s s35 := g.tr ((fr_fM_doOut hc).mono (F := F_M_act) (by decide +kernel))
                                cases h; exact gs35
                              · refine fr_if h (fun h => ?_) fun h => ?_
                                · refine fr_bd2 h fun s37 v38 hc h => ?_
                                  have gs37 : fr F_M_act s s37 := g.tr ((fr_fM_doLeg hc).mono (F := F_M_act) (by decide +kernel))
                                  cases h; exact gs37
                                · refine fr_if h (fun h => ?_) fun h => ?_
                                  · refine fr_bd2 h fun s39 v40 hc h => ?_
                                    have gs39 : fr F_M_act s s39 := g.tr ((fr_fM_doLate hc).mono (F := F_M_act) (by decide +kernel))
                                    cases h; exact gs39
                                  · refine fr_if h (fun h => ?_) fun h => ?_
                                    · refine fr_bd2 h fun s41 v42 hc h => ?_
                                      have gs41 : fr F_M_act s s41 := g.tr ((fr_fM_doBag hc).mono (F := F_M_act) (by decide +kernel))
                                      cases h; exact gs41
                                    · refine fr_if h (fun h => ?_) fun h => ?_
                                      · refine fr_bd2 h fun s43 v44 hc h => ?_
                                        have gs43 : fr F_M_act s s43 := g.tr ((fr_fM_doInto hc).mono (F := F_M_act) (by decide +kernel))
                                        cases h; exact gs43
                                      · refine fr_if h (fun h => ?_) fun h => ?_
                                        · refine fr_bd2 h fun s45 v46 hc h => ?_
                                          have gs45 : fr F_M_act s s45 := g.tr ((fr_fM_doClose hc).mono (F := F_M_act) (by decide +kernel))
                                          cases h; exact gs45
                                        · refine fr_if h (fun h => ?_) fun h => ?_
                                          · refine fr_bd2 h fun s47 v48 hc h => ?_
                                            have gs47 : fr F_M_act s s47 := g.tr ((fr_fM_doOpen hc).mono (F := F_M_act) (by decide +kernel))
                                            cases h; exact gs47
                                          · refine fr_if h (fun h => ?_) fun h => ?_
                                            · refine fr_bd2 h fun s49 v50 hc h => ?_
                                              have gs49 : fr F_M_act s s49 := g.tr ((fr_fM_handOver hc).mono (F := F_M_act) (by decide +kernel))
                                              cases h; exact gs49
                                            · refine fr_if h (fun h => ?_) fun h => ?_
                                              · refine fr_bd2 h fun s51 v52 hc h => ?_
                                                have gs51 : fr F_M_act s s51 := g.tr ((fr_fM_doMiss hc).mono (F := F_M_act) (by decide +kernel))
                                                cases h; exact gs51
                                              · refine fr_if h (fun h => ?_) fun h => ?_
                                                · refine fr_bd2 h fun s53 v54 hc h => ?_
                                                  have gs53 : fr F_M_act s s53 := g.tr ((fr_fM_doRefuse hc).mono (F := F_M_act) (by decide +kernel))
                                                  cases h; exact gs53
                                                · refine fr_if h (fun h => ?_) fun h => ?_
                                                  · refine fr_bd2 h fun s55 v56 hc h => ?_
                                                    have gs55 : fr F_M_act s s55 := g.tr ((fr_fM_doPut hc).mono (F := F_M_act) (by decide +kernel))
                                                    cases h; exact gs55
                                                  · refine fr_if h (fun h => ?_) fun h => ?_
                                                    · refine fr_bd2 h fun s57 v58 hc h => ?_
                                                      have gs57 : fr F_M_act s s57 := g.tr ((fr_fM_handOver hc).mono (F := F_M_act) (by decide +kernel))
                                                      cases h; exact gs57
                                                    · refine fr_if h (fun h => ?_) fun h => ?_
                                                      · refine fr_bd2 h fun s59 v60 hc h => ?_
                                                        have gs59 : fr F_M_act s s59 := g.tr ((fr_fM_doBox hc).mono (F := F_M_act) (by decide +kernel))
                                                        cases h; exact gs59
                                                      · refine fr_if h (fun h => ?_) fun h => ?_
                                                        · refine fr_bd2 h fun s61 v62 hc h => ?_
                                                          have gs61 : fr F_M_act s s61 := g.tr ((fr_fM_doLose hc).mono (F := F_M_act) (by decide +kernel))
                                                          cases h; exact gs61
                                                        · refine fr_if h (fun h => ?_) fun h => ?_
                                                          · refine fr_bd2 h fun s63 v64 hc h => ?_
                                                            have gs63 : fr F_M_act s s63 := g.tr ((fr_fM_doAccount hc).mono (F := F_M_act) (by decide +kernel))
                                                            cases h; exact gs63
                                                          · refine fr_if h (fun h => ?_) fun h => ?_
                                                            · refine fr_bd2 h fun s65 v66 hc h => ?_
                                                              have gs65 : fr F_M_act s s65 := g.tr ((fr_fM_doDeposit hc).mono (F := F_M_act) (by decide +kernel))
                                                              cases h; exact gs65
                                                            · refine fr_if h (fun h => ?_) fun h => ?_
                                                              · refine fr_bd2 h fun s67 v68 hc h => ?_
                                                                have gs67 : fr F_M_act s s67 := g.tr ((fr_fM_doTariff hc).mono (F := F_M_act) (by decide +kernel))
                                                                cases h; exact gs67
                                                              · refine fr_if h (fun h => ?_) fun h => ?_
                                                                · refine fr_bd2 h fun s69 v70 hc h => ?_
                                                                  have gs69 : fr F_M_act s s69 := g.tr ((fr_fM_doFrank hc).mono (F := F_M_act) (by decide +kernel))
                                                                  cases h; exact gs69
                                                                · refine fr_if h (fun h => ?_) fun h => ?_
                                                                  · refine fr_bd2 h fun s71 v72 hc h => ?_
                                                                    have gs71 : fr F_M_act s s71 := g.tr ((fr_fM_doOrder hc).mono (F := F_M_act) (by decide +kernel))
                                                                    cases h; exact gs71
                                                                  · refine fr_if h (fun h => ?_) fun h => ?_
                                                                    · refine fr_bd2 h fun s73 v74 hc h => ?_
                                                                      have gs73 : fr F_M_act s s73 := g.tr ((fr_fM_doPayOut hc).mono (F := F_M_act) (by decide +kernel))
                                                                      cases h; exact gs73
                                                                    · refine fr_if h (fun h => ?_) fun h => ?_
                                                                      · refine fr_bd2 h fun s75 v76 hc h => ?_
                                                                        have gs75 : fr F_M_act s s75 := g.tr ((fr_fM_doClaim hc).mono (F := F_M_act) (by decide +kernel))
                                                                        cases h; exact gs75
                                                                      · refine fr_if h (fun h => ?_) fun h => ?_
                                                                        · refine fr_bd2 h fun s77 v78 hc h => ?_
                                                                          have gs77 : fr F_M_act s s77 := g.tr ((fr_fM_doLocker hc).mono (F := F_M_act) (by decide +kernel))
                                                                          cases h; exact gs77
                                                                        · refine fr_if h (fun h => ?_) fun h => ?_
                                                                          · refine fr_bd2 h fun s79 v80 hc h => ?_
                                                                            have gs79 : fr F_M_act s s79 := g.tr ((fr_fM_doDevice hc).mono (F := F_M_act) (by decide +kernel))
                                                                            cases h; exact gs79
                                                                          · refine fr_if h (fun h => ?_) fun h => ?_
                                                                            · refine fr_bd2 h fun s81 v82 hc h => ?_
                                                                              have gs81 : fr F_M_act s s81 := g.tr ((fr_fM_doScanned hc).mono (F := F_M_act) (by decide +kernel))
                                                                              cases h; exact gs81
                                                                            · refine fr_if h (fun h => ?_) fun h => ?_
                                                                              · refine fr_if h (fun h => ?_) fun h => ?_
                                                                                · exact g.tr ((fr_fM_act_b516 h))
                                                                                · exact g.tr ((fr_fM_act_b516 h))
                                                                              · refine fr_bd2 h fun s83 v84 hc h => ?_
                                                                                have gs83 : fr F_M_act s s83 := g.tr ((fr_fM_doTick hc).mono (F := F_M_act) (by decide +kernel))
                                                                                cases h; exact gs83
def F_M_call : List (Nat × (Nat × Nat)) := [(549, 549, 1), (549, 549, 3), (549, 549, 10), (549, 549, 11), (549, 549, 14), (549, 549, 15), (549, 549, 16), (549, 549, 17), (549, 549, 23), (549, 549, 24), (549, 549, 25), (549, 549, 28), (549, 549, 34), (549, 549, 39), (549, 549, 44), (549, 549, 49), (549, 549, 50), (549, 549, 51), (549, 549, 52), (549, 549, 59), (549, 549, 84), (549, 549, 85), (549, 549, 86), (549, 549, 87), (549, 549, 88), (549, 549, 92), (549, 549, 94), (549, 549, 102), (549, 549, 108), (549, 549, 112), (549, 549, 115), (549, 549, 120), (549, 549, 126), (549, 549, 130), (549, 549, 135), (549, 549, 140), (549, 549, 141), (549, 549, 142), (549, 549, 147), (549, 549, 153), (549, 549, 154), (549, 549, 167), (552, 552, 0), (554, 554, 0), (558, 558, 0), (559, 559, 0), (560, 560, 0), (561, 561, 0), (562, 562, 0), (563, 563, 0), (564, 564, 0), (565, 565, 0), (566, 566, 0), (567, 567, 0), (568, 568, 0), (569, 569, 0), (570, 570, 0), (571, 571, 0), (572, 572, 0), (573, 573, 0), (574, 574, 0), (575, 575, 0), (576, 576, 0), (577, 577, 0), (578, 578, 0), (579, 579, 0), (580, 580, 0), (581, 581, 0), (582, 582, 0), (583, 583, 0), (584, 584, 0), (585, 585, 0), (586, 586, 0), (587, 587, 0), (588, 588, 0), (589, 589, 0), (590, 590, 0), (591, 591, 0), (592, 592, 0), (593, 593, 0), (594, 594, 0), (595, 595, 0), (596, 596, 0), (597, 597, 0), (598, 598, 0), (599, 599, 0), (600, 600, 0), (601, 601, 0), (602, 602, 0), (603, 603, 0), (604, 604, 0), (605, 605, 0), (606, 606, 0), (607, 607, 0), (608, 608, 0), (609, 609, 0), (610, 610, 0), (611, 611, 0), (612, 612, 0), (613, 613, 0), (614, 614, 0), (615, 615, 0), (616, 616, 0), (617, 617, 0), (618, 618, 0), (619, 619, 0), (620, 620, 0), (621, 621, 0), (622, 622, 0), (623, 623, 0), (624, 624, 0), (625, 625, 0), (626, 626, 0), (627, 627, 0), (628, 628, 0), (629, 629, 0), (630, 630, 0), (631, 631, 0), (632, 632, 0), (633, 633, 0), (634, 634, 0), (635, 635, 0), (636, 636, 0), (637, 637, 0), (638, 638, 0), (639, 639, 0), (640, 640, 0), (641, 641, 0), (642, 642, 0), (643, 643, 0), (644, 644, 0), (645, 645, 0), (646, 646, 0), (647, 647, 0), (648, 648, 0), (649, 649, 0), (650, 650, 0), (651, 651, 0), (652, 652, 0), (653, 653, 0), (654, 654, 0), (655, 655, 0), (656, 656, 0), (658, 658, 0), (659, 659, 0), (664, 664, 0), (665, 665, 0), (666, 666, 0), (667, 667, 0), (668, 668, 0), (669, 669, 0), (670, 670, 0), (671, 671, 0), (672, 672, 0), (673, 673, 0), (674, 674, 0), (675, 675, 0), (676, 676, 0), (677, 677, 0), (678, 678, 0), (679, 679, 0), (680, 680, 0)]
theorem fr_fM_call_h109 {k97 : ev_M → Int32 → Int32 → Int32 → Option (ev_M × Int32)} (hk97 : ∀ {s : ev_M} {z1 : Int32} {z2 : Int32} {z3 : Int32} {q : ev_M × Int32} , k97 s z1 z2 z3 = some q → fr F_M_call s q.1) : ∀ (n : Nat) {s : ev_M} {x1 : Int32} {x2 : Int32} {x3 : Int32} {x4 : Int32} {q : ev_M × Int32} , fM_call_h109 k97 n s x1 x2 x3 x4 = some q → fr F_M_call s q.1 := by
  intro n
  induction n with
  | zero => intro s x1 x2 x3 x4 q h; cases h
  | succ n ih =>
    intro s x1 x2 x3 x4 q h
    have g : fr F_M_call s s := fr.rf
    refine fr_if h (fun h => ?_) fun h => ?_
    · exact g.tr ((hk97 h))
    · refine fr_gd h fun c0 h => ?_
      refine fr_bd1 h fun s1 hc h => ?_
      have gs1 := g.tr ((fr_fM_note hc).mono (F := F_M_call) (by decide +kernel))
      refine fr_ltI h fun v2 h => ?_
      exact gs1.tr ((ih h))
theorem fr_fM_call_b195 {s : ev_M} {x2 : Int32} {q : ev_M × Int32} (h : fM_call_b195 s x2 = some q) : fr F_M_call s q.1 := by
  have g : fr F_M_call s s := fr.rf
  refine fr_ltM h (Q := fr F_M_call s) (g.wI rfl) fun s3 gs3 h => ?_
  cases h; exact gs3
theorem fr_fM_call_h171 : ∀ (n : Nat) {s : ev_M} {x2 : Int32} {x3 : Int32} {q : ev_M × Int32} , fM_call_h171 n s x2 x3 = some q → fr F_M_call s q.1 := by
  intro n
  induction n with
  | zero => intro s x2 x3 q h; cases h
  | succ n ih =>
    intro s x2 x3 q h
    have g : fr F_M_call s s := fr.rf
    refine fr_if h (fun h => ?_) fun h => ?_
    · refine fr_gd h fun c0 h => ?_
      refine fr_bd1 h fun s4 hc h => ?_
      have gs4 := g.tr ((fr_fM_note hc).mono (F := F_M_call) (by decide +kernel))
      exact gs4.tr ((ih h))
    · exact g.tr ((fr_fM_call_b195 h))
theorem fr_fM_call_h97 : ∀ (n : Nat) {s : ev_M} {x1 : Int32} {x2 : Int32} {x3 : Int32} {q : ev_M × Int32} , fM_call_h97 n s x1 x2 x3 = some q → fr F_M_call s q.1 := by
  intro n
  induction n with
  | zero => intro s x1 x2 x3 q h; cases h
  | succ n ih =>
    intro s x1 x2 x3 q h
    have g : fr F_M_call s s := fr.rf
    refine fr_bd1 h fun v5 hc h => ?_
    refine fr_if h (fun h => ?_) fun h => ?_
    · exact g.tr ((fr_fM_call_h109 ih 1048576 h))
    · refine fr_bd1 h fun v6 hc h => ?_
      refine fr_if h (fun h => ?_) fun h => ?_
      · exact g.tr ((fr_fM_call_b195 h))
      · refine fr_bd1 h fun s7 hc h => ?_
        have gs7 := g.tr ((fr_fM_note hc).mono (F := F_M_call) (by decide +kernel))
        refine fr_bd1 h fun s8 hc h => ?_
        have gs8 := gs7.tr ((fr_fM_note hc).mono (F := F_M_call) (by decide +kernel))
        exact gs8.tr ((fr_fM_call_h171 1048576 h))
theorem fr_fM_call_b78 {s : ev_M} {x1 : Int32} {q : ev_M × Int32} (h : fM_call_b78 s x1 = some q) : fr F_M_call s q.1 := by
  have g : fr F_M_call s s := fr.rf
  refine fr_bd2 h fun s9 v10 hc h => ?_
  have gs9 : fr F_M_call s s9 := g.tr ((fr_fM_act hc).mono (F := F_M_call) (by decide +kernel))
  refine fr_if h (fun h => ?_) fun h => ?_
  · refine fr_bd1 h fun s11 hc h => ?_
    have gs11 := gs9.tr ((fr_fM_note hc).mono (F := F_M_call) (by decide +kernel))
    exact gs11.tr ((fr_fM_call_h97 1048576 h))
  · cases h; exact gs9
theorem fr_fM_call_h52 : ∀ (n : Nat) {s : ev_M} {x1 : Int32} {x2 : Int32} {q : ev_M × Int32} , fM_call_h52 n s x1 x2 = some q → fr F_M_call s q.1 := by
  intro n
  induction n with
  | zero => intro s x1 x2 q h; cases h
  | succ n ih =>
    intro s x1 x2 q h
    have g : fr F_M_call s s := fr.rf
    refine fr_if h (fun h => ?_) fun h => ?_
    · refine fr_gd h fun c0 h => ?_
      refine fr_gd h fun c1 h => ?_
      refine fr_ltM h (Q := fr F_M_call s) (g.wI rfl) fun s12 gs12 h => ?_
      exact gs12.tr ((ih h))
    · exact g.tr ((fr_fM_call_b78 h))
theorem fr_fM_call {s : ev_M} {a1 : Int32} {q : ev_M × Int32} (h : fM_call s a1 = some q) : fr F_M_call s q.1 := by
  have g : fr F_M_call s s := fr.rf
  refine fr_ltM h (Q := fr F_M_call s) (g.wI rfl) fun s13 gs13 h => ?_
  refine fr_if h (fun h => ?_) fun h => ?_
  · refine fr_ltM h (Q := fr F_M_call s) (gs13.wI rfl) fun s14 gs14 h => ?_
    refine fr_ltM h (Q := fr F_M_call s) (gs14.wI rfl) fun s15 gs15 h => ?_
    refine fr_ltM h (Q := fr F_M_call s) (gs15.wI rfl) fun s16 gs16 h => ?_
    refine fr_bd1 h fun v17 hc h => ?_
    refine fr_if h (fun h => ?_) fun h => ?_
    · exact gs16.tr ((fr_fM_call_b78 h))
    · refine fr_ltM h (Q := fr F_M_call s) (gs16.wI rfl) fun s18 gs18 h => ?_
      refine fr_ltM h (Q := fr F_M_call s) (gs18.wI rfl) fun s19 gs19 h => ?_
      exact gs19.tr ((fr_fM_call_h52 1048576 h))
  · cases h; exact gs13
def F_M_call1 : List (Nat × (Nat × Nat)) := [(549, 549, 1), (549, 549, 3), (549, 549, 10), (549, 549, 11), (549, 549, 14), (549, 549, 15), (549, 549, 16), (549, 549, 17), (549, 549, 23), (549, 549, 24), (549, 549, 25), (549, 549, 28), (549, 549, 34), (549, 549, 39), (549, 549, 44), (549, 549, 49), (549, 549, 50), (549, 549, 51), (549, 549, 52), (549, 549, 59), (549, 549, 84), (549, 549, 85), (549, 549, 86), (549, 549, 87), (549, 549, 88), (549, 549, 92), (549, 549, 94), (549, 549, 102), (549, 549, 108), (549, 549, 112), (549, 549, 115), (549, 549, 120), (549, 549, 126), (549, 549, 130), (549, 549, 135), (549, 549, 140), (549, 549, 141), (549, 549, 142), (549, 549, 147), (549, 549, 153), (549, 549, 154), (549, 549, 167), (552, 552, 0), (553, 553, 0), (554, 554, 0), (558, 558, 0), (559, 559, 0), (560, 560, 0), (561, 561, 0), (562, 562, 0), (563, 563, 0), (564, 564, 0), (565, 565, 0), (566, 566, 0), (567, 567, 0), (568, 568, 0), (569, 569, 0), (570, 570, 0), (571, 571, 0), (572, 572, 0), (573, 573, 0), (574, 574, 0), (575, 575, 0), (576, 576, 0), (577, 577, 0), (578, 578, 0), (579, 579, 0), (580, 580, 0), (581, 581, 0), (582, 582, 0), (583, 583, 0), (584, 584, 0), (585, 585, 0), (586, 586, 0), (587, 587, 0), (588, 588, 0), (589, 589, 0), (590, 590, 0), (591, 591, 0), (592, 592, 0), (593, 593, 0), (594, 594, 0), (595, 595, 0), (596, 596, 0), (597, 597, 0), (598, 598, 0), (599, 599, 0), (600, 600, 0), (601, 601, 0), (602, 602, 0), (603, 603, 0), (604, 604, 0), (605, 605, 0), (606, 606, 0), (607, 607, 0), (608, 608, 0), (609, 609, 0), (610, 610, 0), (611, 611, 0), (612, 612, 0), (613, 613, 0), (614, 614, 0), (615, 615, 0), (616, 616, 0), (617, 617, 0), (618, 618, 0), (619, 619, 0), (620, 620, 0), (621, 621, 0), (622, 622, 0), (623, 623, 0), (624, 624, 0), (625, 625, 0), (626, 626, 0), (627, 627, 0), (628, 628, 0), (629, 629, 0), (630, 630, 0), (631, 631, 0), (632, 632, 0), (633, 633, 0), (634, 634, 0), (635, 635, 0), (636, 636, 0), (637, 637, 0), (638, 638, 0), (639, 639, 0), (640, 640, 0), (641, 641, 0), (642, 642, 0), (643, 643, 0), (644, 644, 0), (645, 645, 0), (646, 646, 0), (647, 647, 0), (648, 648, 0), (649, 649, 0), (650, 650, 0), (651, 651, 0), (652, 652, 0), (653, 653, 0), (654, 654, 0), (655, 655, 0), (656, 656, 0), (658, 658, 0), (659, 659, 0), (664, 664, 0), (665, 665, 0), (666, 666, 0), (667, 667, 0), (668, 668, 0), (669, 669, 0), (670, 670, 0), (671, 671, 0), (672, 672, 0), (673, 673, 0), (674, 674, 0), (675, 675, 0), (676, 676, 0), (677, 677, 0), (678, 678, 0), (679, 679, 0), (680, 680, 0)]
theorem fr_fM_call1 {s : ev_M} {a1 : Int32} {a2 : Int32} {q : ev_M × Int32} (h : fM_call1 s a1 a2 = some q) : fr F_M_call1 s q.1 := by
  have g : fr F_M_call1 s s := fr.rf
  refine fr_ltM h (Q := fr F_M_call1 s) (g.wI rfl) fun s1 gs1 h => ?_
  refine fr_bd2 h fun s2 v3 hc h => ?_
  have gs2 : fr F_M_call1 s s2 := gs1.tr ((fr_fM_call hc).mono (F := F_M_call1) (by decide +kernel))
  cases h; exact gs2
def F_M_call2 : List (Nat × (Nat × Nat)) := [(549, 549, 1), (549, 549, 3), (549, 549, 10), (549, 549, 11), (549, 549, 14), (549, 549, 15), (549, 549, 16), (549, 549, 17), (549, 549, 23), (549, 549, 24), (549, 549, 25), (549, 549, 28), (549, 549, 34), (549, 549, 39), (549, 549, 44), (549, 549, 49), (549, 549, 50), (549, 549, 51), (549, 549, 52), (549, 549, 59), (549, 549, 84), (549, 549, 85), (549, 549, 86), (549, 549, 87), (549, 549, 88), (549, 549, 92), (549, 549, 94), (549, 549, 102), (549, 549, 108), (549, 549, 112), (549, 549, 115), (549, 549, 120), (549, 549, 126), (549, 549, 130), (549, 549, 135), (549, 549, 140), (549, 549, 141), (549, 549, 142), (549, 549, 147), (549, 549, 153), (549, 549, 154), (549, 549, 167), (552, 552, 0), (553, 553, 0), (554, 554, 0), (558, 558, 0), (559, 559, 0), (560, 560, 0), (561, 561, 0), (562, 562, 0), (563, 563, 0), (564, 564, 0), (565, 565, 0), (566, 566, 0), (567, 567, 0), (568, 568, 0), (569, 569, 0), (570, 570, 0), (571, 571, 0), (572, 572, 0), (573, 573, 0), (574, 574, 0), (575, 575, 0), (576, 576, 0), (577, 577, 0), (578, 578, 0), (579, 579, 0), (580, 580, 0), (581, 581, 0), (582, 582, 0), (583, 583, 0), (584, 584, 0), (585, 585, 0), (586, 586, 0), (587, 587, 0), (588, 588, 0), (589, 589, 0), (590, 590, 0), (591, 591, 0), (592, 592, 0), (593, 593, 0), (594, 594, 0), (595, 595, 0), (596, 596, 0), (597, 597, 0), (598, 598, 0), (599, 599, 0), (600, 600, 0), (601, 601, 0), (602, 602, 0), (603, 603, 0), (604, 604, 0), (605, 605, 0), (606, 606, 0), (607, 607, 0), (608, 608, 0), (609, 609, 0), (610, 610, 0), (611, 611, 0), (612, 612, 0), (613, 613, 0), (614, 614, 0), (615, 615, 0), (616, 616, 0), (617, 617, 0), (618, 618, 0), (619, 619, 0), (620, 620, 0), (621, 621, 0), (622, 622, 0), (623, 623, 0), (624, 624, 0), (625, 625, 0), (626, 626, 0), (627, 627, 0), (628, 628, 0), (629, 629, 0), (630, 630, 0), (631, 631, 0), (632, 632, 0), (633, 633, 0), (634, 634, 0), (635, 635, 0), (636, 636, 0), (637, 637, 0), (638, 638, 0), (639, 639, 0), (640, 640, 0), (641, 641, 0), (642, 642, 0), (643, 643, 0), (644, 644, 0), (645, 645, 0), (646, 646, 0), (647, 647, 0), (648, 648, 0), (649, 649, 0), (650, 650, 0), (651, 651, 0), (652, 652, 0), (653, 653, 0), (654, 654, 0), (655, 655, 0), (656, 656, 0), (658, 658, 0), (659, 659, 0), (664, 664, 0), (665, 665, 0), (666, 666, 0), (667, 667, 0), (668, 668, 0), (669, 669, 0), (670, 670, 0), (671, 671, 0), (672, 672, 0), (673, 673, 0), (674, 674, 0), (675, 675, 0), (676, 676, 0), (677, 677, 0), (678, 678, 0), (679, 679, 0), (680, 680, 0)]
theorem fr_fM_call2 {s : ev_M} {a1 : Int32} {a2 : Int32} {a3 : Int32} {q : ev_M × Int32} (h : fM_call2 s a1 a2 a3 = some q) : fr F_M_call2 s q.1 := by
  have g : fr F_M_call2 s s := fr.rf
  refine fr_ltM h (Q := fr F_M_call2 s) (g.wI rfl) fun s1 gs1 h => ?_
  refine fr_bd2 h fun s2 v3 hc h => ?_
  have gs2 : fr F_M_call2 s s2 := gs1.tr ((fr_fM_call1 hc).mono (F := F_M_call2) (by decide +kernel))
  cases h; exact gs2
def F_M_call3 : List (Nat × (Nat × Nat)) := [(549, 549, 1), (549, 549, 3), (549, 549, 10), (549, 549, 11), (549, 549, 14), (549, 549, 15), (549, 549, 16), (549, 549, 17), (549, 549, 23), (549, 549, 24), (549, 549, 25), (549, 549, 28), (549, 549, 34), (549, 549, 39), (549, 549, 44), (549, 549, 49), (549, 549, 50), (549, 549, 51), (549, 549, 52), (549, 549, 59), (549, 549, 84), (549, 549, 85), (549, 549, 86), (549, 549, 87), (549, 549, 88), (549, 549, 92), (549, 549, 94), (549, 549, 102), (549, 549, 108), (549, 549, 112), (549, 549, 115), (549, 549, 120), (549, 549, 126), (549, 549, 130), (549, 549, 135), (549, 549, 140), (549, 549, 141), (549, 549, 142), (549, 549, 147), (549, 549, 153), (549, 549, 154), (549, 549, 167), (552, 552, 0), (553, 553, 0), (554, 554, 0), (558, 558, 0), (559, 559, 0), (560, 560, 0), (561, 561, 0), (562, 562, 0), (563, 563, 0), (564, 564, 0), (565, 565, 0), (566, 566, 0), (567, 567, 0), (568, 568, 0), (569, 569, 0), (570, 570, 0), (571, 571, 0), (572, 572, 0), (573, 573, 0), (574, 574, 0), (575, 575, 0), (576, 576, 0), (577, 577, 0), (578, 578, 0), (579, 579, 0), (580, 580, 0), (581, 581, 0), (582, 582, 0), (583, 583, 0), (584, 584, 0), (585, 585, 0), (586, 586, 0), (587, 587, 0), (588, 588, 0), (589, 589, 0), (590, 590, 0), (591, 591, 0), (592, 592, 0), (593, 593, 0), (594, 594, 0), (595, 595, 0), (596, 596, 0), (597, 597, 0), (598, 598, 0), (599, 599, 0), (600, 600, 0), (601, 601, 0), (602, 602, 0), (603, 603, 0), (604, 604, 0), (605, 605, 0), (606, 606, 0), (607, 607, 0), (608, 608, 0), (609, 609, 0), (610, 610, 0), (611, 611, 0), (612, 612, 0), (613, 613, 0), (614, 614, 0), (615, 615, 0), (616, 616, 0), (617, 617, 0), (618, 618, 0), (619, 619, 0), (620, 620, 0), (621, 621, 0), (622, 622, 0), (623, 623, 0), (624, 624, 0), (625, 625, 0), (626, 626, 0), (627, 627, 0), (628, 628, 0), (629, 629, 0), (630, 630, 0), (631, 631, 0), (632, 632, 0), (633, 633, 0), (634, 634, 0), (635, 635, 0), (636, 636, 0), (637, 637, 0), (638, 638, 0), (639, 639, 0), (640, 640, 0), (641, 641, 0), (642, 642, 0), (643, 643, 0), (644, 644, 0), (645, 645, 0), (646, 646, 0), (647, 647, 0), (648, 648, 0), (649, 649, 0), (650, 650, 0), (651, 651, 0), (652, 652, 0), (653, 653, 0), (654, 654, 0), (655, 655, 0), (656, 656, 0), (658, 658, 0), (659, 659, 0), (664, 664, 0), (665, 665, 0), (666, 666, 0), (667, 667, 0), (668, 668, 0), (669, 669, 0), (670, 670, 0), (671, 671, 0), (672, 672, 0), (673, 673, 0), (674, 674, 0), (675, 675, 0), (676, 676, 0), (677, 677, 0), (678, 678, 0), (679, 679, 0), (680, 680, 0)]
theorem fr_fM_call3 {s : ev_M} {a1 : Int32} {a2 : Int32} {a3 : Int32} {a4 : Int32} {q : ev_M × Int32} (h : fM_call3 s a1 a2 a3 a4 = some q) : fr F_M_call3 s q.1 := by
  have g : fr F_M_call3 s s := fr.rf
  refine fr_ltM h (Q := fr F_M_call3 s) (g.wI rfl) fun s1 gs1 h => ?_
  refine fr_bd2 h fun s2 v3 hc h => ?_
  have gs2 : fr F_M_call3 s s2 := gs1.tr ((fr_fM_call2 hc).mono (F := F_M_call3) (by decide +kernel))
  cases h; exact gs2
def F_M_wish : List (Nat × (Nat × Nat)) := [(549, 549, 1), (549, 549, 3), (549, 549, 10), (549, 549, 11), (549, 549, 14), (549, 549, 15), (549, 549, 16), (549, 549, 17), (549, 549, 23), (549, 549, 24), (549, 549, 25), (549, 549, 28), (549, 549, 34), (549, 549, 39), (549, 549, 44), (549, 549, 49), (549, 549, 50), (549, 549, 51), (549, 549, 52), (549, 549, 59), (549, 549, 84), (549, 549, 85), (549, 549, 86), (549, 549, 87), (549, 549, 88), (549, 549, 92), (549, 549, 94), (549, 549, 102), (549, 549, 108), (549, 549, 112), (549, 549, 115), (549, 549, 120), (549, 549, 126), (549, 549, 130), (549, 549, 135), (549, 549, 140), (549, 549, 141), (549, 549, 142), (549, 549, 147), (549, 549, 153), (549, 549, 154), (549, 549, 167), (552, 552, 0), (553, 553, 0), (554, 554, 0), (558, 558, 0), (559, 559, 0), (560, 560, 0), (561, 561, 0), (562, 562, 0), (563, 563, 0), (564, 564, 0), (565, 565, 0), (566, 566, 0), (567, 567, 0), (568, 568, 0), (569, 569, 0), (570, 570, 0), (571, 571, 0), (572, 572, 0), (573, 573, 0), (574, 574, 0), (575, 575, 0), (576, 576, 0), (577, 577, 0), (578, 578, 0), (579, 579, 0), (580, 580, 0), (581, 581, 0), (582, 582, 0), (583, 583, 0), (584, 584, 0), (585, 585, 0), (586, 586, 0), (587, 587, 0), (588, 588, 0), (589, 589, 0), (590, 590, 0), (591, 591, 0), (592, 592, 0), (593, 593, 0), (594, 594, 0), (595, 595, 0), (596, 596, 0), (597, 597, 0), (598, 598, 0), (599, 599, 0), (600, 600, 0), (601, 601, 0), (602, 602, 0), (603, 603, 0), (604, 604, 0), (605, 605, 0), (606, 606, 0), (607, 607, 0), (608, 608, 0), (609, 609, 0), (610, 610, 0), (611, 611, 0), (612, 612, 0), (613, 613, 0), (614, 614, 0), (615, 615, 0), (616, 616, 0), (617, 617, 0), (618, 618, 0), (619, 619, 0), (620, 620, 0), (621, 621, 0), (622, 622, 0), (623, 623, 0), (624, 624, 0), (625, 625, 0), (626, 626, 0), (627, 627, 0), (628, 628, 0), (629, 629, 0), (630, 630, 0), (631, 631, 0), (632, 632, 0), (633, 633, 0), (634, 634, 0), (635, 635, 0), (636, 636, 0), (637, 637, 0), (638, 638, 0), (639, 639, 0), (640, 640, 0), (641, 641, 0), (642, 642, 0), (643, 643, 0), (644, 644, 0), (645, 645, 0), (646, 646, 0), (647, 647, 0), (648, 648, 0), (649, 649, 0), (650, 650, 0), (651, 651, 0), (652, 652, 0), (653, 653, 0), (654, 654, 0), (655, 655, 0), (656, 656, 0), (658, 658, 0), (659, 659, 0), (664, 664, 0), (665, 665, 0), (666, 666, 0), (667, 667, 0), (668, 668, 0), (669, 669, 0), (670, 670, 0), (671, 671, 0), (672, 672, 0), (673, 673, 0), (674, 674, 0), (675, 675, 0), (676, 676, 0), (677, 677, 0), (678, 678, 0), (679, 679, 0), (680, 680, 0)]
theorem fr_fM_wish_b14 {s : ev_M} {y1 : Int32} {y2 : Int32} {y3 : Int32} {y4 : Int32} {q : ev_M × Int32} (h : fM_wish_b14 s y1 y2 y3 y4 = some q) : fr F_M_wish s q.1 := by
  have g : fr F_M_wish s s := fr.rf
  refine fr_bd2 h fun s1 v2 hc h => ?_
  have gs1 : fr F_M_wish s s1 := g.tr ((fr_fM_call3 hc).mono (F := F_M_wish) (by decide +kernel))
  cases h; exact gs1
theorem fr_fM_wish {s : ev_M} {a1 : Int32} {a2 : Int32} {a3 : Int32} {q : ev_M × Int32} (h : fM_wish s a1 a2 a3 = some q) : fr F_M_wish s q.1 := by
  have g : fr F_M_wish s s := fr.rf
  refine fr_if h (fun h => ?_) fun h => ?_
  · exact g.tr ((fr_fM_wish_b14 h))
  · exact g.tr ((fr_fM_wish_b14 h))
def F_Log_stages : List (Nat × (Nat × Nat)) := [(9, 9, 15), (14, 14, 0)]
theorem fr_fLog_stages {s : ev_M} {a1 : Int32} {a2 : Int32} {a3 : Int32} {a4 : Int32} {a5 : Int32} {a6 : Int32} {a7 : Int32} {q : ev_M × Int32} (h : fLog_stages s a1 a2 a3 a4 a5 a6 a7 = some q) : fr F_Log_stages s q.1 := by
  have g : fr F_Log_stages s s := fr.rf
  refine fr_ltM h (Q := fr F_Log_stages s) (g.wI rfl) fun s1 gs1 h => ?_
  refine fr_ltM h (Q := fr F_Log_stages s) (gs1.wI rfl) fun s2 gs2 h => ?_
  refine fr_ltM h (Q := fr F_Log_stages s) (gs2.wI rfl) fun s3 gs3 h => ?_
  refine fr_ltM h (Q := fr F_Log_stages s) (gs3.wI rfl) fun s4 gs4 h => ?_
  refine fr_ltM h (Q := fr F_Log_stages s) (gs4.wI rfl) fun s5 gs5 h => ?_
  refine fr_ltM h (Q := fr F_Log_stages s) (gs5.wI rfl) fun s6 gs6 h => ?_
  refine fr_ltM h (Q := fr F_Log_stages s) (gs6.wI rfl) fun s7 gs7 h => ?_
  refine fr_if h (fun h => ?_) fun h => ?_
  · cases h; exact gs7
  · cases h; exact gs7
def F_Log_append : List (Nat × (Nat × Nat)) := [(9, 9, 7), (13, 13, 0)]
theorem fr_fLog_append {s : ev_M} {a1 : Int32} {q : ev_M} (h : fLog_append s a1 = some q) : fr F_Log_append s q := by
  have g : fr F_Log_append s s := fr.rf
  refine fr_if h (fun h => ?_) fun h => ?_
  · refine fr_ltM h (Q := fr F_Log_append s) (g.wI rfl) fun s1 gs1 h => ?_
    refine fr_gd h fun c0 h => ?_
    refine fr_ltM h (Q := fr F_Log_append s) (gs1.wI rfl) fun s2 gs2 h => ?_
    cases h; exact gs2
  · cases h; exact g
def F_Log_appendRecord : List (Nat × (Nat × Nat)) := [(9, 9, 7), (13, 13, 0)]
theorem fr_fLog_appendRecord_h25 {k10 : ev_M → Int32 → Option ev_M} (hk10 : ∀ {s : ev_M} {z1 : Int32} {q : ev_M} , k10 s z1 = some q → fr F_Log_appendRecord s q) : ∀ (n : Nat) {s : ev_M} {x1 : Int32} {x2 : Int32} {q : ev_M} , fLog_appendRecord_h25 k10 n s x1 x2 = some q → fr F_Log_appendRecord s q := by
  intro n
  induction n with
  | zero => intro s x1 x2 q h; cases h
  | succ n ih =>
    intro s x1 x2 q h
    have g : fr F_Log_appendRecord s s := fr.rf
    refine fr_if h (fun h => ?_) fun h => ?_
    · exact g.tr ((hk10 h))
    · refine fr_gd h fun c0 h => ?_
      refine fr_bd1 h fun s1 hc h => ?_
      have gs1 := g.tr ((fr_fLog_append hc).mono (F := F_Log_appendRecord) (by decide +kernel))
      exact gs1.tr ((ih h))
theorem fr_fLog_appendRecord_h91 : ∀ (n : Nat) {s : ev_M} {x1 : Int32} {q : ev_M} , fLog_appendRecord_h91 n s x1 = some q → fr F_Log_appendRecord s q := by
  intro n
  induction n with
  | zero => intro s x1 q h; cases h
  | succ n ih =>
    intro s x1 q h
    have g : fr F_Log_appendRecord s s := fr.rf
    refine fr_if h (fun h => ?_) fun h => ?_
    · refine fr_gd h fun c0 h => ?_
      refine fr_bd1 h fun s2 hc h => ?_
      have gs2 := g.tr ((fr_fLog_append hc).mono (F := F_Log_appendRecord) (by decide +kernel))
      exact gs2.tr ((ih h))
    · cases h; exact g
theorem fr_fLog_appendRecord_h10 : ∀ (n : Nat) {s : ev_M} {x1 : Int32} {q : ev_M} , fLog_appendRecord_h10 n s x1 = some q → fr F_Log_appendRecord s q := by
  intro n
  induction n with
  | zero => intro s x1 q h; cases h
  | succ n ih =>
    intro s x1 q h
    have g : fr F_Log_appendRecord s s := fr.rf
    refine fr_gd h fun c0 h => ?_
    refine fr_if h (fun h => ?_) fun h => ?_
    · exact g.tr ((fr_fLog_appendRecord_h25 ih 1048576 h))
    · refine fr_bd1 h fun v3 hc h => ?_
      refine fr_if h (fun h => ?_) fun h => ?_
      · cases h; exact g
      · refine fr_bd1 h fun s4 hc h => ?_
        have gs4 := g.tr ((fr_fLog_append hc).mono (F := F_Log_appendRecord) (by decide +kernel))
        refine fr_bd1 h fun s5 hc h => ?_
        have gs5 := gs4.tr ((fr_fLog_append hc).mono (F := F_Log_appendRecord) (by decide +kernel))
        exact gs5.tr ((fr_fLog_appendRecord_h91 1048576 h))
theorem fr_fLog_appendRecord {s : ev_M} {q : ev_M} (h : fLog_appendRecord s = some q) : fr F_Log_appendRecord s q := by
  have g : fr F_Log_appendRecord s s := fr.rf
  refine fr_bd1 h fun s6 hc h => ?_
  have gs6 := g.tr ((fr_fLog_append hc).mono (F := F_Log_appendRecord) (by decide +kernel))
  exact gs6.tr ((fr_fLog_appendRecord_h10 1048576 h))
def F_Log_admits : List (Nat × (Nat × Nat)) := [(9, 9, 7), (9, 9, 8), (9, 9, 14), (13, 13, 0)]
theorem fr_fLog_admits_b69 {s : ev_M} {y0 : Int32} {y1 : Int32} {q : ev_M × Int32} (h : fLog_admits_b69 s y0 y1 = some q) : fr F_Log_admits s q.1 := by
  have g : fr F_Log_admits s s := fr.rf
  refine fr_ltI h fun v1 h => ?_
  refine fr_bd1 h fun v2 hc h => ?_
  refine fr_if h (fun h => ?_) fun h => ?_
  · refine fr_bd1 h fun s3 hc h => ?_
    have gs3 := g.tr ((fr_fLog_appendRecord hc).mono (F := F_Log_admits) (by decide +kernel))
    refine fr_ltM h (Q := fr F_Log_admits s) (gs3.wI rfl) fun s4 gs4 h => ?_
    cases h; exact gs4
  · cases h; exact g
theorem fr_fLog_admits {s : ev_M} {q : ev_M × Int32} (h : fLog_admits s = some q) : fr F_Log_admits s q.1 := by
  have g : fr F_Log_admits s s := fr.rf
  refine fr_if h (fun h => ?_) fun h => ?_
  · refine fr_bd1 h fun v5 hc h => ?_
    refine fr_if h (fun h => ?_) fun h => ?_
    · refine fr_gd h fun c0 h => ?_
      refine fr_bd1 h fun v6 hc h => ?_
      refine fr_if h (fun h => ?_) fun h => ?_
      · exact g.tr ((fr_fLog_admits_b69 h))
      · exact g.tr ((fr_fLog_admits_b69 h))
    · cases h; exact g
  · refine fr_ltM h (Q := fr F_Log_admits s) (g.wI rfl) fun s7 gs7 h => ?_
    cases h; exact gs7
def F_Chron_setWish : List (Nat × (Nat × Nat)) := [(9, 9, 7), (9, 9, 8), (9, 9, 14), (13, 13, 0), (28, 28, 0)]
theorem fr_fChron_setWish_b60 {s : ev_M} {x1 : Int32} {x4 : Int32} {y1 : Int32} {y2 : Int32} {q : ev_M × Int32} (h : fChron_setWish_b60 s x1 x4 y1 y2 = some q) : fr F_Chron_setWish s q.1 := by
  have g : fr F_Chron_setWish s s := fr.rf
  refine fr_gd h fun c0 h => ?_
  refine fr_ltM h (Q := fr F_Chron_setWish s) (g.wI rfl) fun s1 gs1 h => ?_
  refine fr_gd h fun c1 h => ?_
  refine fr_if h (fun h => ?_) fun h => ?_
  · cases h; exact gs1
  · cases h; exact gs1
theorem fr_fChron_setWish {s : ev_M} {a1 : Int32} {a2 : Int32} {a3 : Int32} {q : ev_M × Int32} (h : fChron_setWish s a1 a2 a3 = some q) : fr F_Chron_setWish s q.1 := by
  have g : fr F_Chron_setWish s s := fr.rf
  refine fr_bd1 h fun v2 hc h => ?_
  refine fr_if h (fun h => ?_) fun h => ?_
  · refine fr_bd2 h fun s3 v4 hc h => ?_
    have gs3 : fr F_Chron_setWish s s3 := g.tr ((fr_fLog_admits hc).mono (F := F_Chron_setWish) (by decide +kernel))
    refine fr_if h (fun h => ?_) fun h => ?_
    · cases h; exact gs3
    · refine fr_gd h fun c0 h => ?_
      refine fr_ltI h fun v5 h => ?_
      refine fr_if h (fun h => ?_) fun h => ?_
      · exact gs3.tr ((fr_fChron_setWish_b60 h))
      · exact gs3.tr ((fr_fChron_setWish_b60 h))
  · cases h; exact g
def F_Tape_readsNumber_1 : List (Nat × (Nat × Nat)) := [(1, 1, 3), (1, 1, 5), (3, 3, 0)]
theorem fr_fTape_readsNumber_1_b69 {s : ev_M} {x1 : Int32} {x2 : Int32} {q : ev_M × Int32} (h : fTape_readsNumber_1_b69 s x1 x2 = some q) : fr F_Tape_readsNumber_1 s q.1 := by
  have g : fr F_Tape_readsNumber_1 s s := fr.rf
  refine fr_if h (fun h => ?_) fun h => ?_
  · cases h; exact g
  · refine fr_if h (fun h => ?_) fun h => ?_
    · refine fr_ltM h (Q := fr F_Tape_readsNumber_1 s) (g.wI rfl) fun s1 gs1 h => ?_
      refine fr_gd h fun c0 h => ?_
      refine fr_ltM h (Q := fr F_Tape_readsNumber_1 s) (gs1.wI rfl) fun s2 gs2 h => ?_
      cases h; exact gs2
    · cases h; exact g
theorem fr_fTape_readsNumber_1_h4 : ∀ (n : Nat) {s : ev_M} {x1 : Int32} {x2 : Int32} {q : ev_M × Int32} , fTape_readsNumber_1_h4 n s x1 x2 = some q → fr F_Tape_readsNumber_1 s q.1 := by
  intro n
  induction n with
  | zero => intro s x1 x2 q h; cases h
  | succ n ih =>
    intro s x1 x2 q h
    have g : fr F_Tape_readsNumber_1 s s := fr.rf
    refine fr_if h (fun h => ?_) fun h => ?_
    · refine fr_bd1 h fun v3 hc h => ?_
      refine fr_if h (fun h => ?_) fun h => ?_
      · exact g.tr ((fr_fTape_readsNumber_1_b69 h))
      · refine fr_bd1 h fun v4 hc h => ?_
        refine fr_if h (fun h => ?_) fun h => ?_
        · refine fr_bd1 h fun v5 hc h => ?_
          refine fr_ltI h fun v6 h => ?_
          refine fr_ltM h (Q := fr F_Tape_readsNumber_1 s) (g.wI rfl) fun s7 gs7 h => ?_
          exact gs7.tr ((ih h))
        · exact g.tr ((fr_fTape_readsNumber_1_b69 h))
    · exact g.tr ((fr_fTape_readsNumber_1_b69 h))
theorem fr_fTape_readsNumber_1 {s : ev_M} {q : ev_M × Int32} (h : fTape_readsNumber_1 s = some q) : fr F_Tape_readsNumber_1 s q.1 := by
  have g : fr F_Tape_readsNumber_1 s s := fr.rf
  exact g.tr ((fr_fTape_readsNumber_1_h4 1048576 h))
def F_Tape_readsName_1 : List (Nat × (Nat × Nat)) := [(1, 1, 3), (1, 1, 6)]
theorem fr_fTape_readsName_1_b83 {s : ev_M} {x1 : Int32} {q : ev_M × Int32} (h : fTape_readsName_1_b83 s x1 = some q) : fr F_Tape_readsName_1 s q.1 := by
  have g : fr F_Tape_readsName_1 s s := fr.rf
  refine fr_if h (fun h => ?_) fun h => ?_
  · cases h; exact g
  · cases h; exact g
theorem fr_fTape_readsName_1_h7 : ∀ (n : Nat) {s : ev_M} {x1 : Int32} {q : ev_M × Int32} , fTape_readsName_1_h7 n s x1 = some q → fr F_Tape_readsName_1 s q.1 := by
  intro n
  induction n with
  | zero => intro s x1 q h; cases h
  | succ n ih =>
    intro s x1 q h
    have g : fr F_Tape_readsName_1 s s := fr.rf
    refine fr_if h (fun h => ?_) fun h => ?_
    · refine fr_bd1 h fun v1 hc h => ?_
      refine fr_if h (fun h => ?_) fun h => ?_
      · exact g.tr ((fr_fTape_readsName_1_b83 h))
      · refine fr_bd1 h fun v2 hc h => ?_
        refine fr_if h (fun h => ?_) fun h => ?_
        · refine fr_bd1 h fun v3 hc h => ?_
          refine fr_ltM h (Q := fr F_Tape_readsName_1 s) (g.wL rfl) fun s4 gs4 h => ?_
          refine fr_ltM h (Q := fr F_Tape_readsName_1 s) (gs4.wI rfl) fun s5 gs5 h => ?_
          exact gs5.tr ((ih h))
        · exact g.tr ((fr_fTape_readsName_1_b83 h))
    · exact g.tr ((fr_fTape_readsName_1_b83 h))
theorem fr_fTape_readsName_1 {s : ev_M} {q : ev_M × Int32} (h : fTape_readsName_1 s = some q) : fr F_Tape_readsName_1 s q.1 := by
  have g : fr F_Tape_readsName_1 s s := fr.rf
  refine fr_ltM h (Q := fr F_Tape_readsName_1 s) (g.wL rfl) fun s6 gs6 h => ?_
  exact gs6.tr ((fr_fTape_readsName_1_h7 1048576 h))
def F_Tape_reads_1 : List (Nat × (Nat × Nat)) := [(1, 1, 3), (1, 1, 5), (1, 1, 6), (3, 3, 0)]
theorem fr_fTape_reads_1 {s : ev_M} {a1 : Int32} {q : ev_M × Int32} (h : fTape_reads_1 s a1 = some q) : fr F_Tape_reads_1 s q.1 := by
  have g : fr F_Tape_reads_1 s s := fr.rf
  refine fr_if h (fun h => ?_) fun h => ?_
  · refine fr_bd2 h fun s1 v2 hc h => ?_
    have gs1 : fr F_Tape_reads_1 s s1 := g.tr ((fr_fTape_readsNumber_1 hc).mono (F := F_Tape_reads_1) (by decide +kernel))
    refine fr_if h (fun h => ?_) fun h => ?_
    · cases h; exact gs1
    · cases h
  · refine fr_if h (fun h => ?_) fun h => ?_
    · refine fr_bd2 h fun s3 v4 hc h => ?_
      have gs3 : fr F_Tape_reads_1 s s3 := g.tr ((fr_fTape_readsName_1 hc).mono (F := F_Tape_reads_1) (by decide +kernel))
      refine fr_if h (fun h => ?_) fun h => ?_
      · cases h; exact gs3
      · cases h
    · refine fr_bd1 h fun v5 hc h => ?_
      refine fr_if h (fun h => ?_) fun h => ?_
      · refine fr_ltM h (Q := fr F_Tape_reads_1 s) (g.wI rfl) fun s6 gs6 h => ?_
        cases h; exact gs6
      · cases h; exact g
def F_Tape_readsEntry_1_1010 : List (Nat × (Nat × Nat)) := [(1, 1, 3), (1, 1, 5), (1, 1, 6), (3, 3, 0)]
theorem fr_fTape_readsEntry_1_1010_h56 : ∀ (n : Nat) {s : ev_M} {x2 : Int32} {x3 : Int32} {q : ev_M × Int32} , fTape_readsEntry_1_1010_h56 n s x2 x3 = some q → fr F_Tape_readsEntry_1_1010 s q.1 := by
  intro n
  induction n with
  | zero => intro s x2 x3 q h; cases h
  | succ n ih =>
    intro s x2 x3 q h
    have g : fr F_Tape_readsEntry_1_1010 s s := fr.rf
    refine fr_bd1 h fun v1 hc h => ?_
    refine fr_if h (fun h => ?_) fun h => ?_
    · refine fr_bd1 h fun v2 hc h => ?_
      refine fr_bd2 h fun s3 v4 hc h => ?_
      have gs3 : fr F_Tape_readsEntry_1_1010 s s3 := g.tr ((fr_fTape_reads_1 hc).mono (F := F_Tape_readsEntry_1_1010) (by decide +kernel))
      refine fr_if h (fun h => ?_) fun h => ?_
      · cases h; exact gs3
      · refine fr_if h (fun h => ?_) fun h => ?_
        · cases h; exact gs3
        · exact gs3.tr ((ih h))
    · cases h; exact g
theorem fr_fTape_readsEntry_1_1010_b36 {s : ev_M} {x2 : Int32} {y0 : Int32} {q : ev_M × Int32} (h : fTape_readsEntry_1_1010_b36 s x2 y0 = some q) : fr F_Tape_readsEntry_1_1010 s q.1 := by
  have g : fr F_Tape_readsEntry_1_1010 s s := fr.rf
  refine fr_if h (fun h => ?_) fun h => ?_
  · cases h; exact g
  · refine fr_ltM h (Q := fr F_Tape_readsEntry_1_1010 s) (g.wI rfl) fun s5 gs5 h => ?_
    exact gs5.tr ((fr_fTape_readsEntry_1_1010_h56 1048576 h))
theorem fr_fTape_readsEntry_1_1010_b35 {s : ev_M} {x2 : Int32} {q : ev_M × Int32} (h : fTape_readsEntry_1_1010_b35 s x2 = some q) : fr F_Tape_readsEntry_1_1010 s q.1 := by
  have g : fr F_Tape_readsEntry_1_1010 s s := fr.rf
  exact g.tr ((fr_fTape_readsEntry_1_1010_b36 h))
theorem fr_fTape_readsEntry_1_1010 {s : ev_M} {q : ev_M × Int32} (h : fTape_readsEntry_1_1010 s = some q) : fr F_Tape_readsEntry_1_1010 s q.1 := by
  have g : fr F_Tape_readsEntry_1_1010 s s := fr.rf
  refine fr_ltM h (Q := fr F_Tape_readsEntry_1_1010 s) (g.wI rfl) fun s6 gs6 h => ?_
  refine fr_bd1 h fun v7 hc h => ?_
  refine fr_if h (fun h => ?_) fun h => ?_
  · exact gs6.tr ((fr_fTape_readsEntry_1_1010_b35 h))
  · refine fr_if h (fun h => ?_) fun h => ?_
    · refine fr_bd1 h fun v8 hc h => ?_
      exact gs6.tr ((fr_fTape_readsEntry_1_1010_b36 h))
    · exact gs6.tr ((fr_fTape_readsEntry_1_1010_b35 h))
def F_Book_addsPlace : List (Nat × (Nat × Nat)) := [(30, 30, 3), (31, 31, 0)]
theorem fr_fBook_addsPlace {s : ev_M} {a1 : Int32} {q : ev_M × Int32} (h : fBook_addsPlace s a1 = some q) : fr F_Book_addsPlace s q.1 := by
  have g : fr F_Book_addsPlace s s := fr.rf
  refine fr_bd1 h fun v1 hc h => ?_
  refine fr_if h (fun h => ?_) fun h => ?_
  · refine fr_bd1 h fun v2 hc h => ?_
    refine fr_if h (fun h => ?_) fun h => ?_
    · refine fr_if h (fun h => ?_) fun h => ?_
      · refine fr_ltM h (Q := fr F_Book_addsPlace s) (g.wI rfl) fun s3 gs3 h => ?_
        refine fr_gd h fun c0 h => ?_
        refine fr_ltM h (Q := fr F_Book_addsPlace s) (gs3.wI rfl) fun s4 gs4 h => ?_
        cases h; exact gs4
      · cases h; exact g
    · cases h; exact g
  · cases h; exact g
def F_Book_addsStreet_1 : List (Nat × (Nat × Nat)) := [(30, 30, 5), (33, 33, 0), (34, 34, 0), (35, 35, 0), (36, 36, 0), (37, 37, 0)]
theorem fr_fBook_addsStreet_1 {s : ev_M} {a1 : Int32} {q : ev_M × Int32} (h : fBook_addsStreet_1 s a1 = some q) : fr F_Book_addsStreet_1 s q.1 := by
  have g : fr F_Book_addsStreet_1 s s := fr.rf
  refine fr_ltI h fun v1 h => ?_
  refine fr_ltI h fun v2 h => ?_
  refine fr_ltI h fun v3 h => ?_
  refine fr_bd1 h fun v4 hc h => ?_
  refine fr_if h (fun h => ?_) fun h => ?_
  · refine fr_if h (fun h => ?_) fun h => ?_
    · refine fr_bd1 h fun v5 hc h => ?_
      refine fr_if h (fun h => ?_) fun h => ?_
      · refine fr_bd1 h fun v6 hc h => ?_
        refine fr_if h (fun h => ?_) fun h => ?_
        · refine fr_bd1 h fun v7 hc h => ?_
          refine fr_if h (fun h => ?_) fun h => ?_
          · refine fr_gd h fun c0 h => ?_
            refine fr_ltM h (Q := fr F_Book_addsStreet_1 s) (g.wI rfl) fun s8 gs8 h => ?_
            refine fr_gd h fun c1 h => ?_
            refine fr_ltM h (Q := fr F_Book_addsStreet_1 s) (gs8.wI rfl) fun s9 gs9 h => ?_
            refine fr_gd h fun c2 h => ?_
            refine fr_ltM h (Q := fr F_Book_addsStreet_1 s) (gs9.wI rfl) fun s10 gs10 h => ?_
            refine fr_gd h fun c3 h => ?_
            refine fr_ltM h (Q := fr F_Book_addsStreet_1 s) (gs10.wI rfl) fun s11 gs11 h => ?_
            refine fr_ltM h (Q := fr F_Book_addsStreet_1 s) (gs11.wI rfl) fun s12 gs12 h => ?_
            refine fr_gd h fun c4 h => ?_
            refine fr_ltM h (Q := fr F_Book_addsStreet_1 s) (gs12.wL rfl) fun s13 gs13 h => ?_
            cases h; exact gs13
          · cases h; exact g
        · cases h; exact g
      · cases h; exact g
    · cases h; exact g
  · cases h; exact g
def F_Book_addsRange_1 : List (Nat × (Nat × Nat)) := [(30, 30, 8), (39, 39, 0), (40, 40, 0), (41, 41, 0), (42, 42, 0)]
theorem fr_fBook_addsRange_1_b109 {k71 : ev_M → Int32 → Int32 → Int32 → Int32 → Int32 → Option (ev_M × Int32)} (hk71 : ∀ {s : ev_M} {z1 : Int32} {z2 : Int32} {z3 : Int32} {z4 : Int32} {z5 : Int32} {q : ev_M × Int32} , k71 s z1 z2 z3 z4 z5 = some q → fr F_Book_addsRange_1 s q.1) {s : ev_M} {x1 : Int32} {x3 : Int32} {x4 : Int32} {x5 : Int32} {x6 : Int32} {q : ev_M × Int32} (h : fBook_addsRange_1_b109 k71 s x1 x3 x4 x5 x6 = some q) : fr F_Book_addsRange_1 s q.1 := by
  have g : fr F_Book_addsRange_1 s s := fr.rf
  exact g.tr ((hk71 h))
theorem fr_fBook_addsRange_1_h71 : ∀ (n : Nat) {s : ev_M} {x1 : Int32} {x3 : Int32} {x4 : Int32} {x5 : Int32} {x6 : Int32} {q : ev_M × Int32} , fBook_addsRange_1_h71 n s x1 x3 x4 x5 x6 = some q → fr F_Book_addsRange_1 s q.1 := by
  intro n
  induction n with
  | zero => intro s x1 x3 x4 x5 x6 q h; cases h
  | succ n ih =>
    intro s x1 x3 x4 x5 x6 q h
    have g : fr F_Book_addsRange_1 s s := fr.rf
    refine fr_if h (fun h => ?_) fun h => ?_
    · refine fr_gd h fun c0 h => ?_
      refine fr_if h (fun h => ?_) fun h => ?_
      · refine fr_bd1 h fun v1 hc h => ?_
        refine fr_if h (fun h => ?_) fun h => ?_
        · exact g.tr ((fr_fBook_addsRange_1_b109 ih h))
        · cases h; exact g
      · exact g.tr ((fr_fBook_addsRange_1_b109 ih h))
    · refine fr_gd h fun c0 h => ?_
      refine fr_ltM h (Q := fr F_Book_addsRange_1 s) (g.wI rfl) fun s2 gs2 h => ?_
      refine fr_gd h fun c1 h => ?_
      refine fr_ltM h (Q := fr F_Book_addsRange_1 s) (gs2.wI rfl) fun s3 gs3 h => ?_
      refine fr_gd h fun c2 h => ?_
      refine fr_ltM h (Q := fr F_Book_addsRange_1 s) (gs3.wI rfl) fun s4 gs4 h => ?_
      refine fr_ltM h (Q := fr F_Book_addsRange_1 s) (gs4.wI rfl) fun s5 gs5 h => ?_
      refine fr_gd h fun c3 h => ?_
      refine fr_ltM h (Q := fr F_Book_addsRange_1 s) (gs5.wI rfl) fun s6 gs6 h => ?_
      cases h; exact gs6
theorem fr_fBook_addsRange_1 {s : ev_M} {a1 : Int32} {q : ev_M × Int32} (h : fBook_addsRange_1 s a1 = some q) : fr F_Book_addsRange_1 s q.1 := by
  have g : fr F_Book_addsRange_1 s s := fr.rf
  refine fr_ltI h fun v7 h => ?_
  refine fr_ltI h fun v8 h => ?_
  refine fr_ltI h fun v9 h => ?_
  refine fr_bd1 h fun v10 hc h => ?_
  refine fr_if h (fun h => ?_) fun h => ?_
  · refine fr_bd1 h fun v11 hc h => ?_
    refine fr_if h (fun h => ?_) fun h => ?_
    · refine fr_bd1 h fun v12 hc h => ?_
      refine fr_if h (fun h => ?_) fun h => ?_
      · refine fr_if h (fun h => ?_) fun h => ?_
        · exact g.tr ((fr_fBook_addsRange_1_h71 1048576 h))
        · cases h; exact g
      · cases h; exact g
    · cases h; exact g
  · cases h; exact g
def F_Book_addsPoint : List (Nat × (Nat × Nat)) := [(30, 30, 10), (44, 44, 0), (45, 45, 0)]
theorem fr_fBook_addsPoint {s : ev_M} {a1 : Int32} {a2 : Int32} {q : ev_M × Int32} (h : fBook_addsPoint s a1 a2 = some q) : fr F_Book_addsPoint s q.1 := by
  have g : fr F_Book_addsPoint s s := fr.rf
  refine fr_bd1 h fun v1 hc h => ?_
  refine fr_if h (fun h => ?_) fun h => ?_
  · cases h; exact g
  · refine fr_bd1 h fun v2 hc h => ?_
    refine fr_if h (fun h => ?_) fun h => ?_
    · refine fr_if h (fun h => ?_) fun h => ?_
      · refine fr_gd h fun c0 h => ?_
        refine fr_ltM h (Q := fr F_Book_addsPoint s) (g.wI rfl) fun s3 gs3 h => ?_
        refine fr_ltM h (Q := fr F_Book_addsPoint s) (gs3.wI rfl) fun s4 gs4 h => ?_
        refine fr_gd h fun c1 h => ?_
        refine fr_ltM h (Q := fr F_Book_addsPoint s) (gs4.wI rfl) fun s5 gs5 h => ?_
        cases h; exact gs5
      · cases h; exact g
    · cases h; exact g
def F_Book_adds_1 : List (Nat × (Nat × Nat)) := [(30, 30, 3), (30, 30, 5), (30, 30, 8), (30, 30, 10), (31, 31, 0), (33, 33, 0), (34, 34, 0), (35, 35, 0), (36, 36, 0), (37, 37, 0), (39, 39, 0), (40, 40, 0), (41, 41, 0), (42, 42, 0), (44, 44, 0), (45, 45, 0)]
theorem fr_fBook_adds_1 {s : ev_M} {a1 : Int32} {q : ev_M × Int32} (h : fBook_adds_1 s a1 = some q) : fr F_Book_adds_1 s q.1 := by
  have g : fr F_Book_adds_1 s s := fr.rf
  refine fr_if h (fun h => ?_) fun h => ?_
  · refine fr_bd2 h fun s1 v2 hc h => ?_
    have gs1 : fr F_Book_adds_1 s s1 := g.tr ((fr_fBook_addsPlace hc).mono (F := F_Book_adds_1) (by decide +kernel))
    refine fr_if h (fun h => ?_) fun h => ?_
    · cases h; exact gs1
    · cases h
  · refine fr_bd1 h fun v3 hc h => ?_
    refine fr_if h (fun h => ?_) fun h => ?_
    · cases h; exact g
    · refine fr_if h (fun h => ?_) fun h => ?_
      · refine fr_bd2 h fun s4 v5 hc h => ?_
        have gs4 : fr F_Book_adds_1 s s4 := g.tr ((fr_fBook_addsStreet_1 hc).mono (F := F_Book_adds_1) (by decide +kernel))
        refine fr_if h (fun h => ?_) fun h => ?_
        · cases h; exact gs4
        · cases h
      · refine fr_bd1 h fun v6 hc h => ?_
        refine fr_if h (fun h => ?_) fun h => ?_
        · cases h; exact g
        · refine fr_if h (fun h => ?_) fun h => ?_
          · refine fr_bd2 h fun s7 v8 hc h => ?_
            have gs7 : fr F_Book_adds_1 s s7 := g.tr ((fr_fBook_addsRange_1 hc).mono (F := F_Book_adds_1) (by decide +kernel))
            refine fr_if h (fun h => ?_) fun h => ?_
            · cases h; exact gs7
            · cases h
          · refine fr_bd2 h fun s9 v10 hc h => ?_
            have gs9 : fr F_Book_adds_1 s s9 := g.tr ((fr_fBook_addsPoint hc).mono (F := F_Book_adds_1) (by decide +kernel))
            refine fr_if h (fun h => ?_) fun h => ?_
            · cases h; exact gs9
            · cases h
def F_Book_keepFirst : List (Nat × (Nat × Nat)) := [(30, 30, 3), (30, 30, 5), (30, 30, 8), (30, 30, 10)]
theorem fr_fBook_keepFirst {s : ev_M} {a1 : Int32} {a2 : Int32} {a3 : Int32} {a4 : Int32} {q : ev_M} (h : fBook_keepFirst s a1 a2 a3 a4 = some q) : fr F_Book_keepFirst s q := by
  have g : fr F_Book_keepFirst s s := fr.rf
  refine fr_ltM h (Q := fr F_Book_keepFirst s) (g.wI rfl) fun s1 gs1 h => ?_
  refine fr_ltM h (Q := fr F_Book_keepFirst s) (gs1.wI rfl) fun s2 gs2 h => ?_
  refine fr_ltM h (Q := fr F_Book_keepFirst s) (gs2.wI rfl) fun s3 gs3 h => ?_
  refine fr_ltM h (Q := fr F_Book_keepFirst s) (gs3.wI rfl) fun s4 gs4 h => ?_
  cases h; exact gs4
def F_Book_readText_1 : List (Nat × (Nat × Nat)) := [(1, 1, 3), (1, 1, 5), (1, 1, 6), (3, 3, 0), (9, 9, 7), (9, 9, 8), (9, 9, 14), (13, 13, 0), (30, 30, 3), (30, 30, 5), (30, 30, 8), (30, 30, 10), (31, 31, 0), (33, 33, 0), (34, 34, 0), (35, 35, 0), (36, 36, 0), (37, 37, 0), (39, 39, 0), (40, 40, 0), (41, 41, 0), (42, 42, 0), (44, 44, 0), (45, 45, 0)]
theorem fr_fBook_readText_1_b102 {k33 : ev_M → Int32 → Int32 → Int32 → Int32 → Int32 → Int32 → Option (ev_M × Int32)} (hk33 : ∀ {s : ev_M} {z1 : Int32} {z2 : Int32} {z3 : Int32} {z4 : Int32} {z5 : Int32} {z6 : Int32} {q : ev_M × Int32} , k33 s z1 z2 z3 z4 z5 z6 = some q → fr F_Book_readText_1 s q.1) {s : ev_M} {x2 : Int32} {x3 : Int32} {x4 : Int32} {x5 : Int32} {x6 : Int32} {x7 : Int32} {q : ev_M × Int32} (h : fBook_readText_1_b102 k33 s x2 x3 x4 x5 x6 x7 = some q) : fr F_Book_readText_1 s q.1 := by
  have g : fr F_Book_readText_1 s s := fr.rf
  exact g.tr ((hk33 h))
theorem fr_fBook_readText_1_b59 {k33 : ev_M → Int32 → Int32 → Int32 → Int32 → Int32 → Int32 → Option (ev_M × Int32)} (hk33 : ∀ {s : ev_M} {z1 : Int32} {z2 : Int32} {z3 : Int32} {z4 : Int32} {z5 : Int32} {z6 : Int32} {q : ev_M × Int32} , k33 s z1 z2 z3 z4 z5 z6 = some q → fr F_Book_readText_1 s q.1) {s : ev_M} {x2 : Int32} {x3 : Int32} {x4 : Int32} {x5 : Int32} {x6 : Int32} {x7 : Int32} {q : ev_M × Int32} (h : fBook_readText_1_b59 k33 s x2 x3 x4 x5 x6 x7 = some q) : fr F_Book_readText_1 s q.1 := by
  have g : fr F_Book_readText_1 s s := fr.rf
  refine fr_ltI h fun v1 h => ?_
  refine fr_bd2 h fun s2 v3 hc h => ?_
  have gs2 : fr F_Book_readText_1 s s2 := g.tr ((fr_fTape_readsEntry_1_1010 hc).mono (F := F_Book_readText_1) (by decide +kernel))
  refine fr_if h (fun h => ?_) fun h => ?_
  · refine fr_ltI h fun v4 h => ?_
    exact gs2.tr ((fr_fBook_readText_1_b102 hk33 h))
  · refine fr_bd2 h fun s5 v6 hc h => ?_
    have gs5 : fr F_Book_readText_1 s s5 := gs2.tr ((fr_fBook_adds_1 hc).mono (F := F_Book_readText_1) (by decide +kernel))
    refine fr_if h (fun h => ?_) fun h => ?_
    · exact gs5.tr ((fr_fBook_readText_1_b102 hk33 h))
    · exact gs5.tr ((fr_fBook_readText_1_b102 hk33 h))
theorem fr_fBook_readText_1_b127 {s : ev_M} {x2 : Int32} {x3 : Int32} {x4 : Int32} {x5 : Int32} {x6 : Int32} {q : ev_M × Int32} (h : fBook_readText_1_b127 s x2 x3 x4 x5 x6 = some q) : fr F_Book_readText_1 s q.1 := by
  have g : fr F_Book_readText_1 s s := fr.rf
  refine fr_bd1 h fun s7 hc h => ?_
  have gs7 := g.tr ((fr_fBook_keepFirst hc).mono (F := F_Book_readText_1) (by decide +kernel))
  refine fr_if h (fun h => ?_) fun h => ?_
  · cases h; exact gs7
  · cases h; exact gs7
theorem fr_fBook_readText_1_b108 {s : ev_M} {x2 : Int32} {x3 : Int32} {x4 : Int32} {x5 : Int32} {x6 : Int32} {x7 : Int32} {q : ev_M × Int32} (h : fBook_readText_1_b108 s x2 x3 x4 x5 x6 x7 = some q) : fr F_Book_readText_1 s q.1 := by
  have g : fr F_Book_readText_1 s s := fr.rf
  refine fr_if h (fun h => ?_) fun h => ?_
  · refine fr_bd2 h fun s8 v9 hc h => ?_
    have gs8 : fr F_Book_readText_1 s s8 := g.tr ((fr_fLog_admits hc).mono (F := F_Book_readText_1) (by decide +kernel))
    refine fr_if h (fun h => ?_) fun h => ?_
    · exact gs8.tr ((fr_fBook_readText_1_b127 h))
    · cases h; exact gs8
  · exact g.tr ((fr_fBook_readText_1_b127 h))
theorem fr_fBook_readText_1_h33 : ∀ (n : Nat) {s : ev_M} {x2 : Int32} {x3 : Int32} {x4 : Int32} {x5 : Int32} {x6 : Int32} {x7 : Int32} {q : ev_M × Int32} , fBook_readText_1_h33 n s x2 x3 x4 x5 x6 x7 = some q → fr F_Book_readText_1 s q.1 := by
  intro n
  induction n with
  | zero => intro s x2 x3 x4 x5 x6 x7 q h; cases h
  | succ n ih =>
    intro s x2 x3 x4 x5 x6 x7 q h
    have g : fr F_Book_readText_1 s s := fr.rf
    refine fr_if h (fun h => ?_) fun h => ?_
    · refine fr_if h (fun h => ?_) fun h => ?_
      · refine fr_if h (fun h => ?_) fun h => ?_
        · exact g.tr ((fr_fBook_readText_1_b59 ih h))
        · refine fr_bd1 h fun v10 hc h => ?_
          refine fr_if h (fun h => ?_) fun h => ?_
          · exact g.tr ((fr_fBook_readText_1_b108 h))
          · exact g.tr ((fr_fBook_readText_1_b59 ih h))
      · exact g.tr ((fr_fBook_readText_1_b108 h))
    · exact g.tr ((fr_fBook_readText_1_b108 h))
theorem fr_fBook_readText_1 {s : ev_M} {q : ev_M × Int32} (h : fBook_readText_1 s = some q) : fr F_Book_readText_1 s q.1 := by
  have g : fr F_Book_readText_1 s s := fr.rf
  refine fr_ltI h fun v11 h => ?_
  refine fr_ltI h fun v12 h => ?_
  refine fr_ltI h fun v13 h => ?_
  refine fr_ltI h fun v14 h => ?_
  refine fr_ltM h (Q := fr F_Book_readText_1 s) (g.wI rfl) fun s15 gs15 h => ?_
  exact gs15.tr ((fr_fBook_readText_1_h33 1048576 h))
def F_Book_addOrder : List (Nat × (Nat × Nat)) := [(9, 9, 7), (9, 9, 8), (9, 9, 14), (13, 13, 0), (30, 30, 12), (47, 47, 0), (48, 48, 0), (49, 49, 0), (50, 50, 0)]
theorem fr_fBook_addOrder {s : ev_M} {a1 : Int32} {a2 : Int32} {a3 : Int32} {a4 : Int32} {q : ev_M × Int32} (h : fBook_addOrder s a1 a2 a3 a4 = some q) : fr F_Book_addOrder s q.1 := by
  have g : fr F_Book_addOrder s s := fr.rf
  refine fr_bd1 h fun v1 hc h => ?_
  refine fr_if h (fun h => ?_) fun h => ?_
  · cases h; exact g
  · refine fr_bd1 h fun v2 hc h => ?_
    refine fr_if h (fun h => ?_) fun h => ?_
    · refine fr_bd1 h fun v3 hc h => ?_
      refine fr_bd1 h fun v4 hc h => ?_
      refine fr_if h (fun h => ?_) fun h => ?_
      · refine fr_if h (fun h => ?_) fun h => ?_
        · cases h; exact g
        · refine fr_if h (fun h => ?_) fun h => ?_
          · refine fr_bd2 h fun s5 v6 hc h => ?_
            have gs5 : fr F_Book_addOrder s s5 := g.tr ((fr_fLog_admits hc).mono (F := F_Book_addOrder) (by decide +kernel))
            refine fr_if h (fun h => ?_) fun h => ?_
            · cases h; exact gs5
            · refine fr_gd h fun c0 h => ?_
              refine fr_ltM h (Q := fr F_Book_addOrder s) (gs5.wI rfl) fun s7 gs7 h => ?_
              refine fr_gd h fun c1 h => ?_
              refine fr_ltM h (Q := fr F_Book_addOrder s) (gs7.wI rfl) fun s8 gs8 h => ?_
              refine fr_gd h fun c2 h => ?_
              refine fr_ltM h (Q := fr F_Book_addOrder s) (gs8.wI rfl) fun s9 gs9 h => ?_
              refine fr_gd h fun c3 h => ?_
              refine fr_ltM h (Q := fr F_Book_addOrder s) (gs9.wI rfl) fun s10 gs10 h => ?_
              refine fr_ltM h (Q := fr F_Book_addOrder s) (gs10.wI rfl) fun s11 gs11 h => ?_
              cases h; exact gs11
          · cases h; exact g
      · cases h; exact g
    · cases h; exact g
def F_Book_tellForwarding : List (Nat × (Nat × Nat)) := [(9, 9, 7), (9, 9, 8), (9, 9, 14), (13, 13, 0), (30, 30, 12), (47, 47, 0), (48, 48, 0), (49, 49, 0), (50, 50, 0)]
theorem fr_fBook_tellForwarding {s : ev_M} {a1 : Int32} {a2 : Int32} {a3 : Int32} {a4 : Int32} {q : ev_M × Int32} (h : fBook_tellForwarding s a1 a2 a3 a4 = some q) : fr F_Book_tellForwarding s q.1 := by
  have g : fr F_Book_tellForwarding s s := fr.rf
  refine fr_bd1 h fun v1 hc h => ?_
  refine fr_if h (fun h => ?_) fun h => ?_
  · cases h; exact g
  · refine fr_bd2 h fun s2 v3 hc h => ?_
    have gs2 : fr F_Book_tellForwarding s s2 := g.tr ((fr_fBook_addOrder hc).mono (F := F_Book_tellForwarding) (by decide +kernel))
    cases h; exact gs2
def F_Book_tellHold : List (Nat × (Nat × Nat)) := [(9, 9, 7), (9, 9, 8), (9, 9, 14), (13, 13, 0), (30, 30, 12), (47, 47, 0), (48, 48, 0), (49, 49, 0), (50, 50, 0)]
theorem fr_fBook_tellHold {s : ev_M} {a1 : Int32} {a2 : Int32} {a3 : Int32} {q : ev_M × Int32} (h : fBook_tellHold s a1 a2 a3 = some q) : fr F_Book_tellHold s q.1 := by
  have g : fr F_Book_tellHold s s := fr.rf
  refine fr_bd2 h fun s1 v2 hc h => ?_
  have gs1 : fr F_Book_tellHold s s1 := g.tr ((fr_fBook_addOrder hc).mono (F := F_Book_tellHold) (by decide +kernel))
  cases h; exact gs1
def F_Sheet_darken_1 : List (Nat × (Nat × Nat)) := [(53, 53, 0)]
theorem fr_fSheet_darken_1_b103 {k64 : ev_M → Int32 → Int32 → Int32 → Int32 → Option ev_M} (hk64 : ∀ {s : ev_M} {z1 : Int32} {z2 : Int32} {z3 : Int32} {z4 : Int32} {q : ev_M} , k64 s z1 z2 z3 z4 = some q → fr F_Sheet_darken_1 s q) {s : ev_M} {x2 : Int32} {x3 : Int32} {x4 : Int32} {x5 : Int32} {y1 : Int32} {y2 : Int32} {q : ev_M} (h : fSheet_darken_1_b103 k64 s x2 x3 x4 x5 y1 y2 = some q) : fr F_Sheet_darken_1 s q := by
  have g : fr F_Sheet_darken_1 s s := fr.rf
  refine fr_gd h fun c0 h => ?_
  refine fr_ltM h (Q := fr F_Sheet_darken_1 s) (g.wI rfl) fun s1 gs1 h => ?_
  exact gs1.tr ((hk64 h))
theorem fr_fSheet_darken_1_b102 {k64 : ev_M → Int32 → Int32 → Int32 → Int32 → Option ev_M} (hk64 : ∀ {s : ev_M} {z1 : Int32} {z2 : Int32} {z3 : Int32} {z4 : Int32} {q : ev_M} , k64 s z1 z2 z3 z4 = some q → fr F_Sheet_darken_1 s q) {s : ev_M} {x2 : Int32} {x3 : Int32} {x4 : Int32} {x5 : Int32} {y1 : Int32} {q : ev_M} (h : fSheet_darken_1_b102 k64 s x2 x3 x4 x5 y1 = some q) : fr F_Sheet_darken_1 s q := by
  have g : fr F_Sheet_darken_1 s s := fr.rf
  exact g.tr ((fr_fSheet_darken_1_b103 hk64 h))
theorem fr_fSheet_darken_1_h64 : ∀ (n : Nat) {s : ev_M} {x2 : Int32} {x3 : Int32} {x4 : Int32} {x5 : Int32} {q : ev_M} , fSheet_darken_1_h64 n s x2 x3 x4 x5 = some q → fr F_Sheet_darken_1 s q := by
  intro n
  induction n with
  | zero => intro s x2 x3 x4 x5 q h; cases h
  | succ n ih =>
    intro s x2 x3 x4 x5 q h
    have g : fr F_Sheet_darken_1 s s := fr.rf
    refine fr_if h (fun h => ?_) fun h => ?_
    · refine fr_if h (fun h => ?_) fun h => ?_
      · exact g.tr ((fr_fSheet_darken_1_b102 ih h))
      · refine fr_bd1 h fun v2 hc h => ?_
        refine fr_if h (fun h => ?_) fun h => ?_
        · exact g.tr ((fr_fSheet_darken_1_b103 ih h))
        · exact g.tr ((fr_fSheet_darken_1_b102 ih h))
    · cases h; exact g
theorem fr_fSheet_darken_1_b59 {s : ev_M} {x2 : Int32} {x3 : Int32} {y0 : Int32} {q : ev_M} (h : fSheet_darken_1_b59 s x2 x3 y0 = some q) : fr F_Sheet_darken_1 s q := by
  have g : fr F_Sheet_darken_1 s s := fr.rf
  exact g.tr ((fr_fSheet_darken_1_h64 1048576 h))
theorem fr_fSheet_darken_1_h9 : ∀ (n : Nat) {s : ev_M} {x2 : Int32} {x3 : Int32} {x4 : Int32} {q : ev_M} , fSheet_darken_1_h9 n s x2 x3 x4 = some q → fr F_Sheet_darken_1 s q := by
  intro n
  induction n with
  | zero => intro s x2 x3 x4 q h; cases h
  | succ n ih =>
    intro s x2 x3 x4 q h
    have g : fr F_Sheet_darken_1 s s := fr.rf
    refine fr_if h (fun h => ?_) fun h => ?_
    · refine fr_bd1 h fun v3 hc h => ?_
      refine fr_bd1 h fun v4 hc h => ?_
      refine fr_bd1 h fun v5 hc h => ?_
      refine fr_bd1 h fun v6 hc h => ?_
      exact g.tr ((ih h))
    · refine fr_if h (fun h => ?_) fun h => ?_
      · exact g.tr ((fr_fSheet_darken_1_b59 h))
      · exact g.tr ((fr_fSheet_darken_1_b59 h))
theorem fr_fSheet_darken_1 {s : ev_M} {q : ev_M} (h : fSheet_darken_1 s = some q) : fr F_Sheet_darken_1 s q := by
  have g : fr F_Sheet_darken_1 s s := fr.rf
  exact g.tr ((fr_fSheet_darken_1_h9 1048576 h))
def F_Sheet_takeNeighbours : List (Nat × (Nat × Nat)) := [(52, 52, 9), (53, 53, 0), (54, 54, 0)]
theorem fr_fSheet_takeNeighbours_b97 {k8 : ev_M → Int32 → Int32 → Int32 → Option ev_M} {k32 : ev_M → Int32 → Int32 → Int32 → Int32 → Option ev_M} (hk8 : ∀ {s : ev_M} {z1 : Int32} {z2 : Int32} {z3 : Int32} {q : ev_M} , k8 s z1 z2 z3 = some q → fr F_Sheet_takeNeighbours s q) (hk32 : ∀ {s : ev_M} {z1 : Int32} {z2 : Int32} {z3 : Int32} {z4 : Int32} {q : ev_M} , k32 s z1 z2 z3 z4 = some q → fr F_Sheet_takeNeighbours s q) {s : ev_M} {x1 : Int32} {x2 : Int32} {x3 : Int32} {x4 : Int32} {q : ev_M} (h : fSheet_takeNeighbours_b97 k8 k32 s x1 x2 x3 x4 = some q) : fr F_Sheet_takeNeighbours s q := by
  have g : fr F_Sheet_takeNeighbours s s := fr.rf
  exact g.tr ((hk32 h))
theorem fr_fSheet_takeNeighbours_b103 {k8 : ev_M → Int32 → Int32 → Int32 → Option ev_M} (hk8 : ∀ {s : ev_M} {z1 : Int32} {z2 : Int32} {z3 : Int32} {q : ev_M} , k8 s z1 z2 z3 = some q → fr F_Sheet_takeNeighbours s q) {s : ev_M} {x1 : Int32} {x2 : Int32} {x3 : Int32} {q : ev_M} (h : fSheet_takeNeighbours_b103 k8 s x1 x2 x3 = some q) : fr F_Sheet_takeNeighbours s q := by
  have g : fr F_Sheet_takeNeighbours s s := fr.rf
  exact g.tr ((hk8 h))
theorem fr_fSheet_takeNeighbours_h32 {k8 : ev_M → Int32 → Int32 → Int32 → Option ev_M} (hk8 : ∀ {s : ev_M} {z1 : Int32} {z2 : Int32} {z3 : Int32} {q : ev_M} , k8 s z1 z2 z3 = some q → fr F_Sheet_takeNeighbours s q) : ∀ (n : Nat) {s : ev_M} {x1 : Int32} {x2 : Int32} {x3 : Int32} {x4 : Int32} {q : ev_M} , fSheet_takeNeighbours_h32 k8 n s x1 x2 x3 x4 = some q → fr F_Sheet_takeNeighbours s q := by
  intro n
  induction n with
  | zero => intro s x1 x2 x3 x4 q h; cases h
  | succ n ih =>
    intro s x1 x2 x3 x4 q h
    have g : fr F_Sheet_takeNeighbours s s := fr.rf
    refine fr_if h (fun h => ?_) fun h => ?_
    · refine fr_if h (fun h => ?_) fun h => ?_
      · refine fr_ltI h fun v1 h => ?_
        refine fr_gd h fun c0 h => ?_
        refine fr_if h (fun h => ?_) fun h => ?_
        · refine fr_gd h fun c1 h => ?_
          refine fr_ltM h (Q := fr F_Sheet_takeNeighbours s) (g.wI rfl) fun s2 gs2 h => ?_
          refine fr_ltM h (Q := fr F_Sheet_takeNeighbours s) (gs2.wI rfl) fun s3 gs3 h => ?_
          refine fr_gd h fun c2 h => ?_
          refine fr_ltM h (Q := fr F_Sheet_takeNeighbours s) (gs3.wI rfl) fun s4 gs4 h => ?_
          exact gs4.tr ((fr_fSheet_takeNeighbours_b97 hk8 ih h))
        · exact g.tr ((fr_fSheet_takeNeighbours_b97 hk8 ih h))
      · exact g.tr ((fr_fSheet_takeNeighbours_b103 hk8 h))
    · exact g.tr ((fr_fSheet_takeNeighbours_b103 hk8 h))
theorem fr_fSheet_takeNeighbours_h8 : ∀ (n : Nat) {s : ev_M} {x1 : Int32} {x2 : Int32} {x3 : Int32} {q : ev_M} , fSheet_takeNeighbours_h8 n s x1 x2 x3 = some q → fr F_Sheet_takeNeighbours s q := by
  intro n
  induction n with
  | zero => intro s x1 x2 x3 q h; cases h
  | succ n ih =>
    intro s x1 x2 x3 q h
    have g : fr F_Sheet_takeNeighbours s s := fr.rf
    refine fr_if h (fun h => ?_) fun h => ?_
    · refine fr_if h (fun h => ?_) fun h => ?_
      · refine fr_bd1 h fun v5 hc h => ?_
        exact g.tr ((fr_fSheet_takeNeighbours_h32 ih 1048576 h))
      · cases h; exact g
    · cases h; exact g
theorem fr_fSheet_takeNeighbours {s : ev_M} {a1 : Int32} {a2 : Int32} {q : ev_M} (h : fSheet_takeNeighbours s a1 a2 = some q) : fr F_Sheet_takeNeighbours s q := by
  have g : fr F_Sheet_takeNeighbours s s := fr.rf
  refine fr_bd1 h fun v6 hc h => ?_
  exact g.tr ((fr_fSheet_takeNeighbours_h8 1048576 h))
def F_Sheet_takePart : List (Nat × (Nat × Nat)) := [(52, 52, 9), (52, 52, 10), (53, 53, 0), (54, 54, 0), (56, 56, 0), (57, 57, 0), (58, 58, 0), (59, 59, 0)]
theorem fr_fSheet_takePart_b131 {s : ev_M} {x2 : Int32} {x3 : Int32} {x4 : Int32} {x5 : Int32} {q : ev_M} (h : fSheet_takePart_b131 s x2 x3 x4 x5 = some q) : fr F_Sheet_takePart s q := by
  have g : fr F_Sheet_takePart s s := fr.rf
  refine fr_if h (fun h => ?_) fun h => ?_
  · cases h; exact g
  · refine fr_gd h fun c0 h => ?_
    refine fr_ltM h (Q := fr F_Sheet_takePart s) (g.wI rfl) fun s1 gs1 h => ?_
    refine fr_gd h fun c1 h => ?_
    refine fr_ltM h (Q := fr F_Sheet_takePart s) (gs1.wI rfl) fun s2 gs2 h => ?_
    refine fr_gd h fun c2 h => ?_
    refine fr_ltM h (Q := fr F_Sheet_takePart s) (gs2.wI rfl) fun s3 gs3 h => ?_
    refine fr_ltM h (Q := fr F_Sheet_takePart s) (gs3.wI rfl) fun s4 gs4 h => ?_
    refine fr_gd h fun c3 h => ?_
    refine fr_ltM h (Q := fr F_Sheet_takePart s) (gs4.wI rfl) fun s5 gs5 h => ?_
    cases h; exact gs5
theorem fr_fSheet_takePart_h38 : ∀ (n : Nat) {s : ev_M} {x2 : Int32} {x3 : Int32} {x4 : Int32} {x5 : Int32} {x6 : Int32} {q : ev_M} , fSheet_takePart_h38 n s x2 x3 x4 x5 x6 = some q → fr F_Sheet_takePart s q := by
  intro n
  induction n with
  | zero => intro s x2 x3 x4 x5 x6 q h; cases h
  | succ n ih =>
    intro s x2 x3 x4 x5 x6 q h
    have g : fr F_Sheet_takePart s s := fr.rf
    refine fr_if h (fun h => ?_) fun h => ?_
    · refine fr_if h (fun h => ?_) fun h => ?_
      · refine fr_gd h fun c0 h => ?_
        refine fr_dv h fun h => ?_
        refine fr_ltI h fun v6 h => ?_
        refine fr_gd h fun c1 h => ?_
        refine fr_dv h fun h => ?_
        refine fr_ltI h fun v7 h => ?_
        refine fr_bd1 h fun v8 hc h => ?_
        refine fr_bd1 h fun v9 hc h => ?_
        refine fr_bd1 h fun v10 hc h => ?_
        refine fr_bd1 h fun v11 hc h => ?_
        refine fr_bd1 h fun s12 hc h => ?_
        have gs12 := g.tr ((fr_fSheet_takeNeighbours hc).mono (F := F_Sheet_takePart) (by decide +kernel))
        exact gs12.tr ((ih h))
      · exact g.tr ((fr_fSheet_takePart_b131 h))
    · exact g.tr ((fr_fSheet_takePart_b131 h))
theorem fr_fSheet_takePart {s : ev_M} {a1 : Int32} {q : ev_M} (h : fSheet_takePart s a1 = some q) : fr F_Sheet_takePart s q := by
  have g : fr F_Sheet_takePart s s := fr.rf
  refine fr_ltI h fun v13 h => ?_
  refine fr_ltI h fun v14 h => ?_
  refine fr_ltM h (Q := fr F_Sheet_takePart s) (g.wI rfl) fun s15 gs15 h => ?_
  refine fr_ltM h (Q := fr F_Sheet_takePart s) (gs15.wI rfl) fun s16 gs16 h => ?_
  refine fr_gd h fun c0 h => ?_
  refine fr_ltM h (Q := fr F_Sheet_takePart s) (gs16.wI rfl) fun s17 gs17 h => ?_
  exact gs17.tr ((fr_fSheet_takePart_h38 1048576 h))
def F_Sheet_findParts : List (Nat × (Nat × Nat)) := [(52, 52, 9), (52, 52, 10), (53, 53, 0), (54, 54, 0), (56, 56, 0), (57, 57, 0), (58, 58, 0), (59, 59, 0)]
theorem fr_fSheet_findParts_b45 {k7 : ev_M → Int32 → Option ev_M} (hk7 : ∀ {s : ev_M} {z1 : Int32} {q : ev_M} , k7 s z1 = some q → fr F_Sheet_findParts s q) {s : ev_M} {x1 : Int32} {q : ev_M} (h : fSheet_findParts_b45 k7 s x1 = some q) : fr F_Sheet_findParts s q := by
  have g : fr F_Sheet_findParts s s := fr.rf
  exact g.tr ((hk7 h))
theorem fr_fSheet_findParts_h7 : ∀ (n : Nat) {s : ev_M} {x1 : Int32} {q : ev_M} , fSheet_findParts_h7 n s x1 = some q → fr F_Sheet_findParts s q := by
  intro n
  induction n with
  | zero => intro s x1 q h; cases h
  | succ n ih =>
    intro s x1 q h
    have g : fr F_Sheet_findParts s s := fr.rf
    refine fr_if h (fun h => ?_) fun h => ?_
    · refine fr_if h (fun h => ?_) fun h => ?_
      · refine fr_gd h fun c0 h => ?_
        refine fr_if h (fun h => ?_) fun h => ?_
        · refine fr_bd1 h fun s1 hc h => ?_
          have gs1 := g.tr ((fr_fSheet_takePart hc).mono (F := F_Sheet_findParts) (by decide +kernel))
          exact gs1.tr ((fr_fSheet_findParts_b45 ih h))
        · exact g.tr ((fr_fSheet_findParts_b45 ih h))
      · cases h; exact g
    · cases h; exact g
theorem fr_fSheet_findParts {s : ev_M} {q : ev_M} (h : fSheet_findParts s = some q) : fr F_Sheet_findParts s q := by
  have g : fr F_Sheet_findParts s s := fr.rf
  refine fr_ltM h (Q := fr F_Sheet_findParts s) (g.wI rfl) fun s2 gs2 h => ?_
  exact gs2.tr ((fr_fSheet_findParts_h7 1048576 h))
def F_Sheet_joinLine : List (Nat × (Nat × Nat)) := [(52, 52, 9), (54, 54, 0), (60, 60, 0)]
theorem fr_fSheet_joinLine_b100 {k21 : ev_M → Int32 → Int32 → Option ev_M} {k39 : ev_M → Int32 → Int32 → Int32 → Option ev_M} (hk21 : ∀ {s : ev_M} {z1 : Int32} {z2 : Int32} {q : ev_M} , k21 s z1 z2 = some q → fr F_Sheet_joinLine s q) (hk39 : ∀ {s : ev_M} {z1 : Int32} {z2 : Int32} {z3 : Int32} {q : ev_M} , k39 s z1 z2 z3 = some q → fr F_Sheet_joinLine s q) {s : ev_M} {x2 : Int32} {x3 : Int32} {x4 : Int32} {q : ev_M} (h : fSheet_joinLine_b100 k21 k39 s x2 x3 x4 = some q) : fr F_Sheet_joinLine s q := by
  have g : fr F_Sheet_joinLine s s := fr.rf
  exact g.tr ((hk39 h))
theorem fr_fSheet_joinLine_h39 {k21 : ev_M → Int32 → Int32 → Option ev_M} (hk21 : ∀ {s : ev_M} {z1 : Int32} {z2 : Int32} {q : ev_M} , k21 s z1 z2 = some q → fr F_Sheet_joinLine s q) : ∀ (n : Nat) {s : ev_M} {x2 : Int32} {x3 : Int32} {x4 : Int32} {q : ev_M} , fSheet_joinLine_h39 k21 n s x2 x3 x4 = some q → fr F_Sheet_joinLine s q := by
  intro n
  induction n with
  | zero => intro s x2 x3 x4 q h; cases h
  | succ n ih =>
    intro s x2 x3 x4 q h
    have g : fr F_Sheet_joinLine s s := fr.rf
    refine fr_if h (fun h => ?_) fun h => ?_
    · refine fr_gd h fun c0 h => ?_
      refine fr_if h (fun h => ?_) fun h => ?_
      · refine fr_gd h fun c1 h => ?_
        refine fr_bd1 h fun v1 hc h => ?_
        refine fr_if h (fun h => ?_) fun h => ?_
        · exact g.tr ((fr_fSheet_joinLine_b100 hk21 ih h))
        · refine fr_gd h fun c2 h => ?_
          refine fr_ltM h (Q := fr F_Sheet_joinLine s) (g.wI rfl) fun s2 gs2 h => ?_
          refine fr_ltM h (Q := fr F_Sheet_joinLine s) (gs2.wI rfl) fun s3 gs3 h => ?_
          refine fr_gd h fun c3 h => ?_
          refine fr_ltM h (Q := fr F_Sheet_joinLine s) (gs3.wI rfl) fun s4 gs4 h => ?_
          exact gs4.tr ((fr_fSheet_joinLine_b100 hk21 ih h))
      · exact g.tr ((fr_fSheet_joinLine_b100 hk21 ih h))
    · exact g.tr ((hk21 h))
theorem fr_fSheet_joinLine_h21 : ∀ (n : Nat) {s : ev_M} {x2 : Int32} {x3 : Int32} {q : ev_M} , fSheet_joinLine_h21 n s x2 x3 = some q → fr F_Sheet_joinLine s q := by
  intro n
  induction n with
  | zero => intro s x2 x3 q h; cases h
  | succ n ih =>
    intro s x2 x3 q h
    have g : fr F_Sheet_joinLine s s := fr.rf
    refine fr_if h (fun h => ?_) fun h => ?_
    · refine fr_if h (fun h => ?_) fun h => ?_
      · exact g.tr ((fr_fSheet_joinLine_h39 ih 1048576 h))
      · cases h; exact g
    · cases h; exact g
theorem fr_fSheet_joinLine {s : ev_M} {a1 : Int32} {a2 : Int32} {q : ev_M} (h : fSheet_joinLine s a1 a2 = some q) : fr F_Sheet_joinLine s q := by
  have g : fr F_Sheet_joinLine s s := fr.rf
  refine fr_ltM h (Q := fr F_Sheet_joinLine s) (g.wI rfl) fun s5 gs5 h => ?_
  refine fr_ltM h (Q := fr F_Sheet_joinLine s) (gs5.wI rfl) fun s6 gs6 h => ?_
  refine fr_gd h fun c0 h => ?_
  refine fr_ltM h (Q := fr F_Sheet_joinLine s) (gs6.wI rfl) fun s7 gs7 h => ?_
  exact gs7.tr ((fr_fSheet_joinLine_h21 1048576 h))
def F_Arr_fillI_60 : List (Nat × (Nat × Nat)) := [(60, 60, 0)]
theorem fr_fArr_fillI_60_h5 : ∀ (n : Nat) {s : ev_M} {x1 : Int32} {x2 : Int32} {x3 : Int32} {q : ev_M} , fArr_fillI_60_h5 n s x1 x2 x3 = some q → fr F_Arr_fillI_60 s q := by
  intro n
  induction n with
  | zero => intro s x1 x2 x3 q h; cases h
  | succ n ih =>
    intro s x1 x2 x3 q h
    have g : fr F_Arr_fillI_60 s s := fr.rf
    refine fr_if h (fun h => ?_) fun h => ?_
    · refine fr_gd h fun c0 h => ?_
      refine fr_ltM h (Q := fr F_Arr_fillI_60 s) (g.wI rfl) fun s1 gs1 h => ?_
      exact gs1.tr ((ih h))
    · cases h; exact g
theorem fr_fArr_fillI_60 {s : ev_M} {a1 : Int32} {q : ev_M} (h : fArr_fillI_60 s a1 = some q) : fr F_Arr_fillI_60 s q := by
  have g : fr F_Arr_fillI_60 s s := fr.rf
  exact g.tr ((fr_fArr_fillI_60_h5 1048576 h))
def F_Sheet_joinLines : List (Nat × (Nat × Nat)) := [(52, 52, 9), (54, 54, 0), (60, 60, 0)]
theorem fr_fSheet_joinLines_b39 {k12 : ev_M → Int32 → Int32 → Option ev_M} (hk12 : ∀ {s : ev_M} {z1 : Int32} {z2 : Int32} {q : ev_M} , k12 s z1 z2 = some q → fr F_Sheet_joinLines s q) {s : ev_M} {x1 : Int32} {x2 : Int32} {q : ev_M} (h : fSheet_joinLines_b39 k12 s x1 x2 = some q) : fr F_Sheet_joinLines s q := by
  have g : fr F_Sheet_joinLines s s := fr.rf
  exact g.tr ((hk12 h))
theorem fr_fSheet_joinLines_h12 : ∀ (n : Nat) {s : ev_M} {x1 : Int32} {x2 : Int32} {q : ev_M} , fSheet_joinLines_h12 n s x1 x2 = some q → fr F_Sheet_joinLines s q := by
  intro n
  induction n with
  | zero => intro s x1 x2 q h; cases h
  | succ n ih =>
    intro s x1 x2 q h
    have g : fr F_Sheet_joinLines s s := fr.rf
    refine fr_if h (fun h => ?_) fun h => ?_
    · refine fr_gd h fun c0 h => ?_
      refine fr_if h (fun h => ?_) fun h => ?_
      · refine fr_bd1 h fun s1 hc h => ?_
        have gs1 := g.tr ((fr_fSheet_joinLine hc).mono (F := F_Sheet_joinLines) (by decide +kernel))
        exact gs1.tr ((fr_fSheet_joinLines_b39 ih h))
      · exact g.tr ((fr_fSheet_joinLines_b39 ih h))
    · cases h; exact g
theorem fr_fSheet_joinLines {s : ev_M} {q : ev_M} (h : fSheet_joinLines s = some q) : fr F_Sheet_joinLines s q := by
  have g : fr F_Sheet_joinLines s s := fr.rf
  refine fr_bd1 h fun s2 hc h => ?_
  have gs2 := g.tr ((fr_fArr_fillI_60 hc).mono (F := F_Sheet_joinLines) (by decide +kernel))
  exact gs2.tr ((fr_fSheet_joinLines_h12 1048576 h))
def F_Sheet_orderParts : List (Nat × (Nat × Nat)) := [(61, 61, 0)]
theorem fr_fSheet_orderParts_b52 {k2 : ev_M → Int32 → Option ev_M} (hk2 : ∀ {s : ev_M} {z1 : Int32} {q : ev_M} , k2 s z1 = some q → fr F_Sheet_orderParts s q) {s : ev_M} {x1 : Int32} {x2 : Int32} {q : ev_M} (h : fSheet_orderParts_b52 k2 s x1 x2 = some q) : fr F_Sheet_orderParts s q := by
  have g : fr F_Sheet_orderParts s s := fr.rf
  refine fr_gd h fun c0 h => ?_
  refine fr_ltM h (Q := fr F_Sheet_orderParts s) (g.wI rfl) fun s1 gs1 h => ?_
  exact gs1.tr ((hk2 h))
theorem fr_fSheet_orderParts_h12 {k2 : ev_M → Int32 → Option ev_M} (hk2 : ∀ {s : ev_M} {z1 : Int32} {q : ev_M} , k2 s z1 = some q → fr F_Sheet_orderParts s q) : ∀ (n : Nat) {s : ev_M} {x1 : Int32} {x2 : Int32} {q : ev_M} , fSheet_orderParts_h12 k2 n s x1 x2 = some q → fr F_Sheet_orderParts s q := by
  intro n
  induction n with
  | zero => intro s x1 x2 q h; cases h
  | succ n ih =>
    intro s x1 x2 q h
    have g : fr F_Sheet_orderParts s s := fr.rf
    refine fr_if h (fun h => ?_) fun h => ?_
    · exact g.tr ((fr_fSheet_orderParts_b52 hk2 h))
    · refine fr_gd h fun c0 h => ?_
      refine fr_bd1 h fun v2 hc h => ?_
      refine fr_if h (fun h => ?_) fun h => ?_
      · exact g.tr ((fr_fSheet_orderParts_b52 hk2 h))
      · refine fr_gd h fun c1 h => ?_
        refine fr_gd h fun c2 h => ?_
        refine fr_ltM h (Q := fr F_Sheet_orderParts s) (g.wI rfl) fun s3 gs3 h => ?_
        exact gs3.tr ((ih h))
theorem fr_fSheet_orderParts_h2 : ∀ (n : Nat) {s : ev_M} {x1 : Int32} {q : ev_M} , fSheet_orderParts_h2 n s x1 = some q → fr F_Sheet_orderParts s q := by
  intro n
  induction n with
  | zero => intro s x1 q h; cases h
  | succ n ih =>
    intro s x1 q h
    have g : fr F_Sheet_orderParts s s := fr.rf
    refine fr_if h (fun h => ?_) fun h => ?_
    · exact g.tr ((fr_fSheet_orderParts_h12 ih 1048576 h))
    · cases h; exact g
theorem fr_fSheet_orderParts {s : ev_M} {q : ev_M} (h : fSheet_orderParts s = some q) : fr F_Sheet_orderParts s q := by
  have g : fr F_Sheet_orderParts s s := fr.rf
  exact g.tr ((fr_fSheet_orderParts_h2 1048576 h))
def F_Sheet_keepBox : List (Nat × (Nat × Nat)) := [(68, 75, 0), (72, 72, 0), (73, 73, 0), (74, 74, 0)]
theorem fr_fSheet_keepBox_b182 {s : ev_M} {m0 : Nat} {y1 : Int32} {y2 : Int32} {q : ev_M} (bm0 : m0 < 8) (h : fSheet_keepBox_b182 s m0 y1 y2 = some q) : fr F_Sheet_keepBox s q := by
  have g : fr F_Sheet_keepBox s s := fr.rf
  refine fr_gd h fun c0 h => ?_
  refine fr_ltM h (Q := fr F_Sheet_keepBox s) (g.wI (inF_row (lo := 68) (hi := 75) rfl (Nat.le_add_right _ _) (by have := bm0; omega))) fun s1 gs1 h => ?_
  cases h; exact gs1
theorem fr_fSheet_keepBox_b164 {s : ev_M} {x1 : Int32} {x4 : Int32} {q : ev_M} (h : fSheet_keepBox_b164 s x1 x4 = some q) : fr F_Sheet_keepBox s q := by
  have g : fr F_Sheet_keepBox s s := fr.rf
  refine fr_if h (fun h => ?_) fun h => ?_
  · exact g.tr ((fr_fSheet_keepBox_b182 (by decide) h))
  · exact g.tr ((fr_fSheet_keepBox_b182 (by decide) h))
theorem fr_fSheet_keepBox_b162 {s : ev_M} {x1 : Int32} {y0 : Int32} {q : ev_M} (h : fSheet_keepBox_b162 s x1 y0 = some q) : fr F_Sheet_keepBox s q := by
  have g : fr F_Sheet_keepBox s s := fr.rf
  exact g.tr ((fr_fSheet_keepBox_b164 h))
theorem fr_fSheet_keepBox_h3 : ∀ (n : Nat) {s : ev_M} {x1 : Int32} {x2 : Int32} {x3 : Int32} {x4 : Int32} {q : ev_M} , fSheet_keepBox_h3 n s x1 x2 x3 x4 = some q → fr F_Sheet_keepBox s q := by
  intro n
  induction n with
  | zero => intro s x1 x2 x3 x4 q h; cases h
  | succ n ih =>
    intro s x1 x2 x3 x4 q h
    have g : fr F_Sheet_keepBox s s := fr.rf
    refine fr_if h (fun h => ?_) fun h => ?_
    · refine fr_gd h fun c0 h => ?_
      refine fr_gd h fun c1 h => ?_
      refine fr_gd h fun c2 h => ?_
      refine fr_gd h fun c3 h => ?_
      refine fr_ltM h (Q := fr F_Sheet_keepBox s) (g.wI (inF_row (lo := 68) (hi := 75) rfl (Nat.le_add_right _ _) (by have := (inb_lt c0); omega))) fun s2 gs2 h => ?_
      exact gs2.tr ((ih h))
    · refine fr_bd1 h fun v3 hc h => ?_
      refine fr_gd h fun c0 h => ?_
      refine fr_ltM h (Q := fr F_Sheet_keepBox s) (g.wI rfl) fun s4 gs4 h => ?_
      refine fr_gd h fun c1 h => ?_
      refine fr_bd1 h fun v5 hc h => ?_
      refine fr_gd h fun c2 h => ?_
      refine fr_ltM h (Q := fr F_Sheet_keepBox s) (gs4.wI rfl) fun s6 gs6 h => ?_
      refine fr_gd h fun c3 h => ?_
      refine fr_bd1 h fun v7 hc h => ?_
      refine fr_gd h fun c4 h => ?_
      refine fr_ltM h (Q := fr F_Sheet_keepBox s) (gs6.wI rfl) fun s8 gs8 h => ?_
      refine fr_if h (fun h => ?_) fun h => ?_
      · refine fr_if h (fun h => ?_) fun h => ?_
        · exact gs8.tr ((fr_fSheet_keepBox_b164 h))
        · refine fr_gd h fun c5 h => ?_
          refine fr_gd h fun c6 h => ?_
          refine fr_gd h fun c7 h => ?_
          refine fr_ltI h fun v9 h => ?_
          refine fr_gd h fun c8 h => ?_
          refine fr_if h (fun h => ?_) fun h => ?_
          · exact gs8.tr ((fr_fSheet_keepBox_b162 h))
          · exact gs8.tr ((fr_fSheet_keepBox_b162 h))
      · exact gs8.tr ((fr_fSheet_keepBox_b164 h))
theorem fr_fSheet_keepBox {s : ev_M} {a1 : Int32} {a2 : Int32} {a3 : Int32} {q : ev_M} (h : fSheet_keepBox s a1 a2 a3 = some q) : fr F_Sheet_keepBox s q := by
  have g : fr F_Sheet_keepBox s s := fr.rf
  exact g.tr ((fr_fSheet_keepBox_h3 1048576 h))
def F_Sheet_beginLine : List (Nat × (Nat × Nat)) := [(52, 52, 14), (63, 63, 0), (64, 64, 0), (65, 65, 0), (66, 66, 0)]
theorem fr_fSheet_beginLine {s : ev_M} {a1 : Int32} {a2 : Int32} {q : ev_M} (h : fSheet_beginLine s a1 a2 = some q) : fr F_Sheet_beginLine s q := by
  have g : fr F_Sheet_beginLine s s := fr.rf
  refine fr_gd h fun c0 h => ?_
  refine fr_ltM h (Q := fr F_Sheet_beginLine s) (g.wI rfl) fun s1 gs1 h => ?_
  refine fr_gd h fun c1 h => ?_
  refine fr_ltM h (Q := fr F_Sheet_beginLine s) (gs1.wI rfl) fun s2 gs2 h => ?_
  refine fr_gd h fun c2 h => ?_
  refine fr_gd h fun c3 h => ?_
  refine fr_ltM h (Q := fr F_Sheet_beginLine s) (gs2.wI rfl) fun s3 gs3 h => ?_
  refine fr_gd h fun c4 h => ?_
  refine fr_gd h fun c5 h => ?_
  refine fr_ltM h (Q := fr F_Sheet_beginLine s) (gs3.wI rfl) fun s4 gs4 h => ?_
  refine fr_ltM h (Q := fr F_Sheet_beginLine s) (gs4.wI rfl) fun s5 gs5 h => ?_
  cases h; exact gs5
def F_Sheet_keepLines : List (Nat × (Nat × Nat)) := [(52, 52, 14), (63, 63, 0), (64, 64, 0), (65, 65, 0), (66, 66, 0), (68, 75, 0), (72, 72, 0), (73, 73, 0), (74, 74, 0)]
theorem fr_fSheet_keepLines_b78 {k7 : ev_M → Int32 → Option ev_M} (hk7 : ∀ {s : ev_M} {z1 : Int32} {q : ev_M} , k7 s z1 = some q → fr F_Sheet_keepLines s q) {s : ev_M} {x1 : Int32} {x2 : Int32} {x3 : Int32} {q : ev_M} (h : fSheet_keepLines_b78 k7 s x1 x2 x3 = some q) : fr F_Sheet_keepLines s q := by
  have g : fr F_Sheet_keepLines s s := fr.rf
  refine fr_ltI h fun v1 h => ?_
  refine fr_gd h fun c0 h => ?_
  refine fr_gd h fun c1 h => ?_
  refine fr_ltM h (Q := fr F_Sheet_keepLines s) (g.wI rfl) fun s2 gs2 h => ?_
  refine fr_gd h fun c2 h => ?_
  refine fr_gd h fun c3 h => ?_
  refine fr_bd1 h fun v3 hc h => ?_
  refine fr_gd h fun c4 h => ?_
  refine fr_ltM h (Q := fr F_Sheet_keepLines s) (gs2.wI rfl) fun s4 gs4 h => ?_
  refine fr_gd h fun c5 h => ?_
  refine fr_gd h fun c6 h => ?_
  refine fr_bd1 h fun v5 hc h => ?_
  refine fr_gd h fun c7 h => ?_
  refine fr_ltM h (Q := fr F_Sheet_keepLines s) (gs4.wI rfl) fun s6 gs6 h => ?_
  refine fr_bd1 h fun s7 hc h => ?_
  have gs7 := gs6.tr ((fr_fSheet_keepBox hc).mono (F := F_Sheet_keepLines) (by decide +kernel))
  exact gs7.tr ((hk7 h))
theorem fr_fSheet_keepLines_b68 {k7 : ev_M → Int32 → Option ev_M} (hk7 : ∀ {s : ev_M} {z1 : Int32} {q : ev_M} , k7 s z1 = some q → fr F_Sheet_keepLines s q) {s : ev_M} {x1 : Int32} {x2 : Int32} {x3 : Int32} {q : ev_M} (h : fSheet_keepLines_b68 k7 s x1 x2 x3 = some q) : fr F_Sheet_keepLines s q := by
  have g : fr F_Sheet_keepLines s s := fr.rf
  refine fr_if h (fun h => ?_) fun h => ?_
  · exact g.tr ((fr_fSheet_keepLines_b78 hk7 h))
  · refine fr_bd1 h fun s8 hc h => ?_
    have gs8 := g.tr ((fr_fSheet_beginLine hc).mono (F := F_Sheet_keepLines) (by decide +kernel))
    exact gs8.tr ((fr_fSheet_keepLines_b78 hk7 h))
theorem fr_fSheet_keepLines_b53 {k7 : ev_M → Int32 → Option ev_M} (hk7 : ∀ {s : ev_M} {z1 : Int32} {q : ev_M} , k7 s z1 = some q → fr F_Sheet_keepLines s q) {s : ev_M} {x1 : Int32} {x2 : Int32} {y0 : Int32} {q : ev_M} (h : fSheet_keepLines_b53 k7 s x1 x2 y0 = some q) : fr F_Sheet_keepLines s q := by
  have g : fr F_Sheet_keepLines s s := fr.rf
  refine fr_if h (fun h => ?_) fun h => ?_
  · exact g.tr ((fr_fSheet_keepLines_b68 hk7 h))
  · refine fr_if h (fun h => ?_) fun h => ?_
    · cases h; exact g
    · exact g.tr ((fr_fSheet_keepLines_b68 hk7 h))
theorem fr_fSheet_keepLines_b48 {k7 : ev_M → Int32 → Option ev_M} (hk7 : ∀ {s : ev_M} {z1 : Int32} {q : ev_M} , k7 s z1 = some q → fr F_Sheet_keepLines s q) {s : ev_M} {x1 : Int32} {x2 : Int32} {q : ev_M} (h : fSheet_keepLines_b48 k7 s x1 x2 = some q) : fr F_Sheet_keepLines s q := by
  have g : fr F_Sheet_keepLines s s := fr.rf
  exact g.tr ((fr_fSheet_keepLines_b53 hk7 h))
theorem fr_fSheet_keepLines_h7 : ∀ (n : Nat) {s : ev_M} {x1 : Int32} {q : ev_M} , fSheet_keepLines_h7 n s x1 = some q → fr F_Sheet_keepLines s q := by
  intro n
  induction n with
  | zero => intro s x1 q h; cases h
  | succ n ih =>
    intro s x1 q h
    have g : fr F_Sheet_keepLines s s := fr.rf
    refine fr_if h (fun h => ?_) fun h => ?_
    · refine fr_gd h fun c0 h => ?_
      refine fr_ltI h fun v9 h => ?_
      refine fr_if h (fun h => ?_) fun h => ?_
      · exact g.tr ((fr_fSheet_keepLines_b48 ih h))
      · refine fr_gd h fun c1 h => ?_
        refine fr_gd h fun c2 h => ?_
        refine fr_gd h fun c3 h => ?_
        refine fr_if h (fun h => ?_) fun h => ?_
        · exact g.tr ((fr_fSheet_keepLines_b53 ih h))
        · exact g.tr ((fr_fSheet_keepLines_b48 ih h))
    · cases h; exact g
theorem fr_fSheet_keepLines {s : ev_M} {q : ev_M} (h : fSheet_keepLines s = some q) : fr F_Sheet_keepLines s q := by
  have g : fr F_Sheet_keepLines s s := fr.rf
  refine fr_ltM h (Q := fr F_Sheet_keepLines s) (g.wI rfl) fun s10 gs10 h => ?_
  exact gs10.tr ((fr_fSheet_keepLines_h7 1048576 h))
def F_Book_spell_76 : List (Nat × (Nat × Nat)) := [(76, 76, 0)]
theorem fr_fBook_spell_76_h50 : ∀ (n : Nat) {s : ev_M} {x3 : Int32} {x4 : Int64} {x6 : Int32} {q : ev_M × Int32} , fBook_spell_76_h50 n s x3 x4 x6 = some q → fr F_Book_spell_76 s q.1 := by
  intro n
  induction n with
  | zero => intro s x3 x4 x6 q h; cases h
  | succ n ih =>
    intro s x3 x4 x6 q h
    have g : fr F_Book_spell_76 s s := fr.rf
    refine fr_if h (fun h => ?_) fun h => ?_
    · cases h; exact g
    · refine fr_dv h fun h => ?_
      refine fr_gd h fun c0 h => ?_
      refine fr_ltM h (Q := fr F_Book_spell_76 s) (g.wI rfl) fun s1 gs1 h => ?_
      refine fr_dv h fun h => ?_
      refine fr_ltL h fun v2 h => ?_
      exact gs1.tr ((ih h))
theorem fr_fBook_spell_76_b37 {s : ev_M} {x1 : Int32} {x3 : Int32} {q : ev_M × Int32} (h : fBook_spell_76_b37 s x1 x3 = some q) : fr F_Book_spell_76 s q.1 := by
  have g : fr F_Book_spell_76 s s := fr.rf
  refine fr_gd h fun c0 h => ?_
  refine fr_ltL h fun v3 h => ?_
  refine fr_ltI h fun v4 h => ?_
  exact g.tr ((fr_fBook_spell_76_h50 1048576 h))
theorem fr_fBook_spell_76_h10 : ∀ (n : Nat) {s : ev_M} {x1 : Int32} {x3 : Int32} {x4 : Int64} {q : ev_M × Int32} , fBook_spell_76_h10 n s x1 x3 x4 = some q → fr F_Book_spell_76 s q.1 := by
  intro n
  induction n with
  | zero => intro s x1 x3 x4 q h; cases h
  | succ n ih =>
    intro s x1 x3 x4 q h
    have g : fr F_Book_spell_76 s s := fr.rf
    refine fr_if h (fun h => ?_) fun h => ?_
    · exact g.tr ((fr_fBook_spell_76_b37 h))
    · refine fr_if h (fun h => ?_) fun h => ?_
      · refine fr_dv h fun h => ?_
        refine fr_ltL h fun v5 h => ?_
        exact g.tr ((ih h))
      · exact g.tr ((fr_fBook_spell_76_b37 h))
theorem fr_fBook_spell_76 {s : ev_M} {a1 : Int32} {q : ev_M × Int32} (h : fBook_spell_76 s a1 = some q) : fr F_Book_spell_76 s q.1 := by
  have g : fr F_Book_spell_76 s s := fr.rf
  refine fr_gd h fun c0 h => ?_
  refine fr_ltL h fun v6 h => ?_
  exact g.tr ((fr_fBook_spell_76_h10 1048576 h))
def F_Sheet_changesTo : List (Nat × (Nat × Nat)) := [(76, 76, 0), (77, 77, 0)]
theorem fr_fSheet_changesTo_b105 {k42 : ev_M → Int32 → Int32 → Int32 → Option (ev_M × Int32)} {k69 : ev_M → Int32 → Int32 → Int32 → Int32 → Int32 → Option (ev_M × Int32)} (hk42 : ∀ {s : ev_M} {z1 : Int32} {z2 : Int32} {z3 : Int32} {q : ev_M × Int32} , k42 s z1 z2 z3 = some q → fr F_Sheet_changesTo s q.1) (hk69 : ∀ {s : ev_M} {z1 : Int32} {z2 : Int32} {z3 : Int32} {z4 : Int32} {z5 : Int32} {q : ev_M × Int32} , k69 s z1 z2 z3 z4 z5 = some q → fr F_Sheet_changesTo s q.1) {s : ev_M} {x3 : Int32} {x4 : Int32} {x5 : Int32} {x7 : Int32} {y0 : Int32} {y1 : Int32} {q : ev_M × Int32} (h : fSheet_changesTo_b105 k42 k69 s x3 x4 x5 x7 y0 y1 = some q) : fr F_Sheet_changesTo s q.1 := by
  have g : fr F_Sheet_changesTo s s := fr.rf
  refine fr_ltI h fun v1 h => ?_
  refine fr_gd h fun c0 h => ?_
  refine fr_ltI h fun v2 h => ?_
  refine fr_gd h fun c1 h => ?_
  refine fr_gd h fun c2 h => ?_
  refine fr_bd1 h fun v3 hc h => ?_
  refine fr_bd1 h fun v4 hc h => ?_
  refine fr_gd h fun c3 h => ?_
  refine fr_ltM h (Q := fr F_Sheet_changesTo s) (g.wI rfl) fun s5 gs5 h => ?_
  exact gs5.tr ((hk69 h))
theorem fr_fSheet_changesTo_h69 {k42 : ev_M → Int32 → Int32 → Int32 → Option (ev_M × Int32)} (hk42 : ∀ {s : ev_M} {z1 : Int32} {z2 : Int32} {z3 : Int32} {q : ev_M × Int32} , k42 s z1 z2 z3 = some q → fr F_Sheet_changesTo s q.1) : ∀ (n : Nat) {s : ev_M} {x3 : Int32} {x4 : Int32} {x5 : Int32} {x6 : Int32} {x7 : Int32} {q : ev_M × Int32} , fSheet_changesTo_h69 k42 n s x3 x4 x5 x6 x7 = some q → fr F_Sheet_changesTo s q.1 := by
  intro n
  induction n with
  | zero => intro s x3 x4 x5 x6 x7 q h; cases h
  | succ n ih =>
    intro s x3 x4 x5 x6 x7 q h
    have g : fr F_Sheet_changesTo s s := fr.rf
    refine fr_if h (fun h => ?_) fun h => ?_
    · refine fr_gd h fun c0 h => ?_
      refine fr_gd h fun c1 h => ?_
      refine fr_if h (fun h => ?_) fun h => ?_
      · exact g.tr ((fr_fSheet_changesTo_b105 hk42 ih h))
      · exact g.tr ((fr_fSheet_changesTo_b105 hk42 ih h))
    · exact g.tr ((hk42 h))
theorem fr_fSheet_changesTo_h42 : ∀ (n : Nat) {s : ev_M} {x3 : Int32} {x4 : Int32} {x5 : Int32} {q : ev_M × Int32} , fSheet_changesTo_h42 n s x3 x4 x5 = some q → fr F_Sheet_changesTo s q.1 := by
  intro n
  induction n with
  | zero => intro s x3 x4 x5 q h; cases h
  | succ n ih =>
    intro s x3 x4 x5 q h
    have g : fr F_Sheet_changesTo s s := fr.rf
    refine fr_if h (fun h => ?_) fun h => ?_
    · refine fr_ltI h fun v6 h => ?_
      refine fr_ltM h (Q := fr F_Sheet_changesTo s) (g.wI rfl) fun s7 gs7 h => ?_
      exact gs7.tr ((fr_fSheet_changesTo_h69 ih 1048576 h))
    · refine fr_gd h fun c0 h => ?_
      cases h; exact g
theorem fr_fSheet_changesTo_h17 : ∀ (n : Nat) {s : ev_M} {x2 : Int32} {x3 : Int32} {x4 : Int32} {x5 : Int32} {q : ev_M × Int32} , fSheet_changesTo_h17 n s x2 x3 x4 x5 = some q → fr F_Sheet_changesTo s q.1 := by
  intro n
  induction n with
  | zero => intro s x2 x3 x4 x5 q h; cases h
  | succ n ih =>
    intro s x2 x3 x4 x5 q h
    have g : fr F_Sheet_changesTo s s := fr.rf
    refine fr_if h (fun h => ?_) fun h => ?_
    · refine fr_gd h fun c0 h => ?_
      refine fr_ltM h (Q := fr F_Sheet_changesTo s) (g.wI rfl) fun s8 gs8 h => ?_
      exact gs8.tr ((ih h))
    · exact g.tr ((fr_fSheet_changesTo_h42 1048576 h))
theorem fr_fSheet_changesTo {s : ev_M} {a1 : Int32} {a2 : Int32} {a3 : Int32} {q : ev_M × Int32} (h : fSheet_changesTo s a1 a2 a3 = some q) : fr F_Sheet_changesTo s q.1 := by
  have g : fr F_Sheet_changesTo s s := fr.rf
  refine fr_bd2 h fun s9 v10 hc h => ?_
  have gs9 : fr F_Sheet_changesTo s s9 := g.tr ((fr_fBook_spell_76 hc).mono (F := F_Sheet_changesTo) (by decide +kernel))
  exact gs9.tr ((fr_fSheet_changesTo_h17 1048576 h))
def F_Sheet_streetLike : List (Nat × (Nat × Nat)) := [(76, 76, 0), (77, 77, 0)]
theorem fr_fSheet_streetLike_b75 {k9 : ev_M → Int32 → Int32 → Int32 → Int32 → Int32 → Int32 → Option (ev_M × Int32)} (hk9 : ∀ {s : ev_M} {z1 : Int32} {z2 : Int32} {z3 : Int32} {z4 : Int32} {z5 : Int32} {z6 : Int32} {q : ev_M × Int32} , k9 s z1 z2 z3 z4 z5 z6 = some q → fr F_Sheet_streetLike s q.1) {s : ev_M} {x1 : Int32} {x2 : Int32} {x3 : Int32} {x4 : Int32} {x5 : Int32} {x6 : Int32} {q : ev_M × Int32} (h : fSheet_streetLike_b75 k9 s x1 x2 x3 x4 x5 x6 = some q) : fr F_Sheet_streetLike s q.1 := by
  have g : fr F_Sheet_streetLike s s := fr.rf
  exact g.tr ((hk9 h))
theorem fr_fSheet_streetLike_h9 : ∀ (n : Nat) {s : ev_M} {x1 : Int32} {x2 : Int32} {x3 : Int32} {x4 : Int32} {x5 : Int32} {x6 : Int32} {q : ev_M × Int32} , fSheet_streetLike_h9 n s x1 x2 x3 x4 x5 x6 = some q → fr F_Sheet_streetLike s q.1 := by
  intro n
  induction n with
  | zero => intro s x1 x2 x3 x4 x5 x6 q h; cases h
  | succ n ih =>
    intro s x1 x2 x3 x4 x5 x6 q h
    have g : fr F_Sheet_streetLike s s := fr.rf
    refine fr_if h (fun h => ?_) fun h => ?_
    · refine fr_bd1 h fun v1 hc h => ?_
      refine fr_if h (fun h => ?_) fun h => ?_
      · exact g.tr ((fr_fSheet_streetLike_b75 ih h))
      · refine fr_bd2 h fun s2 v3 hc h => ?_
        have gs2 : fr F_Sheet_streetLike s s2 := g.tr ((fr_fSheet_changesTo hc).mono (F := F_Sheet_streetLike) (by decide +kernel))
        refine fr_if h (fun h => ?_) fun h => ?_
        · exact gs2.tr ((fr_fSheet_streetLike_b75 ih h))
        · refine fr_if h (fun h => ?_) fun h => ?_
          · exact gs2.tr ((fr_fSheet_streetLike_b75 ih h))
          · exact gs2.tr ((fr_fSheet_streetLike_b75 ih h))
    · cases h; exact g
theorem fr_fSheet_streetLike {s : ev_M} {a1 : Int32} {a2 : Int32} {a3 : Int32} {q : ev_M × Int32} (h : fSheet_streetLike s a1 a2 a3 = some q) : fr F_Sheet_streetLike s q.1 := by
  have g : fr F_Sheet_streetLike s s := fr.rf
  exact g.tr ((fr_fSheet_streetLike_h9 1048576 h))
def F_Sheet_reading : List (Nat × (Nat × Nat)) := [(52, 52, 4), (76, 76, 0), (77, 77, 0)]
theorem fr_fSheet_reading_b139 {s : ev_M} {x1 : Int32} {x4 : Int32} {x5 : Int32} {y0 : Int32} {q : ev_M × Int32} (h : fSheet_reading_b139 s x1 x4 x5 y0 = some q) : fr F_Sheet_reading s q.1 := by
  have g : fr F_Sheet_reading s s := fr.rf
  refine fr_if h (fun h => ?_) fun h => ?_
  · cases h; exact g
  · refine fr_bd2 h fun s1 v2 hc h => ?_
    have gs1 : fr F_Sheet_reading s s1 := g.tr ((fr_fSheet_streetLike hc).mono (F := F_Sheet_reading) (by decide +kernel))
    refine fr_if h (fun h => ?_) fun h => ?_
    · cases h; exact gs1
    · refine fr_bd1 h fun v3 hc h => ?_
      refine fr_ltM h (Q := fr F_Sheet_reading s) (gs1.wI rfl) fun s4 gs4 h => ?_
      refine fr_if h (fun h => ?_) fun h => ?_
      · cases h; exact gs4
      · cases h; exact gs4
theorem fr_fSheet_reading {s : ev_M} {q : ev_M × Int32} (h : fSheet_reading s = some q) : fr F_Sheet_reading s q.1 := by
  have g : fr F_Sheet_reading s s := fr.rf
  refine fr_ltM h (Q := fr F_Sheet_reading s) (g.wI rfl) fun s5 gs5 h => ?_
  refine fr_if h (fun h => ?_) fun h => ?_
  · cases h; exact gs5
  · refine fr_gd h fun c0 h => ?_
    refine fr_ltI h fun v6 h => ?_
    refine fr_gd h fun c1 h => ?_
    refine fr_ltI h fun v7 h => ?_
    refine fr_bd1 h fun v8 hc h => ?_
    refine fr_bd1 h fun v9 hc h => ?_
    refine fr_if h (fun h => ?_) fun h => ?_
    · cases h; exact gs5
    · refine fr_bd1 h fun v10 hc h => ?_
      refine fr_if h (fun h => ?_) fun h => ?_
      · cases h; exact gs5
      · refine fr_gd h fun c2 h => ?_
        refine fr_ltI h fun v11 h => ?_
        refine fr_gd h fun c3 h => ?_
        refine fr_ltI h fun v12 h => ?_
        refine fr_bd1 h fun v13 hc h => ?_
        refine fr_if h (fun h => ?_) fun h => ?_
        · exact gs5.tr ((fr_fSheet_reading_b139 h))
        · refine fr_bd1 h fun v14 hc h => ?_
          exact gs5.tr ((fr_fSheet_reading_b139 h))
def F_Sheet_show_1 : List (Nat × (Nat × Nat)) := [(9, 9, 7), (9, 9, 8), (9, 9, 14), (13, 13, 0), (52, 52, 3), (52, 52, 4), (52, 52, 5), (52, 52, 6), (52, 52, 9), (52, 52, 10), (52, 52, 14), (53, 53, 0), (54, 54, 0), (56, 56, 0), (57, 57, 0), (58, 58, 0), (59, 59, 0), (60, 60, 0), (61, 61, 0), (63, 63, 0), (64, 64, 0), (65, 65, 0), (66, 66, 0), (68, 75, 0), (72, 72, 0), (73, 73, 0), (74, 74, 0), (76, 76, 0), (77, 77, 0)]
theorem fr_fSheet_show_1 {s : ev_M} {a2 : Int32} {q : ev_M × Int32} (h : fSheet_show_1 s a2 = some q) : fr F_Sheet_show_1 s q.1 := by
  have g : fr F_Sheet_show_1 s s := fr.rf
  refine fr_bd1 h fun v1 hc h => ?_
  refine fr_if h (fun h => ?_) fun h => ?_
  · refine fr_if h (fun h => ?_) fun h => ?_
    · cases h; exact g
    · refine fr_dv h fun h => ?_
      refine fr_if h (fun h => ?_) fun h => ?_
      · refine fr_bd2 h fun s2 v3 hc h => ?_
        have gs2 : fr F_Sheet_show_1 s s2 := g.tr ((fr_fLog_admits hc).mono (F := F_Sheet_show_1) (by decide +kernel))
        refine fr_if h (fun h => ?_) fun h => ?_
        · cases h; exact gs2
        · refine fr_ltM h (Q := fr F_Sheet_show_1 s) (gs2.wI rfl) fun s4 gs4 h => ?_
          refine fr_ltM h (Q := fr F_Sheet_show_1 s) (gs4.wI rfl) fun s5 gs5 h => ?_
          refine fr_dv h fun h => ?_
          refine fr_ltM h (Q := fr F_Sheet_show_1 s) (gs5.wI rfl) fun s6 gs6 h => ?_
          refine fr_bd1 h fun s7 hc h => ?_
          have gs7 := gs6.tr ((fr_fSheet_darken_1 hc).mono (F := F_Sheet_show_1) (by decide +kernel))
          refine fr_bd1 h fun s8 hc h => ?_
          have gs8 := gs7.tr ((fr_fSheet_findParts hc).mono (F := F_Sheet_show_1) (by decide +kernel))
          refine fr_bd1 h fun s9 hc h => ?_
          have gs9 := gs8.tr ((fr_fSheet_joinLines hc).mono (F := F_Sheet_show_1) (by decide +kernel))
          refine fr_bd1 h fun s10 hc h => ?_
          have gs10 := gs9.tr ((fr_fSheet_orderParts hc).mono (F := F_Sheet_show_1) (by decide +kernel))
          refine fr_bd1 h fun s11 hc h => ?_
          have gs11 := gs10.tr ((fr_fSheet_keepLines hc).mono (F := F_Sheet_show_1) (by decide +kernel))
          refine fr_bd2 h fun s12 v13 hc h => ?_
          have gs12 : fr F_Sheet_show_1 s s12 := gs11.tr ((fr_fSheet_reading hc).mono (F := F_Sheet_show_1) (by decide +kernel))
          cases h; exact gs12
      · cases h; exact g
  · cases h; exact g
def F_Chron_keep : List (Nat × (Nat × Nat)) := [(15, 15, 3), (17, 17, 0), (18, 18, 0), (19, 19, 0), (20, 20, 0), (21, 21, 0), (22, 22, 0)]
theorem fr_fChron_keep_b184 {s : ev_M} {x1 : Int32} {x5 : Int32} {q : ev_M} (h : fChron_keep_b184 s x1 x5 = some q) : fr F_Chron_keep s q := by
  have g : fr F_Chron_keep s s := fr.rf
  refine fr_gd h fun c0 h => ?_
  refine fr_if h (fun h => ?_) fun h => ?_
  · refine fr_gd h fun c1 h => ?_
    refine fr_ltM h (Q := fr F_Chron_keep s) (g.wI rfl) fun s1 gs1 h => ?_
    cases h; exact gs1
  · cases h; exact g
theorem fr_fChron_keep_b158 {s : ev_M} {x1 : Int32} {x5 : Int32} {x6 : Int32} {q : ev_M} (h : fChron_keep_b158 s x1 x5 x6 = some q) : fr F_Chron_keep s q := by
  have g : fr F_Chron_keep s s := fr.rf
  refine fr_if h (fun h => ?_) fun h => ?_
  · refine fr_gd h fun c0 h => ?_
    refine fr_ltM h (Q := fr F_Chron_keep s) (g.wI rfl) fun s2 gs2 h => ?_
    exact gs2.tr ((fr_fChron_keep_b184 h))
  · refine fr_gd h fun c0 h => ?_
    refine fr_ltM h (Q := fr F_Chron_keep s) (g.wI rfl) fun s3 gs3 h => ?_
    exact gs3.tr ((fr_fChron_keep_b184 h))
theorem fr_fChron_keep_b149 {s : ev_M} {x1 : Int32} {x5 : Int32} {x6 : Int32} {x7 : Int32} {q : ev_M} (h : fChron_keep_b149 s x1 x5 x6 x7 = some q) : fr F_Chron_keep s q := by
  have g : fr F_Chron_keep s s := fr.rf
  refine fr_gd h fun c0 h => ?_
  refine fr_ltM h (Q := fr F_Chron_keep s) (g.wI rfl) fun s4 gs4 h => ?_
  exact gs4.tr ((fr_fChron_keep_b158 h))
theorem fr_fChron_keep_h103 : ∀ (n : Nat) {s : ev_M} {x1 : Int32} {x4 : Int32} {x5 : Int32} {x6 : Int32} {x7 : Int32} {x8 : Int32} {q : ev_M} , fChron_keep_h103 n s x1 x4 x5 x6 x7 x8 = some q → fr F_Chron_keep s q := by
  intro n
  induction n with
  | zero => intro s x1 x4 x5 x6 x7 x8 q h; cases h
  | succ n ih =>
    intro s x1 x4 x5 x6 x7 x8 q h
    have g : fr F_Chron_keep s s := fr.rf
    refine fr_if h (fun h => ?_) fun h => ?_
    · refine fr_if h (fun h => ?_) fun h => ?_
      · exact g.tr ((fr_fChron_keep_b149 h))
      · refine fr_gd h fun c0 h => ?_
        refine fr_if h (fun h => ?_) fun h => ?_
        · refine fr_gd h fun c1 h => ?_
          refine fr_ltI h fun v5 h => ?_
          exact g.tr ((ih h))
        · exact g.tr ((fr_fChron_keep_b149 h))
    · exact g.tr ((fr_fChron_keep_b149 h))
theorem fr_fChron_keep {s : ev_M} {a1 : Int32} {a2 : Int32} {a3 : Int32} {a4 : Int32} {q : ev_M} (h : fChron_keep s a1 a2 a3 a4 = some q) : fr F_Chron_keep s q := by
  have g : fr F_Chron_keep s s := fr.rf
  refine fr_ltM h (Q := fr F_Chron_keep s) (g.wI rfl) fun s6 gs6 h => ?_
  refine fr_ltI h fun v7 h => ?_
  refine fr_if h (fun h => ?_) fun h => ?_
  · refine fr_gd h fun c0 h => ?_
    refine fr_ltM h (Q := fr F_Chron_keep s) (gs6.wI rfl) fun s8 gs8 h => ?_
    refine fr_gd h fun c1 h => ?_
    refine fr_ltM h (Q := fr F_Chron_keep s) (gs8.wI rfl) fun s9 gs9 h => ?_
    refine fr_gd h fun c2 h => ?_
    refine fr_ltM h (Q := fr F_Chron_keep s) (gs9.wI rfl) fun s10 gs10 h => ?_
    refine fr_gd h fun c3 h => ?_
    refine fr_ltM h (Q := fr F_Chron_keep s) (gs10.wI rfl) fun s11 gs11 h => ?_
    refine fr_gd h fun c4 h => ?_
    refine fr_ltI h fun v12 h => ?_
    refine fr_if h (fun h => ?_) fun h => ?_
    · exact gs11.tr ((fr_fChron_keep_b158 h))
    · refine fr_gd h fun c5 h => ?_
      refine fr_if h (fun h => ?_) fun h => ?_
      · exact gs11.tr ((fr_fChron_keep_b158 h))
      · refine fr_gd h fun c6 h => ?_
        refine fr_ltI h fun v13 h => ?_
        exact gs11.tr ((fr_fChron_keep_h103 1048576 h))
  · cases h; exact gs6
def F_Chron_happen : List (Nat × (Nat × Nat)) := [(15, 15, 3), (15, 15, 8), (17, 17, 0), (18, 18, 0), (19, 19, 0), (20, 20, 0), (21, 21, 0), (22, 22, 0), (24, 24, 0), (25, 25, 0), (26, 26, 0), (27, 27, 0)]
theorem fr_fChron_happen_b87 {s : ev_M} {q : ev_M} (h : fChron_happen_b87 s = some q) : fr F_Chron_happen s q := by
  have g : fr F_Chron_happen s s := fr.rf
  refine fr_ltM h (Q := fr F_Chron_happen s) (g.wI rfl) fun s1 gs1 h => ?_
  cases h; exact gs1
theorem fr_fChron_happen {s : ev_M} {a1 : Int32} {a2 : Int32} {a3 : Int32} {a4 : Int32} {q : ev_M} (h : fChron_happen s a1 a2 a3 a4 = some q) : fr F_Chron_happen s q := by
  have g : fr F_Chron_happen s s := fr.rf
  refine fr_bd1 h fun s2 hc h => ?_
  have gs2 := g.tr ((fr_fChron_keep hc).mono (F := F_Chron_happen) (by decide +kernel))
  refine fr_gd h fun c0 h => ?_
  refine fr_if h (fun h => ?_) fun h => ?_
  · cases h; exact gs2
  · refine fr_if h (fun h => ?_) fun h => ?_
    · refine fr_gd h fun c1 h => ?_
      refine fr_ltM h (Q := fr F_Chron_happen s) (gs2.wI rfl) fun s3 gs3 h => ?_
      refine fr_gd h fun c2 h => ?_
      refine fr_ltM h (Q := fr F_Chron_happen s) (gs3.wI rfl) fun s4 gs4 h => ?_
      refine fr_gd h fun c3 h => ?_
      refine fr_ltM h (Q := fr F_Chron_happen s) (gs4.wI rfl) fun s5 gs5 h => ?_
      refine fr_gd h fun c4 h => ?_
      refine fr_ltM h (Q := fr F_Chron_happen s) (gs5.wI rfl) fun s6 gs6 h => ?_
      exact gs6.tr ((fr_fChron_happen_b87 h))
    · exact gs2.tr ((fr_fChron_happen_b87 h))
def F_Items_come : List (Nat × (Nat × Nat)) := [(15, 15, 3), (15, 15, 8), (17, 17, 0), (18, 18, 0), (19, 19, 0), (20, 20, 0), (21, 21, 0), (22, 22, 0), (24, 24, 0), (25, 25, 0), (26, 26, 0), (27, 27, 0), (100, 100, 7), (102, 102, 0), (111, 111, 0), (116, 116, 0), (117, 117, 0), (119, 119, 0)]
theorem fr_fItems_come_b75 {s : ev_M} {x1 : Int32} {x2 : Int32} {q : ev_M} (h : fItems_come_b75 s x1 x2 = some q) : fr F_Items_come s q := by
  have g : fr F_Items_come s s := fr.rf
  refine fr_gd h fun c0 h => ?_
  refine fr_gd h fun c1 h => ?_
  refine fr_bd1 h fun s1 hc h => ?_
  have gs1 := g.tr ((fr_fChron_happen hc).mono (F := F_Items_come) (by decide +kernel))
  cases h; exact gs1
theorem fr_fItems_come_b49 {s : ev_M} {x1 : Int32} {x2 : Int32} {q : ev_M} (h : fItems_come_b49 s x1 x2 = some q) : fr F_Items_come s q := by
  have g : fr F_Items_come s s := fr.rf
  refine fr_if h (fun h => ?_) fun h => ?_
  · exact g.tr ((fr_fItems_come_b75 h))
  · refine fr_gd h fun c0 h => ?_
    refine fr_ltM h (Q := fr F_Items_come s) (g.wI rfl) fun s2 gs2 h => ?_
    refine fr_gd h fun c1 h => ?_
    refine fr_ltM h (Q := fr F_Items_come s) (gs2.wI rfl) fun s3 gs3 h => ?_
    exact gs3.tr ((fr_fItems_come_b75 h))
theorem fr_fItems_come_b34 {s : ev_M} {x1 : Int32} {x2 : Int32} {q : ev_M} (h : fItems_come_b34 s x1 x2 = some q) : fr F_Items_come s q := by
  have g : fr F_Items_come s s := fr.rf
  refine fr_if h (fun h => ?_) fun h => ?_
  · exact g.tr ((fr_fItems_come_b49 h))
  · refine fr_gd h fun c0 h => ?_
    refine fr_ltM h (Q := fr F_Items_come s) (g.wI rfl) fun s4 gs4 h => ?_
    exact gs4.tr ((fr_fItems_come_b49 h))
theorem fr_fItems_come {s : ev_M} {a1 : Int32} {a2 : Int32} {q : ev_M} (h : fItems_come s a1 a2 = some q) : fr F_Items_come s q := by
  have g : fr F_Items_come s s := fr.rf
  refine fr_gd h fun c0 h => ?_
  refine fr_ltM h (Q := fr F_Items_come s) (g.wI rfl) fun s5 gs5 h => ?_
  refine fr_if h (fun h => ?_) fun h => ?_
  · refine fr_ltM h (Q := fr F_Items_come s) (gs5.wI rfl) fun s6 gs6 h => ?_
    refine fr_gd h fun c1 h => ?_
    refine fr_ltM h (Q := fr F_Items_come s) (gs6.wI rfl) fun s7 gs7 h => ?_
    exact gs7.tr ((fr_fItems_come_b34 h))
  · exact gs5.tr ((fr_fItems_come_b34 h))
def F_Items_tell : List (Nat × (Nat × Nat)) := [(9, 9, 7), (9, 9, 8), (9, 9, 14), (13, 13, 0), (15, 15, 3), (15, 15, 8), (17, 17, 0), (18, 18, 0), (19, 19, 0), (20, 20, 0), (21, 21, 0), (22, 22, 0), (24, 24, 0), (25, 25, 0), (26, 26, 0), (27, 27, 0), (100, 100, 6), (100, 100, 7), (102, 102, 0), (102, 123, 0), (103, 103, 0), (104, 104, 0), (105, 105, 0), (106, 106, 0), (107, 107, 0), (108, 108, 0), (111, 111, 0), (112, 112, 0), (115, 115, 0), (116, 116, 0), (117, 117, 0), (119, 119, 0), (120, 120, 0), (121, 121, 0)]
theorem fr_fItems_tell_h138 : ∀ (n : Nat) {s : ev_M} {x1 : Int32} {x2 : Int32} {x3 : Int32} {x4 : Int32} {x5 : Int32} {x6 : Int32} {x8 : Int32} {x9 : Int32} {q : ev_M × Int32} , fItems_tell_h138 n s x1 x2 x3 x4 x5 x6 x8 x9 = some q → fr F_Items_tell s q.1 := by
  intro n
  induction n with
  | zero => intro s x1 x2 x3 x4 x5 x6 x8 x9 q h; cases h
  | succ n ih =>
    intro s x1 x2 x3 x4 x5 x6 x8 x9 q h
    have g : fr F_Items_tell s s := fr.rf
    refine fr_if h (fun h => ?_) fun h => ?_
    · refine fr_gd h fun c0 h => ?_
      refine fr_gd h fun c1 h => ?_
      refine fr_ltM h (Q := fr F_Items_tell s) (g.wI (inF_row (lo := 102) (hi := 123) rfl (Nat.le_add_right _ _) (by have := (inb_lt c0); omega))) fun s1 gs1 h => ?_
      exact gs1.tr ((ih h))
    · refine fr_gd h fun c0 h => ?_
      refine fr_ltM h (Q := fr F_Items_tell s) (g.wI rfl) fun s2 gs2 h => ?_
      refine fr_gd h fun c1 h => ?_
      refine fr_ltM h (Q := fr F_Items_tell s) (gs2.wI rfl) fun s3 gs3 h => ?_
      refine fr_gd h fun c2 h => ?_
      refine fr_ltM h (Q := fr F_Items_tell s) (gs3.wI rfl) fun s4 gs4 h => ?_
      refine fr_gd h fun c3 h => ?_
      refine fr_ltM h (Q := fr F_Items_tell s) (gs4.wI rfl) fun s5 gs5 h => ?_
      refine fr_gd h fun c4 h => ?_
      refine fr_ltM h (Q := fr F_Items_tell s) (gs5.wI rfl) fun s6 gs6 h => ?_
      refine fr_gd h fun c5 h => ?_
      refine fr_ltM h (Q := fr F_Items_tell s) (gs6.wI rfl) fun s7 gs7 h => ?_
      refine fr_gd h fun c6 h => ?_
      refine fr_ltM h (Q := fr F_Items_tell s) (gs7.wI rfl) fun s8 gs8 h => ?_
      refine fr_gd h fun c7 h => ?_
      refine fr_ltM h (Q := fr F_Items_tell s) (gs8.wI rfl) fun s9 gs9 h => ?_
      refine fr_gd h fun c8 h => ?_
      refine fr_ltM h (Q := fr F_Items_tell s) (gs9.wI rfl) fun s10 gs10 h => ?_
      refine fr_gd h fun c9 h => ?_
      refine fr_ltM h (Q := fr F_Items_tell s) (gs10.wI rfl) fun s11 gs11 h => ?_
      refine fr_bd1 h fun s12 hc h => ?_
      have gs12 := gs11.tr ((fr_fItems_come hc).mono (F := F_Items_tell) (by decide +kernel))
      cases h; exact gs12
theorem fr_fItems_tell_b99 {s : ev_M} {x1 : Int32} {x2 : Int32} {x3 : Int32} {x4 : Int32} {x5 : Int32} {x6 : Int32} {q : ev_M × Int32} (h : fItems_tell_b99 s x1 x2 x3 x4 x5 x6 = some q) : fr F_Items_tell s q.1 := by
  have g : fr F_Items_tell s s := fr.rf
  refine fr_if h (fun h => ?_) fun h => ?_
  · refine fr_bd2 h fun s13 v14 hc h => ?_
    have gs13 : fr F_Items_tell s s13 := g.tr ((fr_fLog_admits hc).mono (F := F_Items_tell) (by decide +kernel))
    refine fr_if h (fun h => ?_) fun h => ?_
    · cases h; exact gs13
    · refine fr_ltM h (Q := fr F_Items_tell s) (gs13.wI rfl) fun s15 gs15 h => ?_
      refine fr_ltI h fun v16 h => ?_
      exact gs15.tr ((fr_fItems_tell_h138 1048576 h))
  · cases h; exact g
theorem fr_fItems_tell_b70 {s : ev_M} {x1 : Int32} {x2 : Int32} {x3 : Int32} {x4 : Int32} {x5 : Int32} {x6 : Int32} {y0 : Int32} {q : ev_M × Int32} (h : fItems_tell_b70 s x1 x2 x3 x4 x5 x6 y0 = some q) : fr F_Items_tell s q.1 := by
  have g : fr F_Items_tell s s := fr.rf
  refine fr_if h (fun h => ?_) fun h => ?_
  · refine fr_if h (fun h => ?_) fun h => ?_
    · exact g.tr ((fr_fItems_tell_b99 h))
    · cases h; exact g
  · refine fr_bd1 h fun v17 hc h => ?_
    refine fr_if h (fun h => ?_) fun h => ?_
    · exact g.tr ((fr_fItems_tell_b99 h))
    · cases h; exact g
theorem fr_fItems_tell {s : ev_M} {a1 : Int32} {a2 : Int32} {a3 : Int32} {a4 : Int32} {a5 : Int32} {a6 : Int32} {q : ev_M × Int32} (h : fItems_tell s a1 a2 a3 a4 a5 a6 = some q) : fr F_Items_tell s q.1 := by
  have g : fr F_Items_tell s s := fr.rf
  refine fr_bd1 h fun v18 hc h => ?_
  refine fr_if h (fun h => ?_) fun h => ?_
  · cases h; exact g
  · refine fr_bd1 h fun v19 hc h => ?_
    refine fr_if h (fun h => ?_) fun h => ?_
    · refine fr_bd1 h fun v20 hc h => ?_
      refine fr_if h (fun h => ?_) fun h => ?_
      · refine fr_bd1 h fun v21 hc h => ?_
        refine fr_if h (fun h => ?_) fun h => ?_
        · refine fr_bd1 h fun v22 hc h => ?_
          refine fr_if h (fun h => ?_) fun h => ?_
          · refine fr_if h (fun h => ?_) fun h => ?_
            · exact g.tr ((fr_fItems_tell_b70 h))
            · exact g.tr ((fr_fItems_tell_b70 h))
          · cases h; exact g
        · cases h; exact g
      · cases h; exact g
    · cases h; exact g
def F_Items_fixAddress : List (Nat × (Nat × Nat)) := [(109, 109, 0), (115, 115, 0)]
theorem fr_fItems_fixAddress {s : ev_M} {a1 : Int32} {a2 : Int32} {q : ev_M} (h : fItems_fixAddress s a1 a2 = some q) : fr F_Items_fixAddress s q := by
  have g : fr F_Items_fixAddress s s := fr.rf
  refine fr_gd h fun c0 h => ?_
  refine fr_ltM h (Q := fr F_Items_fixAddress s) (g.wI rfl) fun s1 gs1 h => ?_
  refine fr_gd h fun c1 h => ?_
  refine fr_ltM h (Q := fr F_Items_fixAddress s) (gs1.wI rfl) fun s2 gs2 h => ?_
  cases h; exact gs2
def F_Items_setAddress : List (Nat × (Nat × Nat)) := [(9, 9, 7), (9, 9, 8), (9, 9, 14), (13, 13, 0), (109, 109, 0), (115, 115, 0)]
theorem fr_fItems_setAddress {s : ev_M} {a1 : Int32} {a2 : Int32} {q : ev_M × Int32} (h : fItems_setAddress s a1 a2 = some q) : fr F_Items_setAddress s q.1 := by
  have g : fr F_Items_setAddress s s := fr.rf
  refine fr_bd1 h fun v1 hc h => ?_
  refine fr_if h (fun h => ?_) fun h => ?_
  · cases h; exact g
  · refine fr_bd1 h fun v2 hc h => ?_
    refine fr_if h (fun h => ?_) fun h => ?_
    · cases h; exact g
    · refine fr_gd h fun c0 h => ?_
      refine fr_if h (fun h => ?_) fun h => ?_
      · refine fr_bd1 h fun v3 hc h => ?_
        refine fr_if h (fun h => ?_) fun h => ?_
        · cases h; exact g
        · refine fr_bd2 h fun s4 v5 hc h => ?_
          have gs4 : fr F_Items_setAddress s s4 := g.tr ((fr_fLog_admits hc).mono (F := F_Items_setAddress) (by decide +kernel))
          refine fr_if h (fun h => ?_) fun h => ?_
          · cases h; exact gs4
          · refine fr_bd1 h fun s6 hc h => ?_
            have gs6 := gs4.tr ((fr_fItems_fixAddress hc).mono (F := F_Items_setAddress) (by decide +kernel))
            cases h; exact gs6
      · cases h; exact g
def F_Items_takeReading : List (Nat × (Nat × Nat)) := [(9, 9, 7), (9, 9, 8), (9, 9, 14), (13, 13, 0), (109, 109, 0), (115, 115, 0)]
theorem fr_fItems_takeReading {s : ev_M} {a1 : Int32} {q : ev_M × Int32} (h : fItems_takeReading s a1 = some q) : fr F_Items_takeReading s q.1 := by
  have g : fr F_Items_takeReading s s := fr.rf
  refine fr_bd1 h fun v1 hc h => ?_
  refine fr_if h (fun h => ?_) fun h => ?_
  · cases h; exact g
  · refine fr_if h (fun h => ?_) fun h => ?_
    · cases h; exact g
    · refine fr_gd h fun c0 h => ?_
      refine fr_if h (fun h => ?_) fun h => ?_
      · refine fr_gd h fun c1 h => ?_
        refine fr_if h (fun h => ?_) fun h => ?_
        · refine fr_bd1 h fun v2 hc h => ?_
          refine fr_if h (fun h => ?_) fun h => ?_
          · cases h; exact g
          · refine fr_bd2 h fun s3 v4 hc h => ?_
            have gs3 : fr F_Items_takeReading s s3 := g.tr ((fr_fLog_admits hc).mono (F := F_Items_takeReading) (by decide +kernel))
            refine fr_if h (fun h => ?_) fun h => ?_
            · cases h; exact gs3
            · refine fr_if h (fun h => ?_) fun h => ?_
              · refine fr_gd h fun c2 h => ?_
                refine fr_ltM h (Q := fr F_Items_takeReading s) (gs3.wI rfl) fun s5 gs5 h => ?_
                cases h; exact gs5
              · refine fr_bd1 h fun s6 hc h => ?_
                have gs6 := gs3.tr ((fr_fItems_fixAddress hc).mono (F := F_Items_takeReading) (by decide +kernel))
                cases h; exact gs6
        · cases h; exact g
      · cases h; exact g
def F_Items_hearClerk : List (Nat × (Nat × Nat)) := [(9, 9, 7), (9, 9, 8), (9, 9, 14), (13, 13, 0), (102, 123, 0), (109, 109, 0), (115, 115, 0), (121, 121, 0)]
theorem fr_fItems_hearClerk_b185 {s : ev_M} {x1 : Int32} {q : ev_M × Int32} (h : fItems_hearClerk_b185 s x1 = some q) : fr F_Items_hearClerk s q.1 := by
  have g : fr F_Items_hearClerk s s := fr.rf
  refine fr_gd h fun c0 h => ?_
  refine fr_ltM h (Q := fr F_Items_hearClerk s) (g.wI rfl) fun s1 gs1 h => ?_
  cases h; exact gs1
theorem fr_fItems_hearClerk_b213 {s : ev_M} {x1 : Int32} {x3 : Int32} {y1 : Int32} {q : ev_M × Int32} (h : fItems_hearClerk_b213 s x1 x3 y1 = some q) : fr F_Items_hearClerk s q.1 := by
  have g : fr F_Items_hearClerk s s := fr.rf
  refine fr_gd h fun c0 h => ?_
  refine fr_gd h fun c1 h => ?_
  refine fr_ltM h (Q := fr F_Items_hearClerk s) (g.wI (inF_row (lo := 102) (hi := 123) rfl (Nat.le_add_right _ _) (by have := (inb_lt c0); omega))) fun s2 gs2 h => ?_
  cases h; exact gs2
theorem fr_fItems_hearClerk_b174 {s : ev_M} {x1 : Int32} {x3 : Int32} {x5 : Int32} {x6 : Int32} {q : ev_M × Int32} (h : fItems_hearClerk_b174 s x1 x3 x5 x6 = some q) : fr F_Items_hearClerk s q.1 := by
  have g : fr F_Items_hearClerk s s := fr.rf
  refine fr_if h (fun h => ?_) fun h => ?_
  · refine fr_if h (fun h => ?_) fun h => ?_
    · refine fr_if h (fun h => ?_) fun h => ?_
      · exact g.tr ((fr_fItems_hearClerk_b213 h))
      · exact g.tr ((fr_fItems_hearClerk_b213 h))
    · exact g.tr ((fr_fItems_hearClerk_b185 h))
  · exact g.tr ((fr_fItems_hearClerk_b185 h))
theorem fr_fItems_hearClerk_b139 {s : ev_M} {x1 : Int32} {x2 : Int32} {x3 : Int32} {x4 : Int32} {x5 : Int32} {y0 : Int32} {q : ev_M × Int32} (h : fItems_hearClerk_b139 s x1 x2 x3 x4 x5 y0 = some q) : fr F_Items_hearClerk s q.1 := by
  have g : fr F_Items_hearClerk s s := fr.rf
  refine fr_gd h fun c0 h => ?_
  refine fr_ltM h (Q := fr F_Items_hearClerk s) (g.wI rfl) fun s3 gs3 h => ?_
  refine fr_if h (fun h => ?_) fun h => ?_
  · exact gs3.tr ((fr_fItems_hearClerk_b174 h))
  · refine fr_if h (fun h => ?_) fun h => ?_
    · exact gs3.tr ((fr_fItems_hearClerk_b174 h))
    · refine fr_bd1 h fun s4 hc h => ?_
      have gs4 := gs3.tr ((fr_fItems_fixAddress hc).mono (F := F_Items_hearClerk) (by decide +kernel))
      cases h; exact gs4
theorem fr_fItems_hearClerk_b134 {s : ev_M} {x1 : Int32} {x2 : Int32} {x3 : Int32} {x4 : Int32} {x5 : Int32} {q : ev_M × Int32} (h : fItems_hearClerk_b134 s x1 x2 x3 x4 x5 = some q) : fr F_Items_hearClerk s q.1 := by
  have g : fr F_Items_hearClerk s s := fr.rf
  exact g.tr ((fr_fItems_hearClerk_b139 h))
theorem fr_fItems_hearClerk_b138 {s : ev_M} {x1 : Int32} {x2 : Int32} {x3 : Int32} {x4 : Int32} {x5 : Int32} {q : ev_M × Int32} (h : fItems_hearClerk_b138 s x1 x2 x3 x4 x5 = some q) : fr F_Items_hearClerk s q.1 := by
  have g : fr F_Items_hearClerk s s := fr.rf
  exact g.tr ((fr_fItems_hearClerk_b139 h))
theorem fr_fItems_hearClerk_b115 {s : ev_M} {x1 : Int32} {x2 : Int32} {x3 : Int32} {x4 : Int32} {x5 : Int32} {q : ev_M × Int32} (h : fItems_hearClerk_b115 s x1 x2 x3 x4 x5 = some q) : fr F_Items_hearClerk s q.1 := by
  have g : fr F_Items_hearClerk s s := fr.rf
  refine fr_if h (fun h => ?_) fun h => ?_
  · exact g.tr ((fr_fItems_hearClerk_b138 h))
  · refine fr_gd h fun c0 h => ?_
    refine fr_if h (fun h => ?_) fun h => ?_
    · exact g.tr ((fr_fItems_hearClerk_b134 h))
    · exact g.tr ((fr_fItems_hearClerk_b138 h))
theorem fr_fItems_hearClerk_b27 {s : ev_M} {x1 : Int32} {x2 : Int32} {x3 : Int32} {q : ev_M × Int32} (h : fItems_hearClerk_b27 s x1 x2 x3 = some q) : fr F_Items_hearClerk s q.1 := by
  have g : fr F_Items_hearClerk s s := fr.rf
  refine fr_bd1 h fun v5 hc h => ?_
  refine fr_if h (fun h => ?_) fun h => ?_
  · refine fr_gd h fun c0 h => ?_
    refine fr_ltI h fun v6 h => ?_
    refine fr_gd h fun c1 h => ?_
    refine fr_if h (fun h => ?_) fun h => ?_
    · refine fr_if h (fun h => ?_) fun h => ?_
      · refine fr_bd2 h fun s7 v8 hc h => ?_
        have gs7 : fr F_Items_hearClerk s s7 := g.tr ((fr_fLog_admits hc).mono (F := F_Items_hearClerk) (by decide +kernel))
        refine fr_if h (fun h => ?_) fun h => ?_
        · cases h; exact gs7
        · refine fr_bd1 h fun v9 hc h => ?_
          refine fr_if h (fun h => ?_) fun h => ?_
          · exact gs7.tr ((fr_fItems_hearClerk_b115 h))
          · refine fr_gd h fun c2 h => ?_
            refine fr_if h (fun h => ?_) fun h => ?_
            · exact gs7.tr ((fr_fItems_hearClerk_b134 h))
            · exact gs7.tr ((fr_fItems_hearClerk_b115 h))
      · cases h; exact g
    · cases h; exact g
  · cases h; exact g
theorem fr_fItems_hearClerk {s : ev_M} {a1 : Int32} {a2 : Int32} {a3 : Int32} {q : ev_M × Int32} (h : fItems_hearClerk s a1 a2 a3 = some q) : fr F_Items_hearClerk s q.1 := by
  have g : fr F_Items_hearClerk s s := fr.rf
  refine fr_bd1 h fun v10 hc h => ?_
  refine fr_if h (fun h => ?_) fun h => ?_
  · cases h; exact g
  · refine fr_if h (fun h => ?_) fun h => ?_
    · exact g.tr ((fr_fItems_hearClerk_b27 h))
    · refine fr_bd1 h fun v11 hc h => ?_
      refine fr_if h (fun h => ?_) fun h => ?_
      · cases h; exact g
      · exact g.tr ((fr_fItems_hearClerk_b27 h))
def F_Items_comeInAt : List (Nat × (Nat × Nat)) := [(15, 15, 3), (15, 15, 8), (17, 17, 0), (18, 18, 0), (19, 19, 0), (20, 20, 0), (21, 21, 0), (22, 22, 0), (24, 24, 0), (25, 25, 0), (26, 26, 0), (27, 27, 0), (100, 100, 7), (102, 102, 0), (110, 110, 0), (111, 111, 0), (116, 116, 0), (117, 117, 0), (119, 119, 0)]
theorem fr_fItems_comeInAt {s : ev_M} {a1 : Int32} {a2 : Int32} {q : ev_M} (h : fItems_comeInAt s a1 a2 = some q) : fr F_Items_comeInAt s q := by
  have g : fr F_Items_comeInAt s s := fr.rf
  refine fr_gd h fun c0 h => ?_
  refine fr_ltM h (Q := fr F_Items_comeInAt s) (g.wI rfl) fun s1 gs1 h => ?_
  refine fr_bd1 h fun s2 hc h => ?_
  have gs2 := gs1.tr ((fr_fItems_come hc).mono (F := F_Items_comeInAt) (by decide +kernel))
  cases h; exact gs2
def F_Items_postAt : List (Nat × (Nat × Nat)) := [(9, 9, 7), (9, 9, 8), (9, 9, 14), (13, 13, 0), (15, 15, 3), (15, 15, 8), (17, 17, 0), (18, 18, 0), (19, 19, 0), (20, 20, 0), (21, 21, 0), (22, 22, 0), (24, 24, 0), (25, 25, 0), (26, 26, 0), (27, 27, 0), (100, 100, 7), (102, 102, 0), (110, 110, 0), (111, 111, 0), (116, 116, 0), (117, 117, 0), (119, 119, 0)]
theorem fr_fItems_postAt {s : ev_M} {a1 : Int32} {a2 : Int32} {q : ev_M × Int32} (h : fItems_postAt s a1 a2 = some q) : fr F_Items_postAt s q.1 := by
  have g : fr F_Items_postAt s s := fr.rf
  refine fr_bd1 h fun v1 hc h => ?_
  refine fr_if h (fun h => ?_) fun h => ?_
  · cases h; exact g
  · refine fr_bd1 h fun v2 hc h => ?_
    refine fr_if h (fun h => ?_) fun h => ?_
    · cases h; exact g
    · refine fr_bd1 h fun v3 hc h => ?_
      refine fr_if h (fun h => ?_) fun h => ?_
      · cases h; exact g
      · refine fr_bd2 h fun s4 v5 hc h => ?_
        have gs4 : fr F_Items_postAt s s4 := g.tr ((fr_fLog_admits hc).mono (F := F_Items_postAt) (by decide +kernel))
        refine fr_if h (fun h => ?_) fun h => ?_
        · cases h; exact gs4
        · refine fr_bd1 h fun s6 hc h => ?_
          have gs6 := gs4.tr ((fr_fItems_comeInAt hc).mono (F := F_Items_postAt) (by decide +kernel))
          cases h; exact gs6
def F_Rounds_setMachine : List (Nat × (Nat × Nat)) := [(9, 9, 7), (9, 9, 8), (9, 9, 14), (13, 13, 0), (172, 172, 0)]
theorem fr_fRounds_setMachine {s : ev_M} {a1 : Int32} {a2 : Int32} {a3 : Int32} {a4 : Int32} {q : ev_M × Int32} (h : fRounds_setMachine s a1 a2 a3 a4 = some q) : fr F_Rounds_setMachine s q.1 := by
  have g : fr F_Rounds_setMachine s s := fr.rf
  refine fr_bd1 h fun v1 hc h => ?_
  refine fr_if h (fun h => ?_) fun h => ?_
  · refine fr_bd1 h fun v2 hc h => ?_
    refine fr_if h (fun h => ?_) fun h => ?_
    · refine fr_bd1 h fun v3 hc h => ?_
      refine fr_if h (fun h => ?_) fun h => ?_
      · refine fr_bd1 h fun v4 hc h => ?_
        refine fr_if h (fun h => ?_) fun h => ?_
        · refine fr_bd2 h fun s5 v6 hc h => ?_
          have gs5 : fr F_Rounds_setMachine s s5 := g.tr ((fr_fLog_admits hc).mono (F := F_Rounds_setMachine) (by decide +kernel))
          refine fr_if h (fun h => ?_) fun h => ?_
          · cases h; exact gs5
          · refine fr_ltM h (Q := fr F_Rounds_setMachine s) (gs5.wI rfl) fun s7 gs7 h => ?_
            refine fr_ltM h (Q := fr F_Rounds_setMachine s) (gs7.wI rfl) fun s8 gs8 h => ?_
            refine fr_ltM h (Q := fr F_Rounds_setMachine s) (gs8.wI rfl) fun s9 gs9 h => ?_
            refine fr_ltM h (Q := fr F_Rounds_setMachine s) (gs9.wI rfl) fun s10 gs10 h => ?_
            cases h; exact gs10
        · cases h; exact g
      · cases h; exact g
    · cases h; exact g
  · cases h; exact g
def F_Rounds_make : List (Nat × (Nat × Nat)) := [(9, 9, 7), (9, 9, 8), (9, 9, 14), (13, 13, 0), (138, 138, 4), (140, 140, 0), (141, 141, 0), (142, 142, 0), (143, 143, 0), (144, 144, 0)]
theorem fr_fRounds_make {s : ev_M} {a1 : Int32} {a2 : Int32} {a3 : Int32} {q : ev_M × Int32} (h : fRounds_make s a1 a2 a3 = some q) : fr F_Rounds_make s q.1 := by
  have g : fr F_Rounds_make s s := fr.rf
  refine fr_bd1 h fun v1 hc h => ?_
  refine fr_if h (fun h => ?_) fun h => ?_
  · cases h; exact g
  · refine fr_bd1 h fun v2 hc h => ?_
    refine fr_if h (fun h => ?_) fun h => ?_
    · refine fr_bd1 h fun v3 hc h => ?_
      refine fr_if h (fun h => ?_) fun h => ?_
      · refine fr_if h (fun h => ?_) fun h => ?_
        · refine fr_bd2 h fun s4 v5 hc h => ?_
          have gs4 : fr F_Rounds_make s s4 := g.tr ((fr_fLog_admits hc).mono (F := F_Rounds_make) (by decide +kernel))
          refine fr_if h (fun h => ?_) fun h => ?_
          · cases h; exact gs4
          · refine fr_gd h fun c0 h => ?_
            refine fr_ltM h (Q := fr F_Rounds_make s) (gs4.wI rfl) fun s6 gs6 h => ?_
            refine fr_gd h fun c1 h => ?_
            refine fr_ltM h (Q := fr F_Rounds_make s) (gs6.wI rfl) fun s7 gs7 h => ?_
            refine fr_gd h fun c2 h => ?_
            refine fr_ltM h (Q := fr F_Rounds_make s) (gs7.wI rfl) fun s8 gs8 h => ?_
            refine fr_gd h fun c3 h => ?_
            refine fr_ltM h (Q := fr F_Rounds_make s) (gs8.wI rfl) fun s9 gs9 h => ?_
            refine fr_gd h fun c4 h => ?_
            refine fr_ltM h (Q := fr F_Rounds_make s) (gs9.wI rfl) fun s10 gs10 h => ?_
            refine fr_ltM h (Q := fr F_Rounds_make s) (gs10.wI rfl) fun s11 gs11 h => ?_
            cases h; exact gs11
        · cases h; exact g
      · cases h; exact g
    · cases h; exact g
def F_Rounds_addStop : List (Nat × (Nat × Nat)) := [(9, 9, 7), (9, 9, 8), (9, 9, 14), (13, 13, 0), (143, 143, 0), (146, 157, 0), (158, 158, 0)]
theorem fr_fRounds_addStop {s : ev_M} {a1 : Int32} {a2 : Int32} {q : ev_M × Int32} (h : fRounds_addStop s a1 a2 = some q) : fr F_Rounds_addStop s q.1 := by
  have g : fr F_Rounds_addStop s s := fr.rf
  refine fr_bd1 h fun v1 hc h => ?_
  refine fr_if h (fun h => ?_) fun h => ?_
  · cases h; exact g
  · refine fr_bd1 h fun v2 hc h => ?_
    refine fr_if h (fun h => ?_) fun h => ?_
    · cases h; exact g
    · refine fr_bd1 h fun v3 hc h => ?_
      refine fr_gd h fun c0 h => ?_
      refine fr_if h (fun h => ?_) fun h => ?_
      · refine fr_gd h fun c1 h => ?_
        refine fr_if h (fun h => ?_) fun h => ?_
        · refine fr_gd h fun c2 h => ?_
          refine fr_if h (fun h => ?_) fun h => ?_
          · refine fr_bd2 h fun s4 v5 hc h => ?_
            have gs4 : fr F_Rounds_addStop s s4 := g.tr ((fr_fLog_admits hc).mono (F := F_Rounds_addStop) (by decide +kernel))
            refine fr_if h (fun h => ?_) fun h => ?_
            · cases h; exact gs4
            · refine fr_gd h fun c3 h => ?_
              refine fr_ltM h (Q := fr F_Rounds_addStop s) (gs4.wI rfl) fun s6 gs6 h => ?_
              refine fr_gd h fun c4 h => ?_
              refine fr_gd h fun c5 h => ?_
              refine fr_gd h fun c6 h => ?_
              refine fr_ltM h (Q := fr F_Rounds_addStop s) (gs6.wI rfl) fun s7 gs7 h => ?_
              refine fr_gd h fun c7 h => ?_
              refine fr_ltM h (Q := fr F_Rounds_addStop s) (gs7.wI (inF_row (lo := 146) (hi := 157) rfl (Nat.le_add_right _ _) (by have := (inb_lt c6); omega))) fun s8 gs8 h => ?_
              refine fr_gd h fun c8 h => ?_
              cases h; exact gs8
          · cases h; exact g
        · cases h; exact g
      · cases h; exact g
def F_Rounds_measure : List (Nat × (Nat × Nat)) := [(183, 191, 0)]
theorem fr_fRounds_measure_h47 {k2 : ev_M → Int32 → Int32 → Int32 → Option ev_M} (hk2 : ∀ {s : ev_M} {z1 : Int32} {z2 : Int32} {z3 : Int32} {q : ev_M} , k2 s z1 z2 z3 = some q → fr F_Rounds_measure s q) : ∀ (n : Nat) {s : ev_M} {x1 : Int32} {x2 : Int32} {x3 : Int32} {x4 : Int32} {q : ev_M} , fRounds_measure_h47 k2 n s x1 x2 x3 x4 = some q → fr F_Rounds_measure s q := by
  intro n
  induction n with
  | zero => intro s x1 x2 x3 x4 q h; cases h
  | succ n ih =>
    intro s x1 x2 x3 x4 q h
    have g : fr F_Rounds_measure s s := fr.rf
    refine fr_if h (fun h => ?_) fun h => ?_
    · refine fr_gd h fun c0 h => ?_
      refine fr_gd h fun c1 h => ?_
      refine fr_gd h fun c2 h => ?_
      refine fr_gd h fun c3 h => ?_
      refine fr_gd h fun c4 h => ?_
      refine fr_bd1 h fun v1 hc h => ?_
      refine fr_gd h fun c5 h => ?_
      refine fr_ltM h (Q := fr F_Rounds_measure s) (g.wI (inF_row (lo := 183) (hi := 191) rfl (Nat.le_add_right _ _) (by have := (inb_lt c0); omega))) fun s2 gs2 h => ?_
      exact gs2.tr ((ih h))
    · exact g.tr ((hk2 h))
theorem fr_fRounds_measure_h2 : ∀ (n : Nat) {s : ev_M} {x1 : Int32} {x2 : Int32} {x3 : Int32} {q : ev_M} , fRounds_measure_h2 n s x1 x2 x3 = some q → fr F_Rounds_measure s q := by
  intro n
  induction n with
  | zero => intro s x1 x2 x3 q h; cases h
  | succ n ih =>
    intro s x1 x2 x3 q h
    have g : fr F_Rounds_measure s s := fr.rf
    refine fr_if h (fun h => ?_) fun h => ?_
    · refine fr_gd h fun c0 h => ?_
      refine fr_gd h fun c1 h => ?_
      refine fr_gd h fun c2 h => ?_
      refine fr_bd1 h fun v3 hc h => ?_
      refine fr_gd h fun c3 h => ?_
      refine fr_ltM h (Q := fr F_Rounds_measure s) (g.wI (inF_row (lo := 183) (hi := 191) rfl (Nat.le_add_right _ _) (by have := (inb_lt c0); omega))) fun s4 gs4 h => ?_
      refine fr_gd h fun c4 h => ?_
      refine fr_gd h fun c5 h => ?_
      refine fr_gd h fun c6 h => ?_
      refine fr_gd h fun c7 h => ?_
      refine fr_ltM h (Q := fr F_Rounds_measure s) (gs4.wI (inF_row (lo := 183) (hi := 191) rfl (Nat.le_add_right _ _) (by have := (inb_lt c6); omega))) fun s5 gs5 h => ?_
      exact gs5.tr ((fr_fRounds_measure_h47 ih 1048576 h))
    · cases h; exact g
theorem fr_fRounds_measure {s : ev_M} {a1 : Int32} {a2 : Int32} {q : ev_M} (h : fRounds_measure s a1 a2 = some q) : fr F_Rounds_measure s q := by
  have g : fr F_Rounds_measure s s := fr.rf
  exact g.tr ((fr_fRounds_measure_h2 1048576 h))
def F_Rounds_goLeastWay : List (Nat × (Nat × Nat)) := [(146, 157, 0), (175, 175, 0), (183, 191, 0), (193, 448, 0)]
theorem fr_fRounds_goLeastWay_b94 {k17 : ev_M → Int32 → Int32 → Int32 → Option ev_M} {k27 : ev_M → Int32 → Int32 → Int32 → Int32 → Option ev_M} (hk17 : ∀ {s : ev_M} {z1 : Int32} {z2 : Int32} {z3 : Int32} {q : ev_M} , k17 s z1 z2 z3 = some q → fr F_Rounds_goLeastWay s q) (hk27 : ∀ {s : ev_M} {z1 : Int32} {z2 : Int32} {z3 : Int32} {z4 : Int32} {q : ev_M} , k27 s z1 z2 z3 z4 = some q → fr F_Rounds_goLeastWay s q) {s : ev_M} {x1 : Int32} {x2 : Int32} {x3 : Int32} {x4 : Int32} {m0 : Nat} {y1 : Int32} {y2 : Int32} {q : ev_M} (bm0 : m0 < 256) (h : fRounds_goLeastWay_b94 k17 k27 s x1 x2 x3 x4 m0 y1 y2 = some q) : fr F_Rounds_goLeastWay s q := by
  have g : fr F_Rounds_goLeastWay s s := fr.rf
  refine fr_gd h fun c0 h => ?_
  refine fr_ltM h (Q := fr F_Rounds_goLeastWay s) (g.wI (inF_row (lo := 193) (hi := 448) rfl (Nat.le_add_right _ _) (by have := bm0; omega))) fun s1 gs1 h => ?_
  exact gs1.tr ((hk27 h))
theorem fr_fRounds_goLeastWay_h27 {k17 : ev_M → Int32 → Int32 → Int32 → Option ev_M} (hk17 : ∀ {s : ev_M} {z1 : Int32} {z2 : Int32} {z3 : Int32} {q : ev_M} , k17 s z1 z2 z3 = some q → fr F_Rounds_goLeastWay s q) : ∀ (n : Nat) {s : ev_M} {x1 : Int32} {x2 : Int32} {x3 : Int32} {x4 : Int32} {q : ev_M} , fRounds_goLeastWay_h27 k17 n s x1 x2 x3 x4 = some q → fr F_Rounds_goLeastWay s q := by
  intro n
  induction n with
  | zero => intro s x1 x2 x3 x4 q h; cases h
  | succ n ih =>
    intro s x1 x2 x3 x4 q h
    have g : fr F_Rounds_goLeastWay s s := fr.rf
    refine fr_if h (fun h => ?_) fun h => ?_
    · refine fr_bd1 h fun v2 hc h => ?_
      refine fr_gd h fun c0 h => ?_
      refine fr_if h (fun h => ?_) fun h => ?_
      · refine fr_gd h fun c1 h => ?_
        refine fr_gd h fun c2 h => ?_
        exact g.tr ((fr_fRounds_goLeastWay_b94 hk17 ih (inb_lt c0) h))
      · refine fr_gd h fun c1 h => ?_
        refine fr_gd h fun c2 h => ?_
        refine fr_gd h fun c3 h => ?_
        refine fr_gd h fun c4 h => ?_
        exact g.tr ((fr_fRounds_goLeastWay_b94 hk17 ih (inb_lt c0) h))
    · exact g.tr ((hk17 h))
theorem fr_fRounds_goLeastWay_h119 : ∀ (n : Nat) {s : ev_M} {x1 : Int32} {x2 : Int32} {x3 : Int32} {x4 : Int32} {x5 : Int32} {q : ev_M} , fRounds_goLeastWay_h119 n s x1 x2 x3 x4 x5 = some q → fr F_Rounds_goLeastWay s q := by
  intro n
  induction n with
  | zero => intro s x1 x2 x3 x4 x5 q h; cases h
  | succ n ih =>
    intro s x1 x2 x3 x4 x5 q h
    have g : fr F_Rounds_goLeastWay s s := fr.rf
    refine fr_if h (fun h => ?_) fun h => ?_
    · refine fr_bd1 h fun v3 hc h => ?_
      refine fr_if h (fun h => ?_) fun h => ?_
      · cases h; exact g
      · refine fr_ltI h fun v4 h => ?_
        refine fr_gd h fun c0 h => ?_
        refine fr_gd h fun c1 h => ?_
        refine fr_gd h fun c2 h => ?_
        refine fr_ltM h (Q := fr F_Rounds_goLeastWay s) (g.wI rfl) fun s5 gs5 h => ?_
        exact gs5.tr ((ih h))
    · refine fr_gd h fun c0 h => ?_
      refine fr_bd1 h fun s6 hc h => ?_
      have gs6 := g.tr (fr_acp (F := F_Rounds_goLeastWay) (fun _ => inF_row (lo := 146) (hi := 157) rfl (Nat.le_add_right _ _) (by have := (inb_lt c0); omega)) hc)
      cases h; exact gs6
theorem fr_fRounds_goLeastWay_h17 : ∀ (n : Nat) {s : ev_M} {x1 : Int32} {x2 : Int32} {x3 : Int32} {q : ev_M} , fRounds_goLeastWay_h17 n s x1 x2 x3 = some q → fr F_Rounds_goLeastWay s q := by
  intro n
  induction n with
  | zero => intro s x1 x2 x3 q h; cases h
  | succ n ih =>
    intro s x1 x2 x3 q h
    have g : fr F_Rounds_goLeastWay s s := fr.rf
    refine fr_if h (fun h => ?_) fun h => ?_
    · exact g.tr ((fr_fRounds_goLeastWay_h27 ih 1048576 h))
    · refine fr_ltI h fun v7 h => ?_
      exact g.tr ((fr_fRounds_goLeastWay_h119 1048576 h))
theorem fr_fRounds_goLeastWay {s : ev_M} {a1 : Int32} {q : ev_M} (h : fRounds_goLeastWay s a1 = some q) : fr F_Rounds_goLeastWay s q := by
  have g : fr F_Rounds_goLeastWay s s := fr.rf
  refine fr_gd h fun c0 h => ?_
  refine fr_ltI h fun v8 h => ?_
  refine fr_bd1 h fun s9 hc h => ?_
  have gs9 := g.tr ((fr_fRounds_measure hc).mono (F := F_Rounds_goLeastWay) (by decide +kernel))
  exact gs9.tr ((fr_fRounds_goLeastWay_h17 1048576 h))
def F_Rounds_goToNearest : List (Nat × (Nat × Nat)) := [(146, 157, 0)]
theorem fr_fRounds_goToNearest_b90 {k9 : ev_M → Int32 → Nat → Int32 → Option ev_M} {k31 : ev_M → Int32 → Nat → Int32 → Int32 → Int32 → Int32 → Option ev_M} (hk9 : ∀ {s : ev_M} {z1 : Int32} {z2 : Nat} {z3 : Int32} {q : ev_M} (bz2 : z2 < 12) , k9 s z1 z2 z3 = some q → fr F_Rounds_goToNearest s q) (hk31 : ∀ {s : ev_M} {z1 : Int32} {z2 : Nat} {z3 : Int32} {z4 : Int32} {z5 : Int32} {z6 : Int32} {q : ev_M} (bz2 : z2 < 12) , k31 s z1 z2 z3 z4 z5 z6 = some q → fr F_Rounds_goToNearest s q) {s : ev_M} {x1 : Int32} {i2 : Nat} {x3 : Int32} {x4 : Int32} {x5 : Int32} {x6 : Int32} {q : ev_M} (bi2 : i2 < 12) (h : fRounds_goToNearest_b90 k9 k31 s x1 i2 x3 x4 x5 x6 = some q) : fr F_Rounds_goToNearest s q := by
  have g : fr F_Rounds_goToNearest s s := fr.rf
  exact g.tr ((hk31 bi2 h))
theorem fr_fRounds_goToNearest_b73 {k9 : ev_M → Int32 → Nat → Int32 → Option ev_M} {k31 : ev_M → Int32 → Nat → Int32 → Int32 → Int32 → Int32 → Option ev_M} (hk9 : ∀ {s : ev_M} {z1 : Int32} {z2 : Nat} {z3 : Int32} {q : ev_M} (bz2 : z2 < 12) , k9 s z1 z2 z3 = some q → fr F_Rounds_goToNearest s q) (hk31 : ∀ {s : ev_M} {z1 : Int32} {z2 : Nat} {z3 : Int32} {z4 : Int32} {z5 : Int32} {z6 : Int32} {q : ev_M} (bz2 : z2 < 12) , k31 s z1 z2 z3 z4 z5 z6 = some q → fr F_Rounds_goToNearest s q) {s : ev_M} {x1 : Int32} {i2 : Nat} {x3 : Int32} {x4 : Int32} {x5 : Int32} {x6 : Int32} {y0 : Int32} {q : ev_M} (bi2 : i2 < 12) (h : fRounds_goToNearest_b73 k9 k31 s x1 i2 x3 x4 x5 x6 y0 = some q) : fr F_Rounds_goToNearest s q := by
  have g : fr F_Rounds_goToNearest s s := fr.rf
  refine fr_if h (fun h => ?_) fun h => ?_
  · exact g.tr ((fr_fRounds_goToNearest_b90 hk9 hk31 bi2 h))
  · exact g.tr ((fr_fRounds_goToNearest_b90 hk9 hk31 bi2 h))
theorem fr_fRounds_goToNearest_h106 {k9 : ev_M → Int32 → Nat → Int32 → Option ev_M} (hk9 : ∀ {s : ev_M} {z1 : Int32} {z2 : Nat} {z3 : Int32} {q : ev_M} (bz2 : z2 < 12) , k9 s z1 z2 z3 = some q → fr F_Rounds_goToNearest s q) : ∀ (n : Nat) {s : ev_M} {x1 : Int32} {i2 : Nat} {x3 : Int32} {x6 : Int32} {x7 : Int32} {q : ev_M} (bi2 : i2 < 12) , fRounds_goToNearest_h106 k9 n s x1 i2 x3 x6 x7 = some q → fr F_Rounds_goToNearest s q := by
  intro n
  induction n with
  | zero => intro s x1 i2 x3 x6 x7 q bi2 h; cases h
  | succ n ih =>
    intro s x1 i2 x3 x6 x7 q bi2 h
    have g : fr F_Rounds_goToNearest s s := fr.rf
    refine fr_if h (fun h => ?_) fun h => ?_
    · refine fr_gd h fun c0 h => ?_
      refine fr_ltM h (Q := fr F_Rounds_goToNearest s) (g.wI (inF_row (lo := 146) (hi := 157) rfl (Nat.le_add_right _ _) (by have := bi2; omega))) fun s1 gs1 h => ?_
      exact gs1.tr ((hk9 bi2 h))
    · refine fr_gd h fun c0 h => ?_
      refine fr_gd h fun c1 h => ?_
      refine fr_ltM h (Q := fr F_Rounds_goToNearest s) (g.wI (inF_row (lo := 146) (hi := 157) rfl (Nat.le_add_right _ _) (by have := bi2; omega))) fun s2 gs2 h => ?_
      exact gs2.tr ((ih bi2 h))
theorem fr_fRounds_goToNearest_h31 {k9 : ev_M → Int32 → Nat → Int32 → Option ev_M} (hk9 : ∀ {s : ev_M} {z1 : Int32} {z2 : Nat} {z3 : Int32} {q : ev_M} (bz2 : z2 < 12) , k9 s z1 z2 z3 = some q → fr F_Rounds_goToNearest s q) : ∀ (n : Nat) {s : ev_M} {x1 : Int32} {i2 : Nat} {x3 : Int32} {x4 : Int32} {x5 : Int32} {x6 : Int32} {q : ev_M} (bi2 : i2 < 12) , fRounds_goToNearest_h31 k9 n s x1 i2 x3 x4 x5 x6 = some q → fr F_Rounds_goToNearest s q := by
  intro n
  induction n with
  | zero => intro s x1 i2 x3 x4 x5 x6 q bi2 h; cases h
  | succ n ih =>
    intro s x1 i2 x3 x4 x5 x6 q bi2 h
    have g : fr F_Rounds_goToNearest s s := fr.rf
    refine fr_gd h fun c0 h => ?_
    refine fr_if h (fun h => ?_) fun h => ?_
    · refine fr_if h (fun h => ?_) fun h => ?_
      · refine fr_gd h fun c1 h => ?_
        refine fr_bd1 h fun v3 hc h => ?_
        exact g.tr ((fr_fRounds_goToNearest_b73 hk9 ih bi2 h))
      · refine fr_gd h fun c1 h => ?_
        refine fr_gd h fun c2 h => ?_
        refine fr_bd1 h fun v4 hc h => ?_
        exact g.tr ((fr_fRounds_goToNearest_b73 hk9 ih bi2 h))
    · refine fr_gd h fun c1 h => ?_
      refine fr_ltI h fun v5 h => ?_
      exact g.tr ((fr_fRounds_goToNearest_h106 hk9 1048576 bi2 h))
theorem fr_fRounds_goToNearest_h9 : ∀ (n : Nat) {s : ev_M} {x1 : Int32} {i2 : Nat} {x3 : Int32} {q : ev_M} (bi2 : i2 < 12) , fRounds_goToNearest_h9 n s x1 i2 x3 = some q → fr F_Rounds_goToNearest s q := by
  intro n
  induction n with
  | zero => intro s x1 i2 x3 q bi2 h; cases h
  | succ n ih =>
    intro s x1 i2 x3 q bi2 h
    have g : fr F_Rounds_goToNearest s s := fr.rf
    refine fr_gd h fun c0 h => ?_
    refine fr_if h (fun h => ?_) fun h => ?_
    · exact g.tr ((fr_fRounds_goToNearest_h31 ih 1048576 bi2 h))
    · cases h; exact g
theorem fr_fRounds_goToNearest {s : ev_M} {a1 : Int32} {q : ev_M} (h : fRounds_goToNearest s a1 = some q) : fr F_Rounds_goToNearest s q := by
  have g : fr F_Rounds_goToNearest s s := fr.rf
  refine fr_gd h fun c0 h => ?_
  exact g.tr ((fr_fRounds_goToNearest_h9 1048576 (inb_lt c0) h))
def F_Rounds_arrangeStops : List (Nat × (Nat × Nat)) := [(9, 9, 7), (9, 9, 8), (9, 9, 14), (13, 13, 0), (146, 157, 0), (175, 175, 0), (183, 191, 0), (193, 448, 0)]
theorem fr_fRounds_arrangeStops_b91 {k43 : ev_M → Int32 → Int32 → Nat → Int32 → Option (ev_M × Int32)} (hk43 : ∀ {s : ev_M} {z1 : Int32} {z2 : Int32} {z3 : Nat} {z4 : Int32} {q : ev_M × Int32} (bz3 : z3 < 12) , k43 s z1 z2 z3 z4 = some q → fr F_Rounds_arrangeStops s q.1) {s : ev_M} {x1 : Int32} {x2 : Int32} {i3 : Nat} {x4 : Int32} {x5 : Int32} {x6 : Int32} {q : ev_M × Int32} (bi3 : i3 < 12) (h : fRounds_arrangeStops_b91 k43 s x1 x2 i3 x4 x5 x6 = some q) : fr F_Rounds_arrangeStops s q.1 := by
  have g : fr F_Rounds_arrangeStops s s := fr.rf
  refine fr_gd h fun c0 h => ?_
  refine fr_ltM h (Q := fr F_Rounds_arrangeStops s) (g.wI (inF_row (lo := 146) (hi := 157) rfl (Nat.le_add_right _ _) (by have := bi3; omega))) fun s1 gs1 h => ?_
  exact gs1.tr ((hk43 bi3 h))
theorem fr_fRounds_arrangeStops_h59 {k43 : ev_M → Int32 → Int32 → Nat → Int32 → Option (ev_M × Int32)} (hk43 : ∀ {s : ev_M} {z1 : Int32} {z2 : Int32} {z3 : Nat} {z4 : Int32} {q : ev_M × Int32} (bz3 : z3 < 12) , k43 s z1 z2 z3 z4 = some q → fr F_Rounds_arrangeStops s q.1) : ∀ (n : Nat) {s : ev_M} {x1 : Int32} {x2 : Int32} {i3 : Nat} {x4 : Int32} {x5 : Int32} {x6 : Int32} {q : ev_M × Int32} (bi3 : i3 < 12) , fRounds_arrangeStops_h59 k43 n s x1 x2 i3 x4 x5 x6 = some q → fr F_Rounds_arrangeStops s q.1 := by
  intro n
  induction n with
  | zero => intro s x1 x2 i3 x4 x5 x6 q bi3 h; cases h
  | succ n ih =>
    intro s x1 x2 i3 x4 x5 x6 q bi3 h
    have g : fr F_Rounds_arrangeStops s s := fr.rf
    refine fr_if h (fun h => ?_) fun h => ?_
    · exact g.tr ((fr_fRounds_arrangeStops_b91 hk43 bi3 h))
    · refine fr_gd h fun c0 h => ?_
      refine fr_if h (fun h => ?_) fun h => ?_
      · exact g.tr ((fr_fRounds_arrangeStops_b91 hk43 bi3 h))
      · refine fr_gd h fun c1 h => ?_
        refine fr_gd h fun c2 h => ?_
        refine fr_ltM h (Q := fr F_Rounds_arrangeStops s) (g.wI (inF_row (lo := 146) (hi := 157) rfl (Nat.le_add_right _ _) (by have := bi3; omega))) fun s2 gs2 h => ?_
        exact gs2.tr ((ih bi3 h))
theorem fr_fRounds_arrangeStops_b122 {s : ev_M} {x1 : Int32} {q : ev_M × Int32} (h : fRounds_arrangeStops_b122 s x1 = some q) : fr F_Rounds_arrangeStops s q.1 := by
  have g : fr F_Rounds_arrangeStops s s := fr.rf
  refine fr_bd1 h fun v3 hc h => ?_
  cases h; exact g
theorem fr_fRounds_arrangeStops_h43 : ∀ (n : Nat) {s : ev_M} {x1 : Int32} {x2 : Int32} {i3 : Nat} {x4 : Int32} {q : ev_M × Int32} (bi3 : i3 < 12) , fRounds_arrangeStops_h43 n s x1 x2 i3 x4 = some q → fr F_Rounds_arrangeStops s q.1 := by
  intro n
  induction n with
  | zero => intro s x1 x2 i3 x4 q bi3 h; cases h
  | succ n ih =>
    intro s x1 x2 i3 x4 q bi3 h
    have g : fr F_Rounds_arrangeStops s s := fr.rf
    refine fr_if h (fun h => ?_) fun h => ?_
    · refine fr_gd h fun c0 h => ?_
      refine fr_ltI h fun v4 h => ?_
      exact g.tr ((fr_fRounds_arrangeStops_h59 ih 1048576 bi3 h))
    · refine fr_if h (fun h => ?_) fun h => ?_
      · refine fr_bd1 h fun s5 hc h => ?_
        have gs5 := g.tr ((fr_fRounds_goLeastWay hc).mono (F := F_Rounds_arrangeStops) (by decide +kernel))
        exact gs5.tr ((fr_fRounds_arrangeStops_b122 h))
      · refine fr_bd1 h fun s6 hc h => ?_
        have gs6 := g.tr ((fr_fRounds_goToNearest hc).mono (F := F_Rounds_arrangeStops) (by decide +kernel))
        exact gs6.tr ((fr_fRounds_arrangeStops_b122 h))
theorem fr_fRounds_arrangeStops {s : ev_M} {a1 : Int32} {q : ev_M × Int32} (h : fRounds_arrangeStops s a1 = some q) : fr F_Rounds_arrangeStops s q.1 := by
  have g : fr F_Rounds_arrangeStops s s := fr.rf
  refine fr_bd1 h fun v7 hc h => ?_
  refine fr_if h (fun h => ?_) fun h => ?_
  · cases h; exact g
  · refine fr_bd2 h fun s8 v9 hc h => ?_
    have gs8 : fr F_Rounds_arrangeStops s s8 := g.tr ((fr_fLog_admits hc).mono (F := F_Rounds_arrangeStops) (by decide +kernel))
    refine fr_if h (fun h => ?_) fun h => ?_
    · cases h; exact gs8
    · refine fr_gd h fun c0 h => ?_
      refine fr_ltI h fun v10 h => ?_
      refine fr_gd h fun c1 h => ?_
      exact gs8.tr ((fr_fRounds_arrangeStops_h43 1048576 (inb_lt c1) h))
def F_Rounds_addStray : List (Nat × (Nat × Nat)) := [(138, 138, 11), (173, 173, 0)]
theorem fr_fRounds_addStray_b48 {s : ev_M} {x1 : Int32} {x2 : Int32} {q : ev_M} (h : fRounds_addStray_b48 s x1 x2 = some q) : fr F_Rounds_addStray s q := by
  have g : fr F_Rounds_addStray s s := fr.rf
  refine fr_gd h fun c0 h => ?_
  refine fr_ltM h (Q := fr F_Rounds_addStray s) (g.wI rfl) fun s1 gs1 h => ?_
  cases h; exact gs1
theorem fr_fRounds_addStray_h12 : ∀ (n : Nat) {s : ev_M} {x1 : Int32} {x2 : Int32} {q : ev_M} , fRounds_addStray_h12 n s x1 x2 = some q → fr F_Rounds_addStray s q := by
  intro n
  induction n with
  | zero => intro s x1 x2 q h; cases h
  | succ n ih =>
    intro s x1 x2 q h
    have g : fr F_Rounds_addStray s s := fr.rf
    refine fr_if h (fun h => ?_) fun h => ?_
    · exact g.tr ((fr_fRounds_addStray_b48 h))
    · refine fr_gd h fun c0 h => ?_
      refine fr_if h (fun h => ?_) fun h => ?_
      · exact g.tr ((fr_fRounds_addStray_b48 h))
      · refine fr_gd h fun c1 h => ?_
        refine fr_gd h fun c2 h => ?_
        refine fr_ltM h (Q := fr F_Rounds_addStray s) (g.wI rfl) fun s2 gs2 h => ?_
        exact gs2.tr ((ih h))
theorem fr_fRounds_addStray {s : ev_M} {a1 : Int32} {q : ev_M} (h : fRounds_addStray s a1 = some q) : fr F_Rounds_addStray s q := by
  have g : fr F_Rounds_addStray s s := fr.rf
  refine fr_ltM h (Q := fr F_Rounds_addStray s) (g.wI rfl) fun s3 gs3 h => ?_
  refine fr_ltI h fun v4 h => ?_
  exact gs3.tr ((fr_fRounds_addStray_h12 1048576 h))
def F_Rounds_keepSorted : List (Nat × (Nat × Nat)) := [(15, 15, 3), (15, 15, 8), (17, 17, 0), (18, 18, 0), (19, 19, 0), (20, 20, 0), (21, 21, 0), (22, 22, 0), (24, 24, 0), (25, 25, 0), (26, 26, 0), (27, 27, 0), (100, 100, 7), (102, 102, 0), (111, 111, 0), (116, 116, 0), (117, 117, 0), (119, 119, 0), (138, 138, 11), (144, 144, 0), (160, 171, 0), (173, 173, 0), (175, 175, 0)]
theorem fr_fRounds_keepSorted_b69 {k2 : ev_M → Int32 → Int32 → Option ev_M} (hk2 : ∀ {s : ev_M} {z1 : Int32} {z2 : Int32} {q : ev_M} , k2 s z1 z2 = some q → fr F_Rounds_keepSorted s q) {s : ev_M} {x1 : Int32} {x2 : Int32} {q : ev_M} (h : fRounds_keepSorted_b69 k2 s x1 x2 = some q) : fr F_Rounds_keepSorted s q := by
  have g : fr F_Rounds_keepSorted s s := fr.rf
  exact g.tr ((hk2 h))
theorem fr_fRounds_keepSorted_b117 {k82 : ev_M → Int32 → Option ev_M} (hk82 : ∀ {s : ev_M} {z1 : Int32} {q : ev_M} , k82 s z1 = some q → fr F_Rounds_keepSorted s q) {s : ev_M} {x2 : Int32} {q : ev_M} (h : fRounds_keepSorted_b117 k82 s x2 = some q) : fr F_Rounds_keepSorted s q := by
  have g : fr F_Rounds_keepSorted s s := fr.rf
  exact g.tr ((hk82 h))
theorem fr_fRounds_keepSorted_h82 : ∀ (n : Nat) {s : ev_M} {x2 : Int32} {q : ev_M} , fRounds_keepSorted_h82 n s x2 = some q → fr F_Rounds_keepSorted s q := by
  intro n
  induction n with
  | zero => intro s x2 q h; cases h
  | succ n ih =>
    intro s x2 q h
    have g : fr F_Rounds_keepSorted s s := fr.rf
    refine fr_if h (fun h => ?_) fun h => ?_
    · refine fr_gd h fun c0 h => ?_
      refine fr_gd h fun c1 h => ?_
      refine fr_if h (fun h => ?_) fun h => ?_
      · refine fr_gd h fun c2 h => ?_
        refine fr_bd1 h fun s1 hc h => ?_
        have gs1 := g.tr ((fr_fRounds_addStray hc).mono (F := F_Rounds_keepSorted) (by decide +kernel))
        exact gs1.tr ((fr_fRounds_keepSorted_b117 ih h))
      · exact g.tr ((fr_fRounds_keepSorted_b117 ih h))
    · cases h; exact g
theorem fr_fRounds_keepSorted_h2 : ∀ (n : Nat) {s : ev_M} {x1 : Int32} {x2 : Int32} {q : ev_M} , fRounds_keepSorted_h2 n s x1 x2 = some q → fr F_Rounds_keepSorted s q := by
  intro n
  induction n with
  | zero => intro s x1 x2 q h; cases h
  | succ n ih =>
    intro s x1 x2 q h
    have g : fr F_Rounds_keepSorted s s := fr.rf
    refine fr_if h (fun h => ?_) fun h => ?_
    · refine fr_gd h fun c0 h => ?_
      refine fr_ltI h fun v2 h => ?_
      refine fr_gd h fun c1 h => ?_
      refine fr_ltM h (Q := fr F_Rounds_keepSorted s) (g.wI rfl) fun s3 gs3 h => ?_
      refine fr_gd h fun c2 h => ?_
      refine fr_if h (fun h => ?_) fun h => ?_
      · exact gs3.tr ((fr_fRounds_keepSorted_b69 ih h))
      · refine fr_gd h fun c3 h => ?_
        refine fr_gd h fun c4 h => ?_
        refine fr_gd h fun c5 h => ?_
        refine fr_ltM h (Q := fr F_Rounds_keepSorted s) (gs3.wI rfl) fun s4 gs4 h => ?_
        refine fr_gd h fun c6 h => ?_
        refine fr_ltM h (Q := fr F_Rounds_keepSorted s) (gs4.wI (inF_row (lo := 160) (hi := 171) rfl (Nat.le_add_right _ _) (by have := (inb_lt c5); omega))) fun s5 gs5 h => ?_
        refine fr_bd1 h fun s6 hc h => ?_
        have gs6 := gs5.tr ((fr_fItems_come hc).mono (F := F_Rounds_keepSorted) (by decide +kernel))
        exact gs6.tr ((fr_fRounds_keepSorted_b69 ih h))
    · refine fr_ltM h (Q := fr F_Rounds_keepSorted s) (g.wI rfl) fun s7 gs7 h => ?_
      exact gs7.tr ((fr_fRounds_keepSorted_h82 1048576 h))
theorem fr_fRounds_keepSorted {s : ev_M} {a1 : Int32} {q : ev_M} (h : fRounds_keepSorted s a1 = some q) : fr F_Rounds_keepSorted s q := by
  have g : fr F_Rounds_keepSorted s s := fr.rf
  exact g.tr ((fr_fRounds_keepSorted_h2 1048576 h))
def F_Rounds_binReached : List (Nat × (Nat × Nat)) := [(180, 180, 0), (181, 181, 0)]
theorem fr_fRounds_binReached_b78 {k2 : ev_M → Int32 → Int32 → Int32 → Option (ev_M × Int32)} (hk2 : ∀ {s : ev_M} {z1 : Int32} {z2 : Int32} {z3 : Int32} {q : ev_M × Int32} , k2 s z1 z2 z3 = some q → fr F_Rounds_binReached s q.1) {s : ev_M} {x1 : Int32} {x2 : Int32} {x3 : Int32} {q : ev_M × Int32} (h : fRounds_binReached_b78 k2 s x1 x2 x3 = some q) : fr F_Rounds_binReached s q.1 := by
  have g : fr F_Rounds_binReached s s := fr.rf
  refine fr_gd h fun c0 h => ?_
  refine fr_ltM h (Q := fr F_Rounds_binReached s) (g.wI rfl) fun s1 gs1 h => ?_
  refine fr_gd h fun c1 h => ?_
  refine fr_if h (fun h => ?_) fun h => ?_
  · exact gs1.tr ((hk2 h))
  · cases h; exact gs1
theorem fr_fRounds_binReached_b63 {k2 : ev_M → Int32 → Int32 → Int32 → Option (ev_M × Int32)} (hk2 : ∀ {s : ev_M} {z1 : Int32} {z2 : Int32} {z3 : Int32} {q : ev_M × Int32} , k2 s z1 z2 z3 = some q → fr F_Rounds_binReached s q.1) {s : ev_M} {x1 : Int32} {x2 : Int32} {x3 : Int32} {x4 : Int32} {y0 : Int32} {q : ev_M × Int32} (h : fRounds_binReached_b63 k2 s x1 x2 x3 x4 y0 = some q) : fr F_Rounds_binReached s q.1 := by
  have g : fr F_Rounds_binReached s s := fr.rf
  refine fr_if h (fun h => ?_) fun h => ?_
  · exact g.tr ((fr_fRounds_binReached_b78 hk2 h))
  · refine fr_gd h fun c0 h => ?_
    refine fr_ltM h (Q := fr F_Rounds_binReached s) (g.wI rfl) fun s2 gs2 h => ?_
    exact gs2.tr ((fr_fRounds_binReached_b78 hk2 h))
theorem fr_fRounds_binReached_b58 {k2 : ev_M → Int32 → Int32 → Int32 → Option (ev_M × Int32)} (hk2 : ∀ {s : ev_M} {z1 : Int32} {z2 : Int32} {z3 : Int32} {q : ev_M × Int32} , k2 s z1 z2 z3 = some q → fr F_Rounds_binReached s q.1) {s : ev_M} {x1 : Int32} {x2 : Int32} {x3 : Int32} {x4 : Int32} {q : ev_M × Int32} (h : fRounds_binReached_b58 k2 s x1 x2 x3 x4 = some q) : fr F_Rounds_binReached s q.1 := by
  have g : fr F_Rounds_binReached s s := fr.rf
  exact g.tr ((fr_fRounds_binReached_b63 hk2 h))
theorem fr_fRounds_binReached_b22 {k2 : ev_M → Int32 → Int32 → Int32 → Option (ev_M × Int32)} (hk2 : ∀ {s : ev_M} {z1 : Int32} {z2 : Int32} {z3 : Int32} {q : ev_M × Int32} , k2 s z1 z2 z3 = some q → fr F_Rounds_binReached s q.1) {s : ev_M} {x1 : Int32} {x2 : Int32} {x3 : Int32} {y0 : Int32} {q : ev_M × Int32} (h : fRounds_binReached_b22 k2 s x1 x2 x3 y0 = some q) : fr F_Rounds_binReached s q.1 := by
  have g : fr F_Rounds_binReached s s := fr.rf
  refine fr_gd h fun c0 h => ?_
  refine fr_if h (fun h => ?_) fun h => ?_
  · exact g.tr ((fr_fRounds_binReached_b58 hk2 h))
  · refine fr_gd h fun c1 h => ?_
    refine fr_if h (fun h => ?_) fun h => ?_
    · exact g.tr ((fr_fRounds_binReached_b63 hk2 h))
    · exact g.tr ((fr_fRounds_binReached_b58 hk2 h))
theorem fr_fRounds_binReached_h2 : ∀ (n : Nat) {s : ev_M} {x1 : Int32} {x2 : Int32} {x3 : Int32} {q : ev_M × Int32} , fRounds_binReached_h2 n s x1 x2 x3 = some q → fr F_Rounds_binReached s q.1 := by
  intro n
  induction n with
  | zero => intro s x1 x2 x3 q h; cases h
  | succ n ih =>
    intro s x1 x2 x3 q h
    have g : fr F_Rounds_binReached s s := fr.rf
    refine fr_if h (fun h => ?_) fun h => ?_
    · refine fr_if h (fun h => ?_) fun h => ?_
      · exact g.tr ((fr_fRounds_binReached_b22 ih h))
      · exact g.tr ((fr_fRounds_binReached_b22 ih h))
    · cases h; exact g
theorem fr_fRounds_binReached {s : ev_M} {a1 : Int32} {a2 : Int32} {q : ev_M × Int32} (h : fRounds_binReached s a1 a2 = some q) : fr F_Rounds_binReached s q.1 := by
  have g : fr F_Rounds_binReached s s := fr.rf
  exact g.tr ((fr_fRounds_binReached_h2 1048576 h))
def F_Rounds_feedPass : List (Nat × (Nat × Nat)) := [(174, 174, 0), (175, 175, 0), (178, 178, 0), (179, 179, 0), (180, 180, 0), (181, 181, 0)]
theorem fr_fRounds_feedPass_b118 {k47 : ev_M → Int32 → Int32 → Int32 → Option ev_M} (hk47 : ∀ {s : ev_M} {z1 : Int32} {z2 : Int32} {z3 : Int32} {q : ev_M} , k47 s z1 z2 z3 = some q → fr F_Rounds_feedPass s q) {s : ev_M} {x1 : Int32} {x2 : Int32} {x3 : Int32} {q : ev_M} (h : fRounds_feedPass_b118 k47 s x1 x2 x3 = some q) : fr F_Rounds_feedPass s q := by
  have g : fr F_Rounds_feedPass s s := fr.rf
  exact g.tr ((hk47 h))
theorem fr_fRounds_feedPass_b182 {k129 : ev_M → Int32 → Int32 → Int32 → Option ev_M} {k138 : ev_M → Int32 → Int32 → Int32 → Int32 → Option ev_M} (hk129 : ∀ {s : ev_M} {z1 : Int32} {z2 : Int32} {z3 : Int32} {q : ev_M} , k129 s z1 z2 z3 = some q → fr F_Rounds_feedPass s q) (hk138 : ∀ {s : ev_M} {z1 : Int32} {z2 : Int32} {z3 : Int32} {z4 : Int32} {q : ev_M} , k138 s z1 z2 z3 z4 = some q → fr F_Rounds_feedPass s q) {s : ev_M} {x2 : Int32} {x3 : Int32} {x4 : Int32} {x5 : Int32} {q : ev_M} (h : fRounds_feedPass_b182 k129 k138 s x2 x3 x4 x5 = some q) : fr F_Rounds_feedPass s q := by
  have g : fr F_Rounds_feedPass s s := fr.rf
  exact g.tr ((hk138 h))
theorem fr_fRounds_feedPass_h138 {k129 : ev_M → Int32 → Int32 → Int32 → Option ev_M} (hk129 : ∀ {s : ev_M} {z1 : Int32} {z2 : Int32} {z3 : Int32} {q : ev_M} , k129 s z1 z2 z3 = some q → fr F_Rounds_feedPass s q) : ∀ (n : Nat) {s : ev_M} {x2 : Int32} {x3 : Int32} {x4 : Int32} {x5 : Int32} {q : ev_M} , fRounds_feedPass_h138 k129 n s x2 x3 x4 x5 = some q → fr F_Rounds_feedPass s q := by
  intro n
  induction n with
  | zero => intro s x2 x3 x4 x5 q h; cases h
  | succ n ih =>
    intro s x2 x3 x4 x5 q h
    have g : fr F_Rounds_feedPass s s := fr.rf
    refine fr_if h (fun h => ?_) fun h => ?_
    · refine fr_gd h fun c0 h => ?_
      refine fr_gd h fun c1 h => ?_
      refine fr_if h (fun h => ?_) fun h => ?_
      · refine fr_gd h fun c2 h => ?_
        refine fr_gd h fun c3 h => ?_
        refine fr_ltM h (Q := fr F_Rounds_feedPass s) (g.wI rfl) fun s1 gs1 h => ?_
        exact gs1.tr ((fr_fRounds_feedPass_b182 hk129 ih h))
      · exact g.tr ((fr_fRounds_feedPass_b182 hk129 ih h))
    · exact g.tr ((hk129 h))
theorem fr_fRounds_feedPass_h129 : ∀ (n : Nat) {s : ev_M} {x2 : Int32} {x3 : Int32} {x4 : Int32} {q : ev_M} , fRounds_feedPass_h129 n s x2 x3 x4 = some q → fr F_Rounds_feedPass s q := by
  intro n
  induction n with
  | zero => intro s x2 x3 x4 q h; cases h
  | succ n ih =>
    intro s x2 x3 x4 q h
    have g : fr F_Rounds_feedPass s s := fr.rf
    refine fr_if h (fun h => ?_) fun h => ?_
    · exact g.tr ((fr_fRounds_feedPass_h138 ih 1048576 h))
    · refine fr_bd1 h fun s2 hc h => ?_
      have gs2 := g.tr (fr_acp (F := F_Rounds_feedPass) (fun _ => rfl) hc)
      cases h; exact gs2
theorem fr_fRounds_feedPass_h47 : ∀ (n : Nat) {s : ev_M} {x1 : Int32} {x2 : Int32} {x3 : Int32} {q : ev_M} , fRounds_feedPass_h47 n s x1 x2 x3 = some q → fr F_Rounds_feedPass s q := by
  intro n
  induction n with
  | zero => intro s x1 x2 x3 q h; cases h
  | succ n ih =>
    intro s x1 x2 x3 q h
    have g : fr F_Rounds_feedPass s s := fr.rf
    refine fr_if h (fun h => ?_) fun h => ?_
    · refine fr_gd h fun c0 h => ?_
      refine fr_ltI h fun v3 h => ?_
      refine fr_gd h fun c1 h => ?_
      refine fr_dv h fun h => ?_
      refine fr_dv h fun h => ?_
      refine fr_ltI h fun v4 h => ?_
      refine fr_bd2 h fun s5 v6 hc h => ?_
      have gs5 : fr F_Rounds_feedPass s s5 := g.tr ((fr_fRounds_binReached hc).mono (F := F_Rounds_feedPass) (by decide +kernel))
      refine fr_gd h fun c2 h => ?_
      refine fr_ltM h (Q := fr F_Rounds_feedPass s) (gs5.wI rfl) fun s7 gs7 h => ?_
      refine fr_gd h fun c3 h => ?_
      refine fr_if h (fun h => ?_) fun h => ?_
      · exact gs7.tr ((fr_fRounds_feedPass_b118 ih h))
      · refine fr_gd h fun c4 h => ?_
        refine fr_ltM h (Q := fr F_Rounds_feedPass s) (gs7.wI rfl) fun s8 gs8 h => ?_
        exact gs8.tr ((fr_fRounds_feedPass_b118 ih h))
    · exact g.tr ((fr_fRounds_feedPass_h129 1048576 h))
theorem fr_fRounds_feedPass_h20 : ∀ (n : Nat) {s : ev_M} {x1 : Int32} {x2 : Int32} {x3 : Int32} {q : ev_M} , fRounds_feedPass_h20 n s x1 x2 x3 = some q → fr F_Rounds_feedPass s q := by
  intro n
  induction n with
  | zero => intro s x1 x2 x3 q h; cases h
  | succ n ih =>
    intro s x1 x2 x3 q h
    have g : fr F_Rounds_feedPass s s := fr.rf
    refine fr_if h (fun h => ?_) fun h => ?_
    · refine fr_gd h fun c0 h => ?_
      refine fr_ltM h (Q := fr F_Rounds_feedPass s) (g.wI rfl) fun s9 gs9 h => ?_
      refine fr_gd h fun c1 h => ?_
      refine fr_ltM h (Q := fr F_Rounds_feedPass s) (gs9.wI rfl) fun s10 gs10 h => ?_
      exact gs10.tr ((ih h))
    · exact g.tr ((fr_fRounds_feedPass_h47 1048576 h))
theorem fr_fRounds_feedPass {s : ev_M} {a1 : Int32} {q : ev_M} (h : fRounds_feedPass s a1 = some q) : fr F_Rounds_feedPass s q := by
  have g : fr F_Rounds_feedPass s s := fr.rf
  refine fr_ltI h fun v11 h => ?_
  refine fr_if h (fun h => ?_) fun h => ?_
  · cases h; exact g
  · refine fr_if h (fun h => ?_) fun h => ?_
    · cases h; exact g
    · exact g.tr ((fr_fRounds_feedPass_h20 1048576 h))
def F_Book_goalFor : List (Nat × (Nat × Nat)) := [(30, 30, 15), (30, 30, 16), (51, 51, 0)]
theorem fr_fBook_goalFor_h17 : ∀ (n : Nat) {s : ev_M} {x2 : Int32} {x3 : Int32} {q : ev_M × Int32} , fBook_goalFor_h17 n s x2 x3 = some q → fr F_Book_goalFor s q.1 := by
  intro n
  induction n with
  | zero => intro s x2 x3 q h; cases h
  | succ n ih =>
    intro s x2 x3 q h
    have g : fr F_Book_goalFor s s := fr.rf
    refine fr_if h (fun h => ?_) fun h => ?_
    · refine fr_gd h fun c0 h => ?_
      refine fr_ltM h (Q := fr F_Book_goalFor s) (g.wI rfl) fun s1 gs1 h => ?_
      refine fr_bd1 h fun v2 hc h => ?_
      refine fr_if h (fun h => ?_) fun h => ?_
      · cases h; exact gs1
      · refine fr_gd h fun c1 h => ?_
        refine fr_ltI h fun v3 h => ?_
        refine fr_if h (fun h => ?_) fun h => ?_
        · cases h; exact gs1
        · refine fr_gd h fun c2 h => ?_
          refine fr_if h (fun h => ?_) fun h => ?_
          · cases h; exact gs1
          · refine fr_ltM h (Q := fr F_Book_goalFor s) (gs1.wI rfl) fun s4 gs4 h => ?_
            exact gs4.tr ((ih h))
    · cases h; exact g
theorem fr_fBook_goalFor {s : ev_M} {a1 : Int32} {a2 : Int32} {q : ev_M × Int32} (h : fBook_goalFor s a1 a2 = some q) : fr F_Book_goalFor s q.1 := by
  have g : fr F_Book_goalFor s s := fr.rf
  refine fr_ltM h (Q := fr F_Book_goalFor s) (g.wI rfl) fun s5 gs5 h => ?_
  refine fr_ltM h (Q := fr F_Book_goalFor s) (gs5.wI rfl) fun s6 gs6 h => ?_
  exact gs6.tr ((fr_fBook_goalFor_h17 1048576 h))
def F_Items_goalOf : List (Nat × (Nat × Nat)) := [(30, 30, 15), (30, 30, 16), (51, 51, 0)]
theorem fr_fItems_goalOf {s : ev_M} {a1 : Int32} {q : ev_M × Int32} (h : fItems_goalOf s a1 = some q) : fr F_Items_goalOf s q.1 := by
  have g : fr F_Items_goalOf s s := fr.rf
  refine fr_gd h fun c0 h => ?_
  refine fr_if h (fun h => ?_) fun h => ?_
  · refine fr_gd h fun c1 h => ?_
    refine fr_bd1 h fun v1 hc h => ?_
    cases h; exact g
  · refine fr_gd h fun c1 h => ?_
    refine fr_ltI h fun v2 h => ?_
    refine fr_if h (fun h => ?_) fun h => ?_
    · cases h; exact g
    · refine fr_gd h fun c2 h => ?_
      refine fr_bd2 h fun s3 v4 hc h => ?_
      have gs3 : fr F_Items_goalOf s s3 := g.tr ((fr_fBook_goalFor hc).mono (F := F_Items_goalOf) (by decide +kernel))
      cases h; exact gs3
def F_Rounds_gather : List (Nat × (Nat × Nat)) := [(30, 30, 15), (30, 30, 16), (51, 51, 0), (138, 138, 13), (174, 174, 0), (177, 177, 0), (179, 179, 0)]
theorem fr_fRounds_gather_b177 {k7 : ev_M → Int32 → Int32 → Option ev_M} (hk7 : ∀ {s : ev_M} {z1 : Int32} {z2 : Int32} {q : ev_M} , k7 s z1 z2 = some q → fr F_Rounds_gather s q) {s : ev_M} {x1 : Int32} {x2 : Int32} {q : ev_M} (h : fRounds_gather_b177 k7 s x1 x2 = some q) : fr F_Rounds_gather s q := by
  have g : fr F_Rounds_gather s s := fr.rf
  exact g.tr ((hk7 h))
theorem fr_fRounds_gather_b169 {k7 : ev_M → Int32 → Int32 → Option ev_M} (hk7 : ∀ {s : ev_M} {z1 : Int32} {z2 : Int32} {q : ev_M} , k7 s z1 z2 = some q → fr F_Rounds_gather s q) {s : ev_M} {x1 : Int32} {x2 : Int32} {x4 : Int32} {q : ev_M} (h : fRounds_gather_b169 k7 s x1 x2 x4 = some q) : fr F_Rounds_gather s q := by
  have g : fr F_Rounds_gather s s := fr.rf
  refine fr_gd h fun c0 h => ?_
  refine fr_ltM h (Q := fr F_Rounds_gather s) (g.wI rfl) fun s1 gs1 h => ?_
  exact gs1.tr ((fr_fRounds_gather_b177 hk7 h))
theorem fr_fRounds_gather_h125 {k7 : ev_M → Int32 → Int32 → Option ev_M} (hk7 : ∀ {s : ev_M} {z1 : Int32} {z2 : Int32} {q : ev_M} , k7 s z1 z2 = some q → fr F_Rounds_gather s q) : ∀ (n : Nat) {s : ev_M} {x1 : Int32} {x2 : Int32} {x4 : Int32} {q : ev_M} , fRounds_gather_h125 k7 n s x1 x2 x4 = some q → fr F_Rounds_gather s q := by
  intro n
  induction n with
  | zero => intro s x1 x2 x4 q h; cases h
  | succ n ih =>
    intro s x1 x2 x4 q h
    have g : fr F_Rounds_gather s s := fr.rf
    refine fr_if h (fun h => ?_) fun h => ?_
    · exact g.tr ((fr_fRounds_gather_b169 hk7 h))
    · refine fr_gd h fun c0 h => ?_
      refine fr_bd1 h fun v2 hc h => ?_
      refine fr_if h (fun h => ?_) fun h => ?_
      · exact g.tr ((fr_fRounds_gather_b169 hk7 h))
      · refine fr_gd h fun c1 h => ?_
        refine fr_gd h fun c2 h => ?_
        refine fr_ltM h (Q := fr F_Rounds_gather s) (g.wI rfl) fun s3 gs3 h => ?_
        exact gs3.tr ((ih h))
theorem fr_fRounds_gather_h7 : ∀ (n : Nat) {s : ev_M} {x1 : Int32} {x2 : Int32} {q : ev_M} , fRounds_gather_h7 n s x1 x2 = some q → fr F_Rounds_gather s q := by
  intro n
  induction n with
  | zero => intro s x1 x2 q h; cases h
  | succ n ih =>
    intro s x1 x2 q h
    have g : fr F_Rounds_gather s s := fr.rf
    refine fr_if h (fun h => ?_) fun h => ?_
    · refine fr_bd1 h fun v4 hc h => ?_
      refine fr_if h (fun h => ?_) fun h => ?_
      · exact g.tr ((fr_fRounds_gather_b177 ih h))
      · refine fr_gd h fun c0 h => ?_
        refine fr_gd h fun c1 h => ?_
        refine fr_if h (fun h => ?_) fun h => ?_
        · refine fr_bd2 h fun s5 v6 hc h => ?_
          have gs5 : fr F_Rounds_gather s s5 := g.tr ((fr_fItems_goalOf hc).mono (F := F_Rounds_gather) (by decide +kernel))
          refine fr_bd1 h fun v7 hc h => ?_
          refine fr_if h (fun h => ?_) fun h => ?_
          · exact gs5.tr ((fr_fRounds_gather_b177 ih h))
          · refine fr_gd h fun c2 h => ?_
            refine fr_if h (fun h => ?_) fun h => ?_
            · refine fr_bd1 h fun v8 hc h => ?_
              refine fr_gd h fun c3 h => ?_
              refine fr_ltM h (Q := fr F_Rounds_gather s) (gs5.wI rfl) fun s9 gs9 h => ?_
              refine fr_gd h fun c4 h => ?_
              refine fr_ltM h (Q := fr F_Rounds_gather s) (gs9.wI rfl) fun s10 gs10 h => ?_
              refine fr_ltM h (Q := fr F_Rounds_gather s) (gs10.wI rfl) fun s11 gs11 h => ?_
              refine fr_ltI h fun v12 h => ?_
              exact gs11.tr ((fr_fRounds_gather_h125 ih 1048576 h))
            · exact gs5.tr ((fr_fRounds_gather_b177 ih h))
        · exact g.tr ((fr_fRounds_gather_b177 ih h))
    · cases h; exact g
theorem fr_fRounds_gather {s : ev_M} {a1 : Int32} {q : ev_M} (h : fRounds_gather s a1 = some q) : fr F_Rounds_gather s q := by
  have g : fr F_Rounds_gather s s := fr.rf
  refine fr_ltM h (Q := fr F_Rounds_gather s) (g.wI rfl) fun s13 gs13 h => ?_
  exact gs13.tr ((fr_fRounds_gather_h7 1048576 h))
def F_Rounds_rank : List (Nat × (Nat × Nat)) := [(175, 175, 0), (177, 179, 0)]
theorem fr_fRounds_rank_b64 {k9 : ev_M → Nat → Int32 → Option ev_M} (hk9 : ∀ {s : ev_M} {z1 : Nat} {z2 : Int32} {q : ev_M} (bz1 : z1 < 3) , k9 s z1 z2 = some q → fr F_Rounds_rank s q) {s : ev_M} {i1 : Nat} {x2 : Int32} {x3 : Int32} {q : ev_M} (bi1 : i1 < 3) (h : fRounds_rank_b64 k9 s i1 x2 x3 = some q) : fr F_Rounds_rank s q := by
  have g : fr F_Rounds_rank s s := fr.rf
  refine fr_gd h fun c0 h => ?_
  refine fr_gd h fun c1 h => ?_
  refine fr_ltM h (Q := fr F_Rounds_rank s) (g.wI rfl) fun s1 gs1 h => ?_
  exact gs1.tr ((hk9 bi1 h))
theorem fr_fRounds_rank_h19 {k9 : ev_M → Nat → Int32 → Option ev_M} (hk9 : ∀ {s : ev_M} {z1 : Nat} {z2 : Int32} {q : ev_M} (bz1 : z1 < 3) , k9 s z1 z2 = some q → fr F_Rounds_rank s q) : ∀ (n : Nat) {s : ev_M} {i1 : Nat} {x2 : Int32} {x3 : Int32} {q : ev_M} (bi1 : i1 < 3) , fRounds_rank_h19 k9 n s i1 x2 x3 = some q → fr F_Rounds_rank s q := by
  intro n
  induction n with
  | zero => intro s i1 x2 x3 q bi1 h; cases h
  | succ n ih =>
    intro s i1 x2 x3 q bi1 h
    have g : fr F_Rounds_rank s s := fr.rf
    refine fr_if h (fun h => ?_) fun h => ?_
    · exact g.tr ((fr_fRounds_rank_b64 hk9 bi1 h))
    · refine fr_gd h fun c0 h => ?_
      refine fr_gd h fun c1 h => ?_
      refine fr_gd h fun c2 h => ?_
      refine fr_gd h fun c3 h => ?_
      refine fr_if h (fun h => ?_) fun h => ?_
      · exact g.tr ((fr_fRounds_rank_b64 hk9 bi1 h))
      · refine fr_gd h fun c4 h => ?_
        refine fr_gd h fun c5 h => ?_
        refine fr_ltM h (Q := fr F_Rounds_rank s) (g.wI rfl) fun s2 gs2 h => ?_
        exact gs2.tr ((ih bi1 h))
theorem fr_fRounds_rank_h84 : ∀ (n : Nat) {s : ev_M} {i1 : Nat} {x2 : Int32} {q : ev_M} (bi1 : i1 < 3) , fRounds_rank_h84 n s i1 x2 = some q → fr F_Rounds_rank s q := by
  intro n
  induction n with
  | zero => intro s i1 x2 q bi1 h; cases h
  | succ n ih =>
    intro s i1 x2 q bi1 h
    have g : fr F_Rounds_rank s s := fr.rf
    refine fr_if h (fun h => ?_) fun h => ?_
    · refine fr_gd h fun c0 h => ?_
      refine fr_gd h fun c1 h => ?_
      refine fr_ltM h (Q := fr F_Rounds_rank s) (g.wI (inF_row (lo := 177) (hi := 179) rfl (Nat.le_add_right _ _) (by have := bi1; omega))) fun s3 gs3 h => ?_
      exact gs3.tr ((ih bi1 h))
    · cases h; exact g
theorem fr_fRounds_rank_h9 : ∀ (n : Nat) {s : ev_M} {i1 : Nat} {x2 : Int32} {q : ev_M} (bi1 : i1 < 3) , fRounds_rank_h9 n s i1 x2 = some q → fr F_Rounds_rank s q := by
  intro n
  induction n with
  | zero => intro s i1 x2 q bi1 h; cases h
  | succ n ih =>
    intro s i1 x2 q bi1 h
    have g : fr F_Rounds_rank s s := fr.rf
    refine fr_if h (fun h => ?_) fun h => ?_
    · exact g.tr ((fr_fRounds_rank_h19 ih 1048576 bi1 h))
    · exact g.tr ((fr_fRounds_rank_h84 1048576 bi1 h))
theorem fr_fRounds_rank {s : ev_M} {q : ev_M} (h : fRounds_rank s = some q) : fr F_Rounds_rank s q := by
  have g : fr F_Rounds_rank s s := fr.rf
  exact g.tr ((fr_fRounds_rank_h9 1048576 (by decide) h))
def F_Rounds_sortItems : List (Nat × (Nat × Nat)) := [(9, 9, 7), (9, 9, 8), (9, 9, 14), (13, 13, 0), (15, 15, 3), (15, 15, 8), (17, 17, 0), (18, 18, 0), (19, 19, 0), (20, 20, 0), (21, 21, 0), (22, 22, 0), (24, 24, 0), (25, 25, 0), (26, 26, 0), (27, 27, 0), (30, 30, 15), (30, 30, 16), (51, 51, 0), (100, 100, 7), (102, 102, 0), (111, 111, 0), (116, 116, 0), (117, 117, 0), (119, 119, 0), (138, 138, 10), (138, 138, 11), (138, 138, 13), (144, 144, 0), (160, 171, 0), (173, 173, 0), (174, 174, 0), (175, 175, 0), (177, 177, 0), (177, 179, 0), (178, 178, 0), (179, 179, 0), (180, 180, 0), (181, 181, 0)]
theorem fr_fRounds_sortItems_b111 {s : ev_M} {x1 : Int32} {q : ev_M × Int32} (h : fRounds_sortItems_b111 s x1 = some q) : fr F_Rounds_sortItems s q.1 := by
  have g : fr F_Rounds_sortItems s s := fr.rf
  refine fr_bd1 h fun s1 hc h => ?_
  have gs1 := g.tr ((fr_fRounds_keepSorted hc).mono (F := F_Rounds_sortItems) (by decide +kernel))
  refine fr_gd h fun c0 h => ?_
  cases h; exact gs1
theorem fr_fRounds_sortItems_b74 {k56 : ev_M → Int32 → Int32 → Int32 → Option (ev_M × Int32)} (hk56 : ∀ {s : ev_M} {z1 : Int32} {z2 : Int32} {z3 : Int32} {q : ev_M × Int32} , k56 s z1 z2 z3 = some q → fr F_Rounds_sortItems s q.1) {s : ev_M} {x1 : Int32} {x2 : Int32} {x3 : Int32} {q : ev_M × Int32} (h : fRounds_sortItems_b74 k56 s x1 x2 x3 = some q) : fr F_Rounds_sortItems s q.1 := by
  have g : fr F_Rounds_sortItems s s := fr.rf
  refine fr_if h (fun h => ?_) fun h => ?_
  · exact g.tr ((fr_fRounds_sortItems_b111 h))
  · refine fr_bd1 h fun s2 hc h => ?_
    have gs2 := g.tr ((fr_fRounds_feedPass hc).mono (F := F_Rounds_sortItems) (by decide +kernel))
    refine fr_ltI h fun v3 h => ?_
    refine fr_ltM h (Q := fr F_Rounds_sortItems s) (gs2.wI rfl) fun s4 gs4 h => ?_
    exact gs4.tr ((hk56 h))
theorem fr_fRounds_sortItems_h56 : ∀ (n : Nat) {s : ev_M} {x1 : Int32} {x2 : Int32} {x3 : Int32} {q : ev_M × Int32} , fRounds_sortItems_h56 n s x1 x2 x3 = some q → fr F_Rounds_sortItems s q.1 := by
  intro n
  induction n with
  | zero => intro s x1 x2 x3 q h; cases h
  | succ n ih =>
    intro s x1 x2 x3 q h
    have g : fr F_Rounds_sortItems s s := fr.rf
    refine fr_if h (fun h => ?_) fun h => ?_
    · refine fr_if h (fun h => ?_) fun h => ?_
      · exact g.tr ((fr_fRounds_sortItems_b74 ih h))
      · refine fr_if h (fun h => ?_) fun h => ?_
        · exact g.tr ((fr_fRounds_sortItems_b74 ih h))
        · exact g.tr ((fr_fRounds_sortItems_b111 h))
    · exact g.tr ((fr_fRounds_sortItems_b111 h))
theorem fr_fRounds_sortItems {s : ev_M} {a1 : Int32} {q : ev_M × Int32} (h : fRounds_sortItems s a1 = some q) : fr F_Rounds_sortItems s q.1 := by
  have g : fr F_Rounds_sortItems s s := fr.rf
  refine fr_bd1 h fun v5 hc h => ?_
  refine fr_if h (fun h => ?_) fun h => ?_
  · cases h; exact g
  · refine fr_gd h fun c0 h => ?_
    refine fr_if h (fun h => ?_) fun h => ?_
    · refine fr_bd2 h fun s6 v7 hc h => ?_
      have gs6 : fr F_Rounds_sortItems s s6 := g.tr ((fr_fLog_admits hc).mono (F := F_Rounds_sortItems) (by decide +kernel))
      refine fr_if h (fun h => ?_) fun h => ?_
      · cases h; exact gs6
      · refine fr_bd1 h fun s8 hc h => ?_
        have gs8 := gs6.tr ((fr_fRounds_gather hc).mono (F := F_Rounds_sortItems) (by decide +kernel))
        refine fr_bd1 h fun s9 hc h => ?_
        have gs9 := gs8.tr ((fr_fRounds_rank hc).mono (F := F_Rounds_sortItems) (by decide +kernel))
        refine fr_ltM h (Q := fr F_Rounds_sortItems s) (gs9.wI rfl) fun s10 gs10 h => ?_
        exact gs10.tr ((fr_fRounds_sortItems_h56 1048576 h))
    · cases h; exact g
def F_Rounds_sendOut : List (Nat × (Nat × Nat)) := [(9, 9, 7), (9, 9, 8), (9, 9, 14), (13, 13, 0), (15, 15, 3), (15, 15, 8), (17, 17, 0), (18, 18, 0), (19, 19, 0), (20, 20, 0), (21, 21, 0), (22, 22, 0), (24, 24, 0), (25, 25, 0), (26, 26, 0), (27, 27, 0), (100, 100, 7), (102, 102, 0), (111, 111, 0), (116, 116, 0), (117, 117, 0), (119, 119, 0), (144, 144, 0)]
theorem fr_fRounds_sendOut_h42 : ∀ (n : Nat) {s : ev_M} {x1 : Int32} {x2 : Int32} {x3 : Int32} {q : ev_M × Int32} , fRounds_sendOut_h42 n s x1 x2 x3 = some q → fr F_Rounds_sendOut s q.1 := by
  intro n
  induction n with
  | zero => intro s x1 x2 x3 q h; cases h
  | succ n ih =>
    intro s x1 x2 x3 q h
    have g : fr F_Rounds_sendOut s s := fr.rf
    refine fr_if h (fun h => ?_) fun h => ?_
    · refine fr_gd h fun c0 h => ?_
      refine fr_gd h fun c1 h => ?_
      refine fr_bd1 h fun s1 hc h => ?_
      have gs1 := g.tr ((fr_fItems_come hc).mono (F := F_Rounds_sendOut) (by decide +kernel))
      exact gs1.tr ((ih h))
    · refine fr_gd h fun c0 h => ?_
      refine fr_ltM h (Q := fr F_Rounds_sendOut s) (g.wI rfl) fun s2 gs2 h => ?_
      cases h; exact gs2
theorem fr_fRounds_sendOut {s : ev_M} {a1 : Int32} {q : ev_M × Int32} (h : fRounds_sendOut s a1 = some q) : fr F_Rounds_sendOut s q.1 := by
  have g : fr F_Rounds_sendOut s s := fr.rf
  refine fr_bd1 h fun v3 hc h => ?_
  refine fr_if h (fun h => ?_) fun h => ?_
  · cases h; exact g
  · refine fr_gd h fun c0 h => ?_
    refine fr_ltI h fun v4 h => ?_
    refine fr_if h (fun h => ?_) fun h => ?_
    · cases h; exact g
    · refine fr_bd2 h fun s5 v6 hc h => ?_
      have gs5 : fr F_Rounds_sendOut s s5 := g.tr ((fr_fLog_admits hc).mono (F := F_Rounds_sendOut) (by decide +kernel))
      refine fr_if h (fun h => ?_) fun h => ?_
      · cases h; exact gs5
      · exact gs5.tr ((fr_fRounds_sendOut_h42 1048576 h))
def F_Lines_setNext : List (Nat × (Nat × Nat)) := [(456, 456, 0), (457, 457, 0)]
theorem fr_fLines_setNext {s : ev_M} {a1 : Int32} {q : ev_M} (h : fLines_setNext s a1 = some q) : fr F_Lines_setNext s q := by
  have g : fr F_Lines_setNext s s := fr.rf
  refine fr_bd1 h fun v1 hc h => ?_
  refine fr_gd h fun c0 h => ?_
  refine fr_ltM h (Q := fr F_Lines_setNext s) (g.wI rfl) fun s2 gs2 h => ?_
  refine fr_gd h fun c1 h => ?_
  refine fr_ltM h (Q := fr F_Lines_setNext s) (gs2.wI rfl) fun s3 gs3 h => ?_
  cases h; exact gs3
def F_Lines_make : List (Nat × (Nat × Nat)) := [(9, 9, 7), (9, 9, 8), (9, 9, 14), (13, 13, 0), (449, 449, 5), (451, 451, 0), (452, 452, 0), (453, 453, 0), (454, 454, 0), (455, 455, 0), (456, 456, 0), (457, 457, 0)]
theorem fr_fLines_make {s : ev_M} {a1 : Int32} {a2 : Int32} {a3 : Int32} {a4 : Int32} {a5 : Int32} {q : ev_M × Int32} (h : fLines_make s a1 a2 a3 a4 a5 = some q) : fr F_Lines_make s q.1 := by
  have g : fr F_Lines_make s s := fr.rf
  refine fr_bd1 h fun v1 hc h => ?_
  refine fr_if h (fun h => ?_) fun h => ?_
  · cases h; exact g
  · refine fr_bd1 h fun v2 hc h => ?_
    refine fr_if h (fun h => ?_) fun h => ?_
    · cases h; exact g
    · refine fr_if h (fun h => ?_) fun h => ?_
      · cases h; exact g
      · refine fr_bd1 h fun v3 hc h => ?_
        refine fr_if h (fun h => ?_) fun h => ?_
        · refine fr_bd1 h fun v4 hc h => ?_
          refine fr_if h (fun h => ?_) fun h => ?_
          · refine fr_bd1 h fun v5 hc h => ?_
            refine fr_if h (fun h => ?_) fun h => ?_
            · refine fr_if h (fun h => ?_) fun h => ?_
              · refine fr_bd2 h fun s6 v7 hc h => ?_
                have gs6 : fr F_Lines_make s s6 := g.tr ((fr_fLog_admits hc).mono (F := F_Lines_make) (by decide +kernel))
                refine fr_if h (fun h => ?_) fun h => ?_
                · cases h; exact gs6
                · refine fr_gd h fun c0 h => ?_
                  refine fr_ltM h (Q := fr F_Lines_make s) (gs6.wI rfl) fun s8 gs8 h => ?_
                  refine fr_gd h fun c1 h => ?_
                  refine fr_ltM h (Q := fr F_Lines_make s) (gs8.wI rfl) fun s9 gs9 h => ?_
                  refine fr_gd h fun c2 h => ?_
                  refine fr_ltM h (Q := fr F_Lines_make s) (gs9.wI rfl) fun s10 gs10 h => ?_
                  refine fr_gd h fun c3 h => ?_
                  refine fr_ltM h (Q := fr F_Lines_make s) (gs10.wI rfl) fun s11 gs11 h => ?_
                  refine fr_gd h fun c4 h => ?_
                  refine fr_ltM h (Q := fr F_Lines_make s) (gs11.wI rfl) fun s12 gs12 h => ?_
                  refine fr_bd1 h fun s13 hc h => ?_
                  have gs13 := gs12.tr ((fr_fLines_setNext hc).mono (F := F_Lines_make) (by decide +kernel))
                  refine fr_ltM h (Q := fr F_Lines_make s) (gs13.wI rfl) fun s14 gs14 h => ?_
                  cases h; exact gs14
              · cases h; exact g
            · cases h; exact g
          · cases h; exact g
        · cases h; exact g
def F_Lines_delay : List (Nat × (Nat × Nat)) := [(9, 9, 7), (9, 9, 8), (9, 9, 14), (13, 13, 0), (456, 456, 0), (457, 457, 0)]
theorem fr_fLines_delay {s : ev_M} {a1 : Int32} {a2 : Int32} {q : ev_M × Int32} (h : fLines_delay s a1 a2 = some q) : fr F_Lines_delay s q.1 := by
  have g : fr F_Lines_delay s s := fr.rf
  refine fr_bd1 h fun v1 hc h => ?_
  refine fr_if h (fun h => ?_) fun h => ?_
  · cases h; exact g
  · refine fr_bd1 h fun v2 hc h => ?_
    refine fr_if h (fun h => ?_) fun h => ?_
    · refine fr_bd2 h fun s3 v4 hc h => ?_
      have gs3 : fr F_Lines_delay s s3 := g.tr ((fr_fLog_admits hc).mono (F := F_Lines_delay) (by decide +kernel))
      refine fr_if h (fun h => ?_) fun h => ?_
      · cases h; exact gs3
      · refine fr_gd h fun c0 h => ?_
        refine fr_gd h fun c1 h => ?_
        refine fr_ltM h (Q := fr F_Lines_delay s) (gs3.wI rfl) fun s5 gs5 h => ?_
        refine fr_gd h fun c2 h => ?_
        refine fr_gd h fun c3 h => ?_
        refine fr_ltM h (Q := fr F_Lines_delay s) (gs5.wI rfl) fun s6 gs6 h => ?_
        refine fr_gd h fun c4 h => ?_
        cases h; exact gs6
    · cases h; exact g
def F_Lines_makeBag : List (Nat × (Nat × Nat)) := [(9, 9, 7), (9, 9, 8), (9, 9, 14), (13, 13, 0), (449, 449, 7), (459, 459, 0), (460, 460, 0), (461, 461, 0), (462, 462, 0), (463, 463, 0), (464, 464, 0)]
theorem fr_fLines_makeBag {s : ev_M} {a1 : Int32} {a2 : Int32} {q : ev_M × Int32} (h : fLines_makeBag s a1 a2 = some q) : fr F_Lines_makeBag s q.1 := by
  have g : fr F_Lines_makeBag s s := fr.rf
  refine fr_bd1 h fun v1 hc h => ?_
  refine fr_if h (fun h => ?_) fun h => ?_
  · cases h; exact g
  · refine fr_bd1 h fun v2 hc h => ?_
    refine fr_if h (fun h => ?_) fun h => ?_
    · cases h; exact g
    · refine fr_if h (fun h => ?_) fun h => ?_
      · cases h; exact g
      · refine fr_if h (fun h => ?_) fun h => ?_
        · refine fr_bd2 h fun s3 v4 hc h => ?_
          have gs3 : fr F_Lines_makeBag s s3 := g.tr ((fr_fLog_admits hc).mono (F := F_Lines_makeBag) (by decide +kernel))
          refine fr_if h (fun h => ?_) fun h => ?_
          · cases h; exact gs3
          · refine fr_gd h fun c0 h => ?_
            refine fr_ltM h (Q := fr F_Lines_makeBag s) (gs3.wI rfl) fun s5 gs5 h => ?_
            refine fr_gd h fun c1 h => ?_
            refine fr_ltM h (Q := fr F_Lines_makeBag s) (gs5.wI rfl) fun s6 gs6 h => ?_
            refine fr_gd h fun c2 h => ?_
            refine fr_ltM h (Q := fr F_Lines_makeBag s) (gs6.wI rfl) fun s7 gs7 h => ?_
            refine fr_gd h fun c3 h => ?_
            refine fr_ltM h (Q := fr F_Lines_makeBag s) (gs7.wI rfl) fun s8 gs8 h => ?_
            refine fr_gd h fun c4 h => ?_
            refine fr_ltM h (Q := fr F_Lines_makeBag s) (gs8.wI rfl) fun s9 gs9 h => ?_
            refine fr_gd h fun c5 h => ?_
            refine fr_ltM h (Q := fr F_Lines_makeBag s) (gs9.wI rfl) fun s10 gs10 h => ?_
            refine fr_ltM h (Q := fr F_Lines_makeBag s) (gs10.wI rfl) fun s11 gs11 h => ?_
            cases h; exact gs11
        · cases h; exact g
def F_Items_goalPlaceOf : List (Nat × (Nat × Nat)) := [(30, 30, 15), (30, 30, 16), (51, 51, 0)]
theorem fr_fItems_goalPlaceOf_b40 {s : ev_M} {y1 : Int32} {q : ev_M × Int32} (h : fItems_goalPlaceOf_b40 s y1 = some q) : fr F_Items_goalPlaceOf s q.1 := by
  have g : fr F_Items_goalPlaceOf s s := fr.rf
  refine fr_bd1 h fun v1 hc h => ?_
  cases h; exact g
theorem fr_fItems_goalPlaceOf_b29 {s : ev_M} {q : ev_M × Int32} (h : fItems_goalPlaceOf_b29 s = some q) : fr F_Items_goalPlaceOf s q.1 := by
  have g : fr F_Items_goalPlaceOf s s := fr.rf
  exact g.tr ((fr_fItems_goalPlaceOf_b40 h))
theorem fr_fItems_goalPlaceOf {s : ev_M} {a1 : Int32} {q : ev_M × Int32} (h : fItems_goalPlaceOf s a1 = some q) : fr F_Items_goalPlaceOf s q.1 := by
  have g : fr F_Items_goalPlaceOf s s := fr.rf
  refine fr_bd2 h fun s2 v3 hc h => ?_
  have gs2 : fr F_Items_goalPlaceOf s s2 := g.tr ((fr_fItems_goalOf hc).mono (F := F_Items_goalPlaceOf) (by decide +kernel))
  refine fr_if h (fun h => ?_) fun h => ?_
  · cases h; exact gs2
  · refine fr_if h (fun h => ?_) fun h => ?_
    · exact gs2.tr ((fr_fItems_goalPlaceOf_b29 h))
    · refine fr_if h (fun h => ?_) fun h => ?_
      · exact gs2.tr ((fr_fItems_goalPlaceOf_b29 h))
      · exact gs2.tr ((fr_fItems_goalPlaceOf_b40 h))
def F_Lines_fillBag : List (Nat × (Nat × Nat)) := [(9, 9, 7), (9, 9, 8), (9, 9, 14), (13, 13, 0), (15, 15, 3), (15, 15, 8), (17, 17, 0), (18, 18, 0), (19, 19, 0), (20, 20, 0), (21, 21, 0), (22, 22, 0), (24, 24, 0), (25, 25, 0), (26, 26, 0), (27, 27, 0), (30, 30, 15), (30, 30, 16), (51, 51, 0), (100, 100, 7), (102, 102, 0), (111, 111, 0), (116, 116, 0), (117, 117, 0), (119, 119, 0), (462, 462, 0), (466, 545, 0)]
theorem fr_fLines_fillBag_b62 {s : ev_M} {x1 : Int32} {x2 : Int32} {y0 : Int32} {q : ev_M × Int32} (h : fLines_fillBag_b62 s x1 x2 y0 = some q) : fr F_Lines_fillBag s q.1 := by
  have g : fr F_Lines_fillBag s s := fr.rf
  refine fr_gd h fun c0 h => ?_
  refine fr_if h (fun h => ?_) fun h => ?_
  · refine fr_if h (fun h => ?_) fun h => ?_
    · cases h; exact g
    · refine fr_bd2 h fun s1 v2 hc h => ?_
      have gs1 : fr F_Lines_fillBag s s1 := g.tr ((fr_fItems_goalPlaceOf hc).mono (F := F_Lines_fillBag) (by decide +kernel))
      refine fr_gd h fun c1 h => ?_
      refine fr_if h (fun h => ?_) fun h => ?_
      · refine fr_gd h fun c2 h => ?_
        refine fr_if h (fun h => ?_) fun h => ?_
        · refine fr_bd2 h fun s3 v4 hc h => ?_
          have gs3 : fr F_Lines_fillBag s s3 := gs1.tr ((fr_fLog_admits hc).mono (F := F_Lines_fillBag) (by decide +kernel))
          refine fr_if h (fun h => ?_) fun h => ?_
          · cases h; exact gs3
          · refine fr_gd h fun c3 h => ?_
            refine fr_gd h fun c4 h => ?_
            refine fr_gd h fun c5 h => ?_
            refine fr_ltM h (Q := fr F_Lines_fillBag s) (gs3.wI rfl) fun s5 gs5 h => ?_
            refine fr_gd h fun c6 h => ?_
            refine fr_ltM h (Q := fr F_Lines_fillBag s) (gs5.wI (inF_row (lo := 466) (hi := 545) rfl (Nat.le_add_right _ _) (by have := (inb_lt c5); omega))) fun s6 gs6 h => ?_
            refine fr_bd1 h fun s7 hc h => ?_
            have gs7 := gs6.tr ((fr_fItems_come hc).mono (F := F_Lines_fillBag) (by decide +kernel))
            refine fr_gd h fun c7 h => ?_
            refine fr_ltM h (Q := fr F_Lines_fillBag s) (gs7.wI rfl) fun s8 gs8 h => ?_
            refine fr_gd h fun c8 h => ?_
            cases h; exact gs8
        · cases h; exact gs1
      · cases h; exact gs1
  · cases h; exact g
theorem fr_fLines_fillBag_b61 {s : ev_M} {x1 : Int32} {x2 : Int32} {q : ev_M × Int32} (h : fLines_fillBag_b61 s x1 x2 = some q) : fr F_Lines_fillBag s q.1 := by
  have g : fr F_Lines_fillBag s s := fr.rf
  exact g.tr ((fr_fLines_fillBag_b62 h))
theorem fr_fLines_fillBag {s : ev_M} {a1 : Int32} {a2 : Int32} {q : ev_M × Int32} (h : fLines_fillBag s a1 a2 = some q) : fr F_Lines_fillBag s q.1 := by
  have g : fr F_Lines_fillBag s s := fr.rf
  refine fr_bd1 h fun v9 hc h => ?_
  refine fr_if h (fun h => ?_) fun h => ?_
  · cases h; exact g
  · refine fr_bd1 h fun v10 hc h => ?_
    refine fr_if h (fun h => ?_) fun h => ?_
    · cases h; exact g
    · refine fr_bd1 h fun v11 hc h => ?_
      refine fr_if h (fun h => ?_) fun h => ?_
      · exact g.tr ((fr_fLines_fillBag_b61 h))
      · refine fr_gd h fun c0 h => ?_
        refine fr_gd h fun c1 h => ?_
        refine fr_if h (fun h => ?_) fun h => ?_
        · exact g.tr ((fr_fLines_fillBag_b62 h))
        · exact g.tr ((fr_fLines_fillBag_b61 h))
def F_Lines_shutBag : List (Nat × (Nat × Nat)) := [(9, 9, 7), (9, 9, 8), (9, 9, 14), (13, 13, 0), (459, 459, 0)]
theorem fr_fLines_shutBag {s : ev_M} {a1 : Int32} {q : ev_M × Int32} (h : fLines_shutBag s a1 = some q) : fr F_Lines_shutBag s q.1 := by
  have g : fr F_Lines_shutBag s s := fr.rf
  refine fr_bd1 h fun v1 hc h => ?_
  refine fr_if h (fun h => ?_) fun h => ?_
  · cases h; exact g
  · refine fr_gd h fun c0 h => ?_
    refine fr_if h (fun h => ?_) fun h => ?_
    · refine fr_bd2 h fun s2 v3 hc h => ?_
      have gs2 : fr F_Lines_shutBag s s2 := g.tr ((fr_fLog_admits hc).mono (F := F_Lines_shutBag) (by decide +kernel))
      refine fr_if h (fun h => ?_) fun h => ?_
      · cases h; exact gs2
      · refine fr_gd h fun c1 h => ?_
        refine fr_ltM h (Q := fr F_Lines_shutBag s) (gs2.wI rfl) fun s4 gs4 h => ?_
        refine fr_gd h fun c2 h => ?_
        cases h; exact gs4
    · cases h; exact g
def F_Lines_emptyBag : List (Nat × (Nat × Nat)) := [(9, 9, 7), (9, 9, 8), (9, 9, 14), (13, 13, 0), (15, 15, 3), (15, 15, 8), (17, 17, 0), (18, 18, 0), (19, 19, 0), (20, 20, 0), (21, 21, 0), (22, 22, 0), (24, 24, 0), (25, 25, 0), (26, 26, 0), (27, 27, 0), (100, 100, 7), (102, 102, 0), (110, 110, 0), (111, 111, 0), (116, 116, 0), (117, 117, 0), (119, 119, 0), (459, 459, 0), (462, 462, 0)]
theorem fr_fLines_emptyBag_h69 : ∀ (n : Nat) {s : ev_M} {x1 : Int32} {x2 : Int32} {x3 : Int32} {q : ev_M × Int32} , fLines_emptyBag_h69 n s x1 x2 x3 = some q → fr F_Lines_emptyBag s q.1 := by
  intro n
  induction n with
  | zero => intro s x1 x2 x3 q h; cases h
  | succ n ih =>
    intro s x1 x2 x3 q h
    have g : fr F_Lines_emptyBag s s := fr.rf
    refine fr_if h (fun h => ?_) fun h => ?_
    · refine fr_gd h fun c0 h => ?_
      refine fr_gd h fun c1 h => ?_
      refine fr_gd h fun c2 h => ?_
      refine fr_bd1 h fun s1 hc h => ?_
      have gs1 := g.tr ((fr_fItems_comeInAt hc).mono (F := F_Lines_emptyBag) (by decide +kernel))
      exact gs1.tr ((ih h))
    · refine fr_gd h fun c0 h => ?_
      refine fr_ltM h (Q := fr F_Lines_emptyBag s) (g.wI rfl) fun s2 gs2 h => ?_
      refine fr_gd h fun c1 h => ?_
      refine fr_ltM h (Q := fr F_Lines_emptyBag s) (gs2.wI rfl) fun s3 gs3 h => ?_
      cases h; exact gs3
theorem fr_fLines_emptyBag {s : ev_M} {a1 : Int32} {q : ev_M × Int32} (h : fLines_emptyBag s a1 = some q) : fr F_Lines_emptyBag s q.1 := by
  have g : fr F_Lines_emptyBag s s := fr.rf
  refine fr_bd1 h fun v4 hc h => ?_
  refine fr_if h (fun h => ?_) fun h => ?_
  · cases h; exact g
  · refine fr_gd h fun c0 h => ?_
    refine fr_if h (fun h => ?_) fun h => ?_
    · refine fr_gd h fun c1 h => ?_
      refine fr_gd h fun c2 h => ?_
      refine fr_if h (fun h => ?_) fun h => ?_
      · refine fr_bd2 h fun s5 v6 hc h => ?_
        have gs5 : fr F_Lines_emptyBag s s5 := g.tr ((fr_fLog_admits hc).mono (F := F_Lines_emptyBag) (by decide +kernel))
        refine fr_if h (fun h => ?_) fun h => ?_
        · cases h; exact gs5
        · refine fr_gd h fun c3 h => ?_
          refine fr_ltI h fun v7 h => ?_
          exact gs5.tr ((fr_fLines_emptyBag_h69 1048576 h))
      · cases h; exact g
    · cases h; exact g
def F_Money_transfer : List (Nat × (Nat × Nat)) := [(78, 78, 7), (80, 80, 0), (82, 82, 0), (83, 83, 0), (84, 84, 0), (85, 85, 0)]
theorem fr_fMoney_transfer {s : ev_M} {a1 : Int32} {a2 : Int32} {a3 : Int32} {a4 : Int32} {q : ev_M} (h : fMoney_transfer s a1 a2 a3 a4 = some q) : fr F_Money_transfer s q := by
  have g : fr F_Money_transfer s s := fr.rf
  refine fr_if h (fun h => ?_) fun h => ?_
  · cases h; exact g
  · refine fr_if h (fun h => ?_) fun h => ?_
    · refine fr_gd h fun c0 h => ?_
      refine fr_gd h fun c1 h => ?_
      refine fr_ltM h (Q := fr F_Money_transfer s) (g.wL rfl) fun s1 gs1 h => ?_
      refine fr_gd h fun c2 h => ?_
      refine fr_gd h fun c3 h => ?_
      refine fr_ltM h (Q := fr F_Money_transfer s) (gs1.wL rfl) fun s2 gs2 h => ?_
      refine fr_gd h fun c4 h => ?_
      refine fr_ltM h (Q := fr F_Money_transfer s) (gs2.wI rfl) fun s3 gs3 h => ?_
      refine fr_gd h fun c5 h => ?_
      refine fr_ltM h (Q := fr F_Money_transfer s) (gs3.wI rfl) fun s4 gs4 h => ?_
      refine fr_gd h fun c6 h => ?_
      refine fr_ltM h (Q := fr F_Money_transfer s) (gs4.wI rfl) fun s5 gs5 h => ?_
      refine fr_ltM h (Q := fr F_Money_transfer s) (gs5.wI rfl) fun s6 gs6 h => ?_
      refine fr_gd h fun c7 h => ?_
      refine fr_ltM h (Q := fr F_Money_transfer s) (gs6.wI rfl) fun s7 gs7 h => ?_
      cases h; exact gs7
    · cases h; exact g
def F_Items_handOver : List (Nat × (Nat × Nat)) := [(9, 9, 7), (9, 9, 8), (9, 9, 14), (13, 13, 0), (15, 15, 3), (15, 15, 8), (17, 17, 0), (18, 18, 0), (19, 19, 0), (20, 20, 0), (21, 21, 0), (22, 22, 0), (24, 24, 0), (25, 25, 0), (26, 26, 0), (27, 27, 0), (78, 78, 7), (80, 80, 0), (82, 82, 0), (83, 83, 0), (84, 84, 0), (85, 85, 0), (100, 100, 7), (102, 102, 0), (111, 111, 0), (116, 116, 0), (117, 117, 0), (119, 119, 0)]
theorem fr_fItems_handOver_b173 {s : ev_M} {x1 : Int32} {x6 : Int32} {x7 : Int32} {q : ev_M × Int32} (h : fItems_handOver_b173 s x1 x6 x7 = some q) : fr F_Items_handOver s q.1 := by
  have g : fr F_Items_handOver s s := fr.rf
  refine fr_bd2 h fun s1 v2 hc h => ?_
  have gs1 : fr F_Items_handOver s s1 := g.tr ((fr_fLog_admits hc).mono (F := F_Items_handOver) (by decide +kernel))
  refine fr_if h (fun h => ?_) fun h => ?_
  · cases h; exact gs1
  · refine fr_bd1 h fun s3 hc h => ?_
    have gs3 := gs1.tr ((fr_fItems_come hc).mono (F := F_Items_handOver) (by decide +kernel))
    refine fr_bd1 h fun s4 hc h => ?_
    have gs4 := gs3.tr ((fr_fMoney_transfer hc).mono (F := F_Items_handOver) (by decide +kernel))
    refine fr_gd h fun c0 h => ?_
    refine fr_bd1 h fun s5 hc h => ?_
    have gs5 := gs4.tr ((fr_fMoney_transfer hc).mono (F := F_Items_handOver) (by decide +kernel))
    cases h; exact gs5
theorem fr_fItems_handOver_b153 {s : ev_M} {x1 : Int32} {x6 : Int32} {x7 : Int32} {y0 : Int32} {y1 : Int32} {q : ev_M × Int32} (h : fItems_handOver_b153 s x1 x6 x7 y0 y1 = some q) : fr F_Items_handOver s q.1 := by
  have g : fr F_Items_handOver s s := fr.rf
  refine fr_ltI h fun v6 h => ?_
  refine fr_if h (fun h => ?_) fun h => ?_
  · exact g.tr ((fr_fItems_handOver_b173 h))
  · refine fr_bd1 h fun v7 hc h => ?_
    refine fr_if h (fun h => ?_) fun h => ?_
    · cases h; exact g
    · exact g.tr ((fr_fItems_handOver_b173 h))
theorem fr_fItems_handOver_b143 {s : ev_M} {x1 : Int32} {x6 : Int32} {x7 : Int32} {y0 : Int32} {q : ev_M × Int32} (h : fItems_handOver_b143 s x1 x6 x7 y0 = some q) : fr F_Items_handOver s q.1 := by
  have g : fr F_Items_handOver s s := fr.rf
  refine fr_if h (fun h => ?_) fun h => ?_
  · exact g.tr ((fr_fItems_handOver_b153 h))
  · exact g.tr ((fr_fItems_handOver_b153 h))
theorem fr_fItems_handOver_b106 {s : ev_M} {x1 : Int32} {x4 : Int32} {q : ev_M × Int32} (h : fItems_handOver_b106 s x1 x4 = some q) : fr F_Items_handOver s q.1 := by
  have g : fr F_Items_handOver s s := fr.rf
  refine fr_bd1 h fun v8 hc h => ?_
  refine fr_bd1 h fun v9 hc h => ?_
  refine fr_if h (fun h => ?_) fun h => ?_
  · refine fr_if h (fun h => ?_) fun h => ?_
    · exact g.tr ((fr_fItems_handOver_b143 h))
    · exact g.tr ((fr_fItems_handOver_b143 h))
  · cases h; exact g
theorem fr_fItems_handOver_b90 {s : ev_M} {x1 : Int32} {x3 : Int32} {x4 : Int32} {q : ev_M × Int32} (h : fItems_handOver_b90 s x1 x3 x4 = some q) : fr F_Items_handOver s q.1 := by
  have g : fr F_Items_handOver s s := fr.rf
  refine fr_bd1 h fun v10 hc h => ?_
  refine fr_if h (fun h => ?_) fun h => ?_
  · exact g.tr ((fr_fItems_handOver_b106 h))
  · refine fr_if h (fun h => ?_) fun h => ?_
    · cases h; exact g
    · exact g.tr ((fr_fItems_handOver_b106 h))
theorem fr_fItems_handOver {s : ev_M} {a1 : Int32} {a2 : Int32} {a3 : Int32} {a4 : Int32} {a5 : Int32} {q : ev_M × Int32} (h : fItems_handOver s a1 a2 a3 a4 a5 = some q) : fr F_Items_handOver s q.1 := by
  have g : fr F_Items_handOver s s := fr.rf
  refine fr_bd1 h fun v11 hc h => ?_
  refine fr_if h (fun h => ?_) fun h => ?_
  · cases h; exact g
  · refine fr_bd1 h fun v12 hc h => ?_
    refine fr_if h (fun h => ?_) fun h => ?_
    · refine fr_bd1 h fun v13 hc h => ?_
      refine fr_if h (fun h => ?_) fun h => ?_
      · refine fr_bd1 h fun v14 hc h => ?_
        refine fr_if h (fun h => ?_) fun h => ?_
        · refine fr_if h (fun h => ?_) fun h => ?_
          · cases h; exact g
          · refine fr_gd h fun c0 h => ?_
            refine fr_if h (fun h => ?_) fun h => ?_
            · refine fr_bd1 h fun v15 hc h => ?_
              refine fr_if h (fun h => ?_) fun h => ?_
              · exact g.tr ((fr_fItems_handOver_b90 h))
              · refine fr_gd h fun c1 h => ?_
                refine fr_if h (fun h => ?_) fun h => ?_
                · exact g.tr ((fr_fItems_handOver_b90 h))
                · cases h; exact g
            · exact g.tr ((fr_fItems_handOver_b90 h))
        · cases h; exact g
      · cases h; exact g
    · cases h; exact g
def F_Items_handAtDoor : List (Nat × (Nat × Nat)) := [(9, 9, 7), (9, 9, 8), (9, 9, 14), (13, 13, 0), (15, 15, 3), (15, 15, 8), (17, 17, 0), (18, 18, 0), (19, 19, 0), (20, 20, 0), (21, 21, 0), (22, 22, 0), (24, 24, 0), (25, 25, 0), (26, 26, 0), (27, 27, 0), (78, 78, 7), (80, 80, 0), (82, 82, 0), (83, 83, 0), (84, 84, 0), (85, 85, 0), (100, 100, 7), (102, 102, 0), (111, 111, 0), (116, 116, 0), (117, 117, 0), (119, 119, 0)]
theorem fr_fItems_handAtDoor_b28 {s : ev_M} {y1 : Int32} {y2 : Int32} {y3 : Int32} {y4 : Int32} {y5 : Int32} {q : ev_M × Int32} (h : fItems_handAtDoor_b28 s y1 y2 y3 y4 y5 = some q) : fr F_Items_handAtDoor s q.1 := by
  have g : fr F_Items_handAtDoor s s := fr.rf
  refine fr_bd2 h fun s1 v2 hc h => ?_
  have gs1 : fr F_Items_handAtDoor s s1 := g.tr ((fr_fItems_handOver hc).mono (F := F_Items_handAtDoor) (by decide +kernel))
  cases h; exact gs1
theorem fr_fItems_handAtDoor_b27 {s : ev_M} {y1 : Int32} {y2 : Int32} {y3 : Int32} {y4 : Int32} {q : ev_M × Int32} (h : fItems_handAtDoor_b27 s y1 y2 y3 y4 = some q) : fr F_Items_handAtDoor s q.1 := by
  have g : fr F_Items_handAtDoor s s := fr.rf
  exact g.tr ((fr_fItems_handAtDoor_b28 h))
theorem fr_fItems_handAtDoor {s : ev_M} {a1 : Int32} {a2 : Int32} {a3 : Int32} {a4 : Int32} {q : ev_M × Int32} (h : fItems_handAtDoor s a1 a2 a3 a4 = some q) : fr F_Items_handAtDoor s q.1 := by
  have g : fr F_Items_handAtDoor s s := fr.rf
  refine fr_bd1 h fun v3 hc h => ?_
  refine fr_if h (fun h => ?_) fun h => ?_
  · exact g.tr ((fr_fItems_handAtDoor_b27 h))
  · refine fr_bd1 h fun v4 hc h => ?_
    refine fr_if h (fun h => ?_) fun h => ?_
    · exact g.tr ((fr_fItems_handAtDoor_b27 h))
    · exact g.tr ((fr_fItems_handAtDoor_b28 h))
def F_Items_keepFor : List (Nat × (Nat × Nat)) := [(15, 15, 3), (15, 15, 8), (17, 17, 0), (18, 18, 0), (19, 19, 0), (20, 20, 0), (21, 21, 0), (22, 22, 0), (24, 24, 0), (25, 25, 0), (26, 26, 0), (27, 27, 0), (100, 100, 7), (102, 102, 0), (111, 111, 0), (116, 116, 0), (117, 117, 0), (119, 119, 0)]
theorem fr_fItems_keepFor {s : ev_M} {a1 : Int32} {a2 : Int32} {q : ev_M} (h : fItems_keepFor s a1 a2 = some q) : fr F_Items_keepFor s q := by
  have g : fr F_Items_keepFor s s := fr.rf
  refine fr_bd1 h fun s1 hc h => ?_
  have gs1 := g.tr ((fr_fItems_come hc).mono (F := F_Items_keepFor) (by decide +kernel))
  refine fr_bd1 h fun v2 hc h => ?_
  refine fr_gd h fun c0 h => ?_
  refine fr_ltM h (Q := fr F_Items_keepFor s) (gs1.wI rfl) fun s3 gs3 h => ?_
  cases h; exact gs3
def F_Items_missAtDoor : List (Nat × (Nat × Nat)) := [(9, 9, 7), (9, 9, 8), (9, 9, 14), (13, 13, 0), (15, 15, 3), (15, 15, 8), (17, 17, 0), (18, 18, 0), (19, 19, 0), (20, 20, 0), (21, 21, 0), (22, 22, 0), (24, 24, 0), (25, 25, 0), (26, 26, 0), (27, 27, 0), (100, 100, 7), (102, 102, 0), (111, 111, 0), (116, 116, 0), (117, 117, 0), (119, 119, 0)]
theorem fr_fItems_missAtDoor {s : ev_M} {a1 : Int32} {q : ev_M × Int32} (h : fItems_missAtDoor s a1 = some q) : fr F_Items_missAtDoor s q.1 := by
  have g : fr F_Items_missAtDoor s s := fr.rf
  refine fr_bd1 h fun v1 hc h => ?_
  refine fr_if h (fun h => ?_) fun h => ?_
  · cases h; exact g
  · refine fr_bd1 h fun v2 hc h => ?_
    refine fr_if h (fun h => ?_) fun h => ?_
    · cases h; exact g
    · refine fr_bd2 h fun s3 v4 hc h => ?_
      have gs3 : fr F_Items_missAtDoor s s3 := g.tr ((fr_fLog_admits hc).mono (F := F_Items_missAtDoor) (by decide +kernel))
      refine fr_if h (fun h => ?_) fun h => ?_
      · cases h; exact gs3
      · refine fr_bd1 h fun s5 hc h => ?_
        have gs5 := gs3.tr ((fr_fItems_keepFor hc).mono (F := F_Items_missAtDoor) (by decide +kernel))
        refine fr_gd h fun c0 h => ?_
        cases h; exact gs5
def F_Items_goBack : List (Nat × (Nat × Nat)) := [(15, 15, 3), (15, 15, 8), (17, 17, 0), (18, 18, 0), (19, 19, 0), (20, 20, 0), (21, 21, 0), (22, 22, 0), (24, 24, 0), (25, 25, 0), (26, 26, 0), (27, 27, 0), (100, 100, 7), (102, 102, 0), (111, 111, 0), (112, 112, 0), (116, 116, 0), (117, 117, 0), (119, 119, 0)]
theorem fr_fItems_goBack_b41 {s : ev_M} {x1 : Int32} {y1 : Int32} {y2 : Int32} {q : ev_M × Int32} (h : fItems_goBack_b41 s x1 y1 y2 = some q) : fr F_Items_goBack s q.1 := by
  have g : fr F_Items_goBack s s := fr.rf
  refine fr_bd1 h fun s1 hc h => ?_
  have gs1 := g.tr ((fr_fItems_come hc).mono (F := F_Items_goBack) (by decide +kernel))
  refine fr_gd h fun c0 h => ?_
  cases h; exact gs1
theorem fr_fItems_goBack_b18 {s : ev_M} {x1 : Int32} {y0 : Int32} {q : ev_M × Int32} (h : fItems_goBack_b18 s x1 y0 = some q) : fr F_Items_goBack s q.1 := by
  have g : fr F_Items_goBack s s := fr.rf
  refine fr_gd h fun c0 h => ?_
  refine fr_ltM h (Q := fr F_Items_goBack s) (g.wI rfl) fun s2 gs2 h => ?_
  refine fr_if h (fun h => ?_) fun h => ?_
  · exact gs2.tr ((fr_fItems_goBack_b41 h))
  · exact gs2.tr ((fr_fItems_goBack_b41 h))
theorem fr_fItems_goBack {s : ev_M} {a1 : Int32} {q : ev_M × Int32} (h : fItems_goBack s a1 = some q) : fr F_Items_goBack s q.1 := by
  have g : fr F_Items_goBack s s := fr.rf
  refine fr_gd h fun c0 h => ?_
  refine fr_if h (fun h => ?_) fun h => ?_
  · exact g.tr ((fr_fItems_goBack_b18 h))
  · exact g.tr ((fr_fItems_goBack_b18 h))
def F_Items_refuseItem : List (Nat × (Nat × Nat)) := [(9, 9, 7), (9, 9, 8), (9, 9, 14), (13, 13, 0), (15, 15, 3), (15, 15, 8), (17, 17, 0), (18, 18, 0), (19, 19, 0), (20, 20, 0), (21, 21, 0), (22, 22, 0), (24, 24, 0), (25, 25, 0), (26, 26, 0), (27, 27, 0), (100, 100, 7), (102, 102, 0), (111, 111, 0), (112, 112, 0), (116, 116, 0), (117, 117, 0), (119, 119, 0)]
theorem fr_fItems_refuseItem_b31 {s : ev_M} {x1 : Int32} {q : ev_M × Int32} (h : fItems_refuseItem_b31 s x1 = some q) : fr F_Items_refuseItem s q.1 := by
  have g : fr F_Items_refuseItem s s := fr.rf
  refine fr_bd2 h fun s1 v2 hc h => ?_
  have gs1 : fr F_Items_refuseItem s s1 := g.tr ((fr_fLog_admits hc).mono (F := F_Items_refuseItem) (by decide +kernel))
  refine fr_if h (fun h => ?_) fun h => ?_
  · cases h; exact gs1
  · refine fr_bd2 h fun s3 v4 hc h => ?_
    have gs3 : fr F_Items_refuseItem s s3 := gs1.tr ((fr_fItems_goBack hc).mono (F := F_Items_refuseItem) (by decide +kernel))
    cases h; exact gs3
theorem fr_fItems_refuseItem {s : ev_M} {a1 : Int32} {q : ev_M × Int32} (h : fItems_refuseItem s a1 = some q) : fr F_Items_refuseItem s q.1 := by
  have g : fr F_Items_refuseItem s s := fr.rf
  refine fr_bd1 h fun v5 hc h => ?_
  refine fr_if h (fun h => ?_) fun h => ?_
  · cases h; exact g
  · refine fr_bd1 h fun v6 hc h => ?_
    refine fr_if h (fun h => ?_) fun h => ?_
    · refine fr_bd1 h fun v7 hc h => ?_
      refine fr_if h (fun h => ?_) fun h => ?_
      · cases h; exact g
      · exact g.tr ((fr_fItems_refuseItem_b31 h))
    · exact g.tr ((fr_fItems_refuseItem_b31 h))
def F_Lock_fill : List (Nat × (Nat × Nat)) := [(9, 9, 7), (9, 9, 8), (9, 9, 14), (13, 13, 0), (15, 15, 3), (15, 15, 8), (17, 17, 0), (18, 18, 0), (19, 19, 0), (20, 20, 0), (21, 21, 0), (22, 22, 0), (24, 24, 0), (25, 25, 0), (26, 26, 0), (27, 27, 0), (100, 100, 7), (102, 102, 0), (111, 111, 0), (116, 116, 0), (117, 117, 0), (119, 119, 0), (130, 137, 0)]
theorem fr_fLock_fill_b60 {s : ev_M} {x1 : Int32} {x2 : Int32} {y0 : Int32} {q : ev_M × Int32} (h : fLock_fill_b60 s x1 x2 y0 = some q) : fr F_Lock_fill s q.1 := by
  have g : fr F_Lock_fill s s := fr.rf
  refine fr_if h (fun h => ?_) fun h => ?_
  · cases h; exact g
  · refine fr_bd1 h fun v1 hc h => ?_
    refine fr_if h (fun h => ?_) fun h => ?_
    · cases h; exact g
    · refine fr_bd1 h fun v2 hc h => ?_
      refine fr_if h (fun h => ?_) fun h => ?_
      · cases h; exact g
      · refine fr_bd2 h fun s3 v4 hc h => ?_
        have gs3 : fr F_Lock_fill s s3 := g.tr ((fr_fLog_admits hc).mono (F := F_Lock_fill) (by decide +kernel))
        refine fr_if h (fun h => ?_) fun h => ?_
        · cases h; exact gs3
        · refine fr_gd h fun c0 h => ?_
          refine fr_gd h fun c1 h => ?_
          refine fr_ltM h (Q := fr F_Lock_fill s) (gs3.wI (inF_row (lo := 130) (hi := 137) rfl (Nat.le_add_right _ _) (by have := (inb_lt c0); omega))) fun s5 gs5 h => ?_
          refine fr_bd1 h fun s6 hc h => ?_
          have gs6 := gs5.tr ((fr_fItems_keepFor hc).mono (F := F_Lock_fill) (by decide +kernel))
          refine fr_gd h fun c2 h => ?_
          refine fr_ltM h (Q := fr F_Lock_fill s) (gs6.wI rfl) fun s7 gs7 h => ?_
          cases h; exact gs7
theorem fr_fLock_fill_b59 {s : ev_M} {x1 : Int32} {x2 : Int32} {q : ev_M × Int32} (h : fLock_fill_b59 s x1 x2 = some q) : fr F_Lock_fill s q.1 := by
  have g : fr F_Lock_fill s s := fr.rf
  exact g.tr ((fr_fLock_fill_b60 h))
theorem fr_fLock_fill {s : ev_M} {a1 : Int32} {a2 : Int32} {q : ev_M × Int32} (h : fLock_fill s a1 a2 = some q) : fr F_Lock_fill s q.1 := by
  have g : fr F_Lock_fill s s := fr.rf
  refine fr_bd1 h fun v8 hc h => ?_
  refine fr_if h (fun h => ?_) fun h => ?_
  · cases h; exact g
  · refine fr_bd1 h fun v9 hc h => ?_
    refine fr_if h (fun h => ?_) fun h => ?_
    · cases h; exact g
    · refine fr_bd1 h fun v10 hc h => ?_
      refine fr_if h (fun h => ?_) fun h => ?_
      · exact g.tr ((fr_fLock_fill_b59 h))
      · refine fr_gd h fun c0 h => ?_
        refine fr_gd h fun c1 h => ?_
        refine fr_if h (fun h => ?_) fun h => ?_
        · exact g.tr ((fr_fLock_fill_b60 h))
        · exact g.tr ((fr_fLock_fill_b59 h))
def F_Items_handAtPost : List (Nat × (Nat × Nat)) := [(9, 9, 7), (9, 9, 8), (9, 9, 14), (13, 13, 0), (15, 15, 3), (15, 15, 8), (17, 17, 0), (18, 18, 0), (19, 19, 0), (20, 20, 0), (21, 21, 0), (22, 22, 0), (24, 24, 0), (25, 25, 0), (26, 26, 0), (27, 27, 0), (78, 78, 7), (80, 80, 0), (82, 82, 0), (83, 83, 0), (84, 84, 0), (85, 85, 0), (100, 100, 7), (102, 102, 0), (111, 111, 0), (116, 116, 0), (117, 117, 0), (119, 119, 0)]
theorem fr_fItems_handAtPost_b27 {s : ev_M} {y1 : Int32} {y2 : Int32} {y3 : Int32} {y4 : Int32} {y5 : Int32} {q : ev_M × Int32} (h : fItems_handAtPost_b27 s y1 y2 y3 y4 y5 = some q) : fr F_Items_handAtPost s q.1 := by
  have g : fr F_Items_handAtPost s s := fr.rf
  refine fr_bd2 h fun s1 v2 hc h => ?_
  have gs1 : fr F_Items_handAtPost s s1 := g.tr ((fr_fItems_handOver hc).mono (F := F_Items_handAtPost) (by decide +kernel))
  cases h; exact gs1
theorem fr_fItems_handAtPost_b26 {s : ev_M} {y1 : Int32} {y2 : Int32} {y3 : Int32} {y4 : Int32} {q : ev_M × Int32} (h : fItems_handAtPost_b26 s y1 y2 y3 y4 = some q) : fr F_Items_handAtPost s q.1 := by
  have g : fr F_Items_handAtPost s s := fr.rf
  exact g.tr ((fr_fItems_handAtPost_b27 h))
theorem fr_fItems_handAtPost {s : ev_M} {a1 : Int32} {a2 : Int32} {a3 : Int32} {a4 : Int32} {q : ev_M × Int32} (h : fItems_handAtPost s a1 a2 a3 a4 = some q) : fr F_Items_handAtPost s q.1 := by
  have g : fr F_Items_handAtPost s s := fr.rf
  refine fr_bd1 h fun v3 hc h => ?_
  refine fr_if h (fun h => ?_) fun h => ?_
  · exact g.tr ((fr_fItems_handAtPost_b26 h))
  · refine fr_bd1 h fun v4 hc h => ?_
    refine fr_if h (fun h => ?_) fun h => ?_
    · exact g.tr ((fr_fItems_handAtPost_b26 h))
    · exact g.tr ((fr_fItems_handAtPost_b27 h))
def F_Lock_tryKey : List (Nat × (Nat × Nat)) := [(9, 9, 7), (9, 9, 8), (9, 9, 14), (13, 13, 0), (15, 15, 3), (15, 15, 8), (17, 17, 0), (18, 18, 0), (19, 19, 0), (20, 20, 0), (21, 21, 0), (22, 22, 0), (24, 24, 0), (25, 25, 0), (26, 26, 0), (27, 27, 0), (100, 100, 7), (102, 102, 0), (111, 111, 0), (116, 116, 0), (117, 117, 0), (119, 119, 0), (128, 128, 0), (130, 137, 0)]
theorem fr_fLock_tryKey_b96 {k39 : ev_M → Int32 → Int32 → Int32 → Option (ev_M × Int32)} (hk39 : ∀ {s : ev_M} {z1 : Int32} {z2 : Int32} {z3 : Int32} {q : ev_M × Int32} , k39 s z1 z2 z3 = some q → fr F_Lock_tryKey s q.1) {s : ev_M} {x1 : Int32} {x2 : Int32} {x3 : Int32} {q : ev_M × Int32} (h : fLock_tryKey_b96 k39 s x1 x2 x3 = some q) : fr F_Lock_tryKey s q.1 := by
  have g : fr F_Lock_tryKey s s := fr.rf
  exact g.tr ((hk39 h))
theorem fr_fLock_tryKey_h39 : ∀ (n : Nat) {s : ev_M} {x1 : Int32} {x2 : Int32} {x3 : Int32} {q : ev_M × Int32} , fLock_tryKey_h39 n s x1 x2 x3 = some q → fr F_Lock_tryKey s q.1 := by
  intro n
  induction n with
  | zero => intro s x1 x2 x3 q h; cases h
  | succ n ih =>
    intro s x1 x2 x3 q h
    have g : fr F_Lock_tryKey s s := fr.rf
    refine fr_gd h fun c0 h => ?_
    refine fr_if h (fun h => ?_) fun h => ?_
    · refine fr_gd h fun c1 h => ?_
      refine fr_gd h fun c2 h => ?_
      refine fr_ltI h fun v1 h => ?_
      refine fr_if h (fun h => ?_) fun h => ?_
      · exact g.tr ((fr_fLock_tryKey_b96 ih h))
      · refine fr_bd1 h fun v2 hc h => ?_
        refine fr_if h (fun h => ?_) fun h => ?_
        · refine fr_gd h fun c3 h => ?_
          refine fr_gd h fun c4 h => ?_
          refine fr_ltM h (Q := fr F_Lock_tryKey s) (g.wI (inF_row (lo := 130) (hi := 137) rfl (Nat.le_add_right _ _) (by have := (inb_lt c3); omega))) fun s3 gs3 h => ?_
          refine fr_bd1 h fun s4 hc h => ?_
          have gs4 := gs3.tr ((fr_fItems_come hc).mono (F := F_Lock_tryKey) (by decide +kernel))
          cases h; exact gs4
        · exact g.tr ((fr_fLock_tryKey_b96 ih h))
    · refine fr_gd h fun c1 h => ?_
      refine fr_gd h fun c2 h => ?_
      refine fr_ltM h (Q := fr F_Lock_tryKey s) (g.wI rfl) fun s5 gs5 h => ?_
      cases h; exact gs5
theorem fr_fLock_tryKey {s : ev_M} {a1 : Int32} {a2 : Int32} {q : ev_M × Int32} (h : fLock_tryKey s a1 a2 = some q) : fr F_Lock_tryKey s q.1 := by
  have g : fr F_Lock_tryKey s s := fr.rf
  refine fr_bd1 h fun v6 hc h => ?_
  refine fr_if h (fun h => ?_) fun h => ?_
  · cases h; exact g
  · refine fr_gd h fun c0 h => ?_
    refine fr_if h (fun h => ?_) fun h => ?_
    · refine fr_bd2 h fun s7 v8 hc h => ?_
      have gs7 : fr F_Lock_tryKey s s7 := g.tr ((fr_fLog_admits hc).mono (F := F_Lock_tryKey) (by decide +kernel))
      refine fr_if h (fun h => ?_) fun h => ?_
      · cases h; exact gs7
      · exact gs7.tr ((fr_fLock_tryKey_h39 1048576 h))
    · cases h; exact g
def F_PH_without_466 : List (Nat × (Nat × Nat)) := [(466, 545, 0)]
theorem fr_fPH_without_466_b36 {k5 : ev_M → Nat → Int32 → Int32 → Int32 → Int32 → Option (ev_M × Int32)} (hk5 : ∀ {s : ev_M} {z1 : Nat} {z2 : Int32} {z3 : Int32} {z4 : Int32} {z5 : Int32} {q : ev_M × Int32} (bz1 : z1 < 80) , k5 s z1 z2 z3 z4 z5 = some q → fr F_PH_without_466 s q.1) {s : ev_M} {i0 : Nat} {x1 : Int32} {x2 : Int32} {x3 : Int32} {x4 : Int32} {q : ev_M × Int32} (bi0 : i0 < 80) (h : fPH_without_466_b36 k5 s i0 x1 x2 x3 x4 = some q) : fr F_PH_without_466 s q.1 := by
  have g : fr F_PH_without_466 s s := fr.rf
  exact g.tr ((hk5 bi0 h))
theorem fr_fPH_without_466_h5 : ∀ (n : Nat) {s : ev_M} {i0 : Nat} {x1 : Int32} {x2 : Int32} {x3 : Int32} {x4 : Int32} {q : ev_M × Int32} (bi0 : i0 < 80) , fPH_without_466_h5 n s i0 x1 x2 x3 x4 = some q → fr F_PH_without_466 s q.1 := by
  intro n
  induction n with
  | zero => intro s i0 x1 x2 x3 x4 q bi0 h; cases h
  | succ n ih =>
    intro s i0 x1 x2 x3 x4 q bi0 h
    have g : fr F_PH_without_466 s s := fr.rf
    refine fr_if h (fun h => ?_) fun h => ?_
    · refine fr_if h (fun h => ?_) fun h => ?_
      · refine fr_gd h fun c0 h => ?_
        refine fr_if h (fun h => ?_) fun h => ?_
        · exact g.tr ((fr_fPH_without_466_b36 ih bi0 h))
        · refine fr_gd h fun c1 h => ?_
          refine fr_gd h fun c2 h => ?_
          refine fr_ltM h (Q := fr F_PH_without_466 s) (g.wI (inF_row (lo := 466) (hi := 545) rfl (Nat.le_add_right _ _) (by have := bi0; omega))) fun s1 gs1 h => ?_
          exact gs1.tr ((fr_fPH_without_466_b36 ih bi0 h))
      · cases h; exact g
    · cases h; exact g
theorem fr_fPH_without_466 {s : ev_M} {i0 : Nat} {a1 : Int32} {a2 : Int32} {q : ev_M × Int32} (bi0 : i0 < 80) (h : fPH_without_466 s i0 a1 a2 = some q) : fr F_PH_without_466 s q.1 := by
  have g : fr F_PH_without_466 s s := fr.rf
  exact g.tr ((fr_fPH_without_466_h5 1048576 bi0 h))
def F_Lines_drop : List (Nat × (Nat × Nat)) := [(462, 462, 0), (466, 545, 0)]
theorem fr_fLines_drop {s : ev_M} {a1 : Int32} {q : ev_M} (h : fLines_drop s a1 = some q) : fr F_Lines_drop s q := by
  have g : fr F_Lines_drop s s := fr.rf
  refine fr_gd h fun c0 h => ?_
  refine fr_ltI h fun v1 h => ?_
  refine fr_bd1 h fun v2 hc h => ?_
  refine fr_if h (fun h => ?_) fun h => ?_
  · cases h; exact g
  · refine fr_gd h fun c1 h => ?_
    refine fr_gd h fun c2 h => ?_
    refine fr_bd2 h fun s3 v4 hc h => ?_
    have gs3 : fr F_Lines_drop s s3 := g.tr ((fr_fPH_without_466 (inb_lt c2) hc).mono (F := F_Lines_drop) (by decide +kernel))
    refine fr_gd h fun c3 h => ?_
    refine fr_ltM h (Q := fr F_Lines_drop s) (gs3.wI rfl) fun s5 gs5 h => ?_
    cases h; exact gs5
def F_PH_without_160 : List (Nat × (Nat × Nat)) := [(160, 171, 0)]
theorem fr_fPH_without_160_b36 {k5 : ev_M → Nat → Int32 → Int32 → Int32 → Int32 → Option (ev_M × Int32)} (hk5 : ∀ {s : ev_M} {z1 : Nat} {z2 : Int32} {z3 : Int32} {z4 : Int32} {z5 : Int32} {q : ev_M × Int32} (bz1 : z1 < 12) , k5 s z1 z2 z3 z4 z5 = some q → fr F_PH_without_160 s q.1) {s : ev_M} {i0 : Nat} {x1 : Int32} {x2 : Int32} {x3 : Int32} {x4 : Int32} {q : ev_M × Int32} (bi0 : i0 < 12) (h : fPH_without_160_b36 k5 s i0 x1 x2 x3 x4 = some q) : fr F_PH_without_160 s q.1 := by
  have g : fr F_PH_without_160 s s := fr.rf
  exact g.tr ((hk5 bi0 h))
theorem fr_fPH_without_160_h5 : ∀ (n : Nat) {s : ev_M} {i0 : Nat} {x1 : Int32} {x2 : Int32} {x3 : Int32} {x4 : Int32} {q : ev_M × Int32} (bi0 : i0 < 12) , fPH_without_160_h5 n s i0 x1 x2 x3 x4 = some q → fr F_PH_without_160 s q.1 := by
  intro n
  induction n with
  | zero => intro s i0 x1 x2 x3 x4 q bi0 h; cases h
  | succ n ih =>
    intro s i0 x1 x2 x3 x4 q bi0 h
    have g : fr F_PH_without_160 s s := fr.rf
    refine fr_if h (fun h => ?_) fun h => ?_
    · refine fr_if h (fun h => ?_) fun h => ?_
      · refine fr_gd h fun c0 h => ?_
        refine fr_if h (fun h => ?_) fun h => ?_
        · exact g.tr ((fr_fPH_without_160_b36 ih bi0 h))
        · refine fr_gd h fun c1 h => ?_
          refine fr_gd h fun c2 h => ?_
          refine fr_ltM h (Q := fr F_PH_without_160 s) (g.wI (inF_row (lo := 160) (hi := 171) rfl (Nat.le_add_right _ _) (by have := bi0; omega))) fun s1 gs1 h => ?_
          exact gs1.tr ((fr_fPH_without_160_b36 ih bi0 h))
      · cases h; exact g
    · cases h; exact g
theorem fr_fPH_without_160 {s : ev_M} {i0 : Nat} {a1 : Int32} {a2 : Int32} {q : ev_M × Int32} (bi0 : i0 < 12) (h : fPH_without_160 s i0 a1 a2 = some q) : fr F_PH_without_160 s q.1 := by
  have g : fr F_PH_without_160 s s := fr.rf
  exact g.tr ((fr_fPH_without_160_h5 1048576 bi0 h))
def F_Rounds_drop : List (Nat × (Nat × Nat)) := [(144, 144, 0), (160, 171, 0)]
theorem fr_fRounds_drop_h15 : ∀ (n : Nat) {s : ev_M} {x1 : Int32} {x2 : Int32} {q : ev_M} , fRounds_drop_h15 n s x1 x2 = some q → fr F_Rounds_drop s q := by
  intro n
  induction n with
  | zero => intro s x1 x2 q h; cases h
  | succ n ih =>
    intro s x1 x2 q h
    have g : fr F_Rounds_drop s s := fr.rf
    refine fr_if h (fun h => ?_) fun h => ?_
    · refine fr_gd h fun c0 h => ?_
      refine fr_gd h fun c1 h => ?_
      refine fr_bd2 h fun s1 v2 hc h => ?_
      have gs1 : fr F_Rounds_drop s s1 := g.tr ((fr_fPH_without_160 (inb_lt c1) hc).mono (F := F_Rounds_drop) (by decide +kernel))
      refine fr_gd h fun c2 h => ?_
      refine fr_ltM h (Q := fr F_Rounds_drop s) (gs1.wI rfl) fun s3 gs3 h => ?_
      exact gs3.tr ((ih h))
    · cases h; exact g
theorem fr_fRounds_drop {s : ev_M} {a1 : Int32} {q : ev_M} (h : fRounds_drop s a1 = some q) : fr F_Rounds_drop s q := by
  have g : fr F_Rounds_drop s s := fr.rf
  refine fr_bd1 h fun v4 hc h => ?_
  refine fr_if h (fun h => ?_) fun h => ?_
  · cases h; exact g
  · exact g.tr ((fr_fRounds_drop_h15 1048576 h))
def F_Lock_drop : List (Nat × (Nat × Nat)) := [(130, 137, 0)]
theorem fr_fLock_drop {s : ev_M} {a1 : Int32} {q : ev_M} (h : fLock_drop s a1 = some q) : fr F_Lock_drop s q := by
  have g : fr F_Lock_drop s s := fr.rf
  refine fr_gd h fun c0 h => ?_
  refine fr_ltI h fun v1 h => ?_
  refine fr_bd1 h fun v2 hc h => ?_
  refine fr_if h (fun h => ?_) fun h => ?_
  · cases h; exact g
  · refine fr_bd1 h fun v3 hc h => ?_
    refine fr_if h (fun h => ?_) fun h => ?_
    · cases h; exact g
    · refine fr_gd h fun c1 h => ?_
      refine fr_gd h fun c2 h => ?_
      refine fr_ltM h (Q := fr F_Lock_drop s) (g.wI (inF_row (lo := 130) (hi := 137) rfl (Nat.le_add_right _ _) (by have := (inb_lt c1); omega))) fun s4 gs4 h => ?_
      cases h; exact gs4
def F_PH_loseItem : List (Nat × (Nat × Nat)) := [(9, 9, 7), (9, 9, 8), (9, 9, 14), (13, 13, 0), (15, 15, 3), (15, 15, 8), (17, 17, 0), (18, 18, 0), (19, 19, 0), (20, 20, 0), (21, 21, 0), (22, 22, 0), (24, 24, 0), (25, 25, 0), (26, 26, 0), (27, 27, 0), (100, 100, 7), (102, 102, 0), (111, 111, 0), (116, 116, 0), (117, 117, 0), (119, 119, 0), (130, 137, 0), (144, 144, 0), (160, 171, 0), (462, 462, 0), (466, 545, 0)]
theorem fr_fPH_loseItem {s : ev_M} {a1 : Int32} {q : ev_M × Int32} (h : fPH_loseItem s a1 = some q) : fr F_PH_loseItem s q.1 := by
  have g : fr F_PH_loseItem s s := fr.rf
  refine fr_bd1 h fun v1 hc h => ?_
  refine fr_if h (fun h => ?_) fun h => ?_
  · cases h; exact g
  · refine fr_bd1 h fun v2 hc h => ?_
    refine fr_if h (fun h => ?_) fun h => ?_
    · refine fr_bd2 h fun s3 v4 hc h => ?_
      have gs3 : fr F_PH_loseItem s s3 := g.tr ((fr_fLog_admits hc).mono (F := F_PH_loseItem) (by decide +kernel))
      refine fr_if h (fun h => ?_) fun h => ?_
      · cases h; exact gs3
      · refine fr_bd1 h fun s5 hc h => ?_
        have gs5 := gs3.tr ((fr_fLines_drop hc).mono (F := F_PH_loseItem) (by decide +kernel))
        refine fr_bd1 h fun s6 hc h => ?_
        have gs6 := gs5.tr ((fr_fRounds_drop hc).mono (F := F_PH_loseItem) (by decide +kernel))
        refine fr_bd1 h fun s7 hc h => ?_
        have gs7 := gs6.tr ((fr_fLock_drop hc).mono (F := F_PH_loseItem) (by decide +kernel))
        refine fr_bd1 h fun s8 hc h => ?_
        have gs8 := gs7.tr ((fr_fItems_come hc).mono (F := F_PH_loseItem) (by decide +kernel))
        cases h; exact gs8
    · cases h; exact g
def F_Money_openAccount : List (Nat × (Nat × Nat)) := [(9, 9, 7), (9, 9, 8), (9, 9, 14), (13, 13, 0), (78, 78, 4), (79, 79, 0)]
theorem fr_fMoney_openAccount {s : ev_M} {a1 : Int32} {q : ev_M × Int32} (h : fMoney_openAccount s a1 = some q) : fr F_Money_openAccount s q.1 := by
  have g : fr F_Money_openAccount s s := fr.rf
  refine fr_bd1 h fun v1 hc h => ?_
  refine fr_if h (fun h => ?_) fun h => ?_
  · cases h; exact g
  · refine fr_if h (fun h => ?_) fun h => ?_
    · refine fr_bd2 h fun s2 v3 hc h => ?_
      have gs2 : fr F_Money_openAccount s s2 := g.tr ((fr_fLog_admits hc).mono (F := F_Money_openAccount) (by decide +kernel))
      refine fr_if h (fun h => ?_) fun h => ?_
      · cases h; exact gs2
      · refine fr_ltM h (Q := fr F_Money_openAccount s) (gs2.wI rfl) fun s4 gs4 h => ?_
        refine fr_ltI h fun v5 h => ?_
        refine fr_gd h fun c0 h => ?_
        refine fr_ltM h (Q := fr F_Money_openAccount s) (gs4.wI rfl) fun s6 gs6 h => ?_
        cases h; exact gs6
    · cases h; exact g
def F_Money_payIn : List (Nat × (Nat × Nat)) := [(9, 9, 7), (9, 9, 8), (9, 9, 14), (13, 13, 0), (78, 78, 7), (80, 80, 0), (82, 82, 0), (83, 83, 0), (84, 84, 0), (85, 85, 0)]
theorem fr_fMoney_payIn {s : ev_M} {a1 : Int32} {a2 : Int32} {q : ev_M × Int32} (h : fMoney_payIn s a1 a2 = some q) : fr F_Money_payIn s q.1 := by
  have g : fr F_Money_payIn s s := fr.rf
  refine fr_bd1 h fun v1 hc h => ?_
  refine fr_if h (fun h => ?_) fun h => ?_
  · cases h; exact g
  · refine fr_bd1 h fun v2 hc h => ?_
    refine fr_if h (fun h => ?_) fun h => ?_
    · refine fr_bd1 h fun v3 hc h => ?_
      refine fr_if h (fun h => ?_) fun h => ?_
      · cases h; exact g
      · refine fr_bd2 h fun s4 v5 hc h => ?_
        have gs4 : fr F_Money_payIn s s4 := g.tr ((fr_fLog_admits hc).mono (F := F_Money_payIn) (by decide +kernel))
        refine fr_if h (fun h => ?_) fun h => ?_
        · cases h; exact gs4
        · refine fr_bd1 h fun s6 hc h => ?_
          have gs6 := gs4.tr ((fr_fMoney_transfer hc).mono (F := F_Money_payIn) (by decide +kernel))
          refine fr_gd h fun c0 h => ?_
          cases h; exact gs6
    · cases h; exact g
def F_Tape_readsEntry_1_1011 : List (Nat × (Nat × Nat)) := [(1, 1, 3), (1, 1, 5), (1, 1, 6), (3, 3, 0)]
theorem fr_fTape_readsEntry_1_1011_h56 : ∀ (n : Nat) {s : ev_M} {x2 : Int32} {x3 : Int32} {q : ev_M × Int32} , fTape_readsEntry_1_1011_h56 n s x2 x3 = some q → fr F_Tape_readsEntry_1_1011 s q.1 := by
  intro n
  induction n with
  | zero => intro s x2 x3 q h; cases h
  | succ n ih =>
    intro s x2 x3 q h
    have g : fr F_Tape_readsEntry_1_1011 s s := fr.rf
    refine fr_bd1 h fun v1 hc h => ?_
    refine fr_if h (fun h => ?_) fun h => ?_
    · refine fr_bd1 h fun v2 hc h => ?_
      refine fr_bd2 h fun s3 v4 hc h => ?_
      have gs3 : fr F_Tape_readsEntry_1_1011 s s3 := g.tr ((fr_fTape_reads_1 hc).mono (F := F_Tape_readsEntry_1_1011) (by decide +kernel))
      refine fr_if h (fun h => ?_) fun h => ?_
      · cases h; exact gs3
      · refine fr_if h (fun h => ?_) fun h => ?_
        · cases h; exact gs3
        · exact gs3.tr ((ih h))
    · cases h; exact g
theorem fr_fTape_readsEntry_1_1011_b36 {s : ev_M} {x2 : Int32} {y0 : Int32} {q : ev_M × Int32} (h : fTape_readsEntry_1_1011_b36 s x2 y0 = some q) : fr F_Tape_readsEntry_1_1011 s q.1 := by
  have g : fr F_Tape_readsEntry_1_1011 s s := fr.rf
  refine fr_if h (fun h => ?_) fun h => ?_
  · cases h; exact g
  · refine fr_ltM h (Q := fr F_Tape_readsEntry_1_1011 s) (g.wI rfl) fun s5 gs5 h => ?_
    exact gs5.tr ((fr_fTape_readsEntry_1_1011_h56 1048576 h))
theorem fr_fTape_readsEntry_1_1011_b35 {s : ev_M} {x2 : Int32} {q : ev_M × Int32} (h : fTape_readsEntry_1_1011_b35 s x2 = some q) : fr F_Tape_readsEntry_1_1011 s q.1 := by
  have g : fr F_Tape_readsEntry_1_1011 s s := fr.rf
  exact g.tr ((fr_fTape_readsEntry_1_1011_b36 h))
theorem fr_fTape_readsEntry_1_1011 {s : ev_M} {q : ev_M × Int32} (h : fTape_readsEntry_1_1011 s = some q) : fr F_Tape_readsEntry_1_1011 s q.1 := by
  have g : fr F_Tape_readsEntry_1_1011 s s := fr.rf
  refine fr_ltM h (Q := fr F_Tape_readsEntry_1_1011 s) (g.wI rfl) fun s6 gs6 h => ?_
  refine fr_bd1 h fun v7 hc h => ?_
  refine fr_if h (fun h => ?_) fun h => ?_
  · exact gs6.tr ((fr_fTape_readsEntry_1_1011_b35 h))
  · refine fr_if h (fun h => ?_) fun h => ?_
    · refine fr_bd1 h fun v8 hc h => ?_
      exact gs6.tr ((fr_fTape_readsEntry_1_1011_b36 h))
    · exact gs6.tr ((fr_fTape_readsEntry_1_1011_b35 h))
def F_Money_addsRow : List (Nat × (Nat × Nat)) := [(78, 78, 14), (97, 97, 0), (98, 98, 0), (99, 99, 0)]
theorem fr_fMoney_addsRow {s : ev_M} {a1 : Int32} {a2 : Int32} {a3 : Int32} {q : ev_M × Int32} (h : fMoney_addsRow s a1 a2 a3 = some q) : fr F_Money_addsRow s q.1 := by
  have g : fr F_Money_addsRow s s := fr.rf
  refine fr_bd1 h fun v1 hc h => ?_
  refine fr_if h (fun h => ?_) fun h => ?_
  · refine fr_if h (fun h => ?_) fun h => ?_
    · refine fr_gd h fun c0 h => ?_
      refine fr_ltM h (Q := fr F_Money_addsRow s) (g.wI rfl) fun s2 gs2 h => ?_
      refine fr_gd h fun c1 h => ?_
      refine fr_ltM h (Q := fr F_Money_addsRow s) (gs2.wI rfl) fun s3 gs3 h => ?_
      refine fr_ltM h (Q := fr F_Money_addsRow s) (gs3.wI rfl) fun s4 gs4 h => ?_
      refine fr_gd h fun c2 h => ?_
      refine fr_ltM h (Q := fr F_Money_addsRow s) (gs4.wI rfl) fun s5 gs5 h => ?_
      cases h; exact gs5
    · cases h; exact g
  · cases h; exact g
def F_Money_addsService : List (Nat × (Nat × Nat)) := [(78, 78, 14), (97, 97, 0), (98, 98, 0), (99, 99, 0)]
theorem fr_fMoney_addsService_b53 {k19 : ev_M → Int32 → Int32 → Int32 → Option (ev_M × Int32)} (hk19 : ∀ {s : ev_M} {z1 : Int32} {z2 : Int32} {z3 : Int32} {q : ev_M × Int32} , k19 s z1 z2 z3 = some q → fr F_Money_addsService s q.1) {s : ev_M} {x1 : Int32} {x2 : Int32} {x3 : Int32} {q : ev_M × Int32} (h : fMoney_addsService_b53 k19 s x1 x2 x3 = some q) : fr F_Money_addsService s q.1 := by
  have g : fr F_Money_addsService s s := fr.rf
  exact g.tr ((hk19 h))
theorem fr_fMoney_addsService_h19 : ∀ (n : Nat) {s : ev_M} {x1 : Int32} {x2 : Int32} {x3 : Int32} {q : ev_M × Int32} , fMoney_addsService_h19 n s x1 x2 x3 = some q → fr F_Money_addsService s q.1 := by
  intro n
  induction n with
  | zero => intro s x1 x2 x3 q h; cases h
  | succ n ih =>
    intro s x1 x2 x3 q h
    have g : fr F_Money_addsService s s := fr.rf
    refine fr_if h (fun h => ?_) fun h => ?_
    · refine fr_gd h fun c0 h => ?_
      refine fr_if h (fun h => ?_) fun h => ?_
      · refine fr_gd h fun c1 h => ?_
        refine fr_if h (fun h => ?_) fun h => ?_
        · cases h; exact g
        · exact g.tr ((fr_fMoney_addsService_b53 ih h))
      · exact g.tr ((fr_fMoney_addsService_b53 ih h))
    · refine fr_bd2 h fun s1 v2 hc h => ?_
      have gs1 : fr F_Money_addsService s s1 := g.tr ((fr_fMoney_addsRow hc).mono (F := F_Money_addsService) (by decide +kernel))
      refine fr_if h (fun h => ?_) fun h => ?_
      · cases h; exact gs1
      · cases h
theorem fr_fMoney_addsService_b17 {s : ev_M} {x1 : Int32} {x2 : Int32} {q : ev_M × Int32} (h : fMoney_addsService_b17 s x1 x2 = some q) : fr F_Money_addsService s q.1 := by
  have g : fr F_Money_addsService s s := fr.rf
  exact g.tr ((fr_fMoney_addsService_h19 1048576 h))
theorem fr_fMoney_addsService {s : ev_M} {a1 : Int32} {a2 : Int32} {q : ev_M × Int32} (h : fMoney_addsService s a1 a2 = some q) : fr F_Money_addsService s q.1 := by
  have g : fr F_Money_addsService s s := fr.rf
  refine fr_if h (fun h => ?_) fun h => ?_
  · exact g.tr ((fr_fMoney_addsService_b17 h))
  · refine fr_if h (fun h => ?_) fun h => ?_
    · exact g.tr ((fr_fMoney_addsService_b17 h))
    · refine fr_if h (fun h => ?_) fun h => ?_
      · exact g.tr ((fr_fMoney_addsService_b17 h))
      · cases h; exact g
def F_Money_adds_1 : List (Nat × (Nat × Nat)) := [(78, 78, 14), (97, 97, 0), (98, 98, 0), (99, 99, 0)]
theorem fr_fMoney_adds_1_b102 {k64 : ev_M → Int32 → Int32 → Int32 → Option (ev_M × Int32)} (hk64 : ∀ {s : ev_M} {z1 : Int32} {z2 : Int32} {z3 : Int32} {q : ev_M × Int32} , k64 s z1 z2 z3 = some q → fr F_Money_adds_1 s q.1) {s : ev_M} {x3 : Int32} {x4 : Int32} {x5 : Int32} {q : ev_M × Int32} (h : fMoney_adds_1_b102 k64 s x3 x4 x5 = some q) : fr F_Money_adds_1 s q.1 := by
  have g : fr F_Money_adds_1 s s := fr.rf
  exact g.tr ((hk64 h))
theorem fr_fMoney_adds_1_h64 : ∀ (n : Nat) {s : ev_M} {x3 : Int32} {x4 : Int32} {x5 : Int32} {q : ev_M × Int32} , fMoney_adds_1_h64 n s x3 x4 x5 = some q → fr F_Money_adds_1 s q.1 := by
  intro n
  induction n with
  | zero => intro s x3 x4 x5 q h; cases h
  | succ n ih =>
    intro s x3 x4 x5 q h
    have g : fr F_Money_adds_1 s s := fr.rf
    refine fr_if h (fun h => ?_) fun h => ?_
    · refine fr_gd h fun c0 h => ?_
      refine fr_if h (fun h => ?_) fun h => ?_
      · refine fr_gd h fun c1 h => ?_
        refine fr_if h (fun h => ?_) fun h => ?_
        · exact g.tr ((fr_fMoney_adds_1_b102 ih h))
        · cases h; exact g
      · exact g.tr ((fr_fMoney_adds_1_b102 ih h))
    · refine fr_bd2 h fun s1 v2 hc h => ?_
      have gs1 : fr F_Money_adds_1 s s1 := g.tr ((fr_fMoney_addsRow hc).mono (F := F_Money_adds_1) (by decide +kernel))
      refine fr_if h (fun h => ?_) fun h => ?_
      · cases h; exact gs1
      · cases h
theorem fr_fMoney_adds_1 {s : ev_M} {a1 : Int32} {q : ev_M × Int32} (h : fMoney_adds_1 s a1 = some q) : fr F_Money_adds_1 s q.1 := by
  have g : fr F_Money_adds_1 s s := fr.rf
  refine fr_if h (fun h => ?_) fun h => ?_
  · refine fr_bd2 h fun s3 v4 hc h => ?_
    have gs3 : fr F_Money_adds_1 s s3 := g.tr ((fr_fMoney_addsService hc).mono (F := F_Money_adds_1) (by decide +kernel))
    refine fr_if h (fun h => ?_) fun h => ?_
    · cases h; exact gs3
    · cases h
  · refine fr_ltI h fun v5 h => ?_
    refine fr_ltI h fun v6 h => ?_
    refine fr_bd1 h fun v7 hc h => ?_
    refine fr_if h (fun h => ?_) fun h => ?_
    · refine fr_bd1 h fun v8 hc h => ?_
      refine fr_if h (fun h => ?_) fun h => ?_
      · exact g.tr ((fr_fMoney_adds_1_h64 1048576 h))
      · cases h; exact g
    · cases h; exact g
def F_Money_readTariff_1 : List (Nat × (Nat × Nat)) := [(1, 1, 3), (1, 1, 5), (1, 1, 6), (3, 3, 0), (9, 9, 7), (9, 9, 8), (9, 9, 14), (13, 13, 0), (78, 78, 12), (78, 78, 14), (93, 95, 0), (97, 97, 0), (98, 98, 0), (99, 99, 0)]
theorem fr_fMoney_readTariff_1_b78 {k14 : ev_M → Int32 → Int32 → Option (ev_M × Int32)} (hk14 : ∀ {s : ev_M} {z1 : Int32} {z2 : Int32} {q : ev_M × Int32} , k14 s z1 z2 = some q → fr F_Money_readTariff_1 s q.1) {s : ev_M} {x2 : Int32} {x3 : Int32} {q : ev_M × Int32} (h : fMoney_readTariff_1_b78 k14 s x2 x3 = some q) : fr F_Money_readTariff_1 s q.1 := by
  have g : fr F_Money_readTariff_1 s s := fr.rf
  exact g.tr ((hk14 h))
theorem fr_fMoney_readTariff_1_b37 {k14 : ev_M → Int32 → Int32 → Option (ev_M × Int32)} (hk14 : ∀ {s : ev_M} {z1 : Int32} {z2 : Int32} {q : ev_M × Int32} , k14 s z1 z2 = some q → fr F_Money_readTariff_1 s q.1) {s : ev_M} {x2 : Int32} {x3 : Int32} {q : ev_M × Int32} (h : fMoney_readTariff_1_b37 k14 s x2 x3 = some q) : fr F_Money_readTariff_1 s q.1 := by
  have g : fr F_Money_readTariff_1 s s := fr.rf
  refine fr_ltI h fun v1 h => ?_
  refine fr_bd2 h fun s2 v3 hc h => ?_
  have gs2 : fr F_Money_readTariff_1 s s2 := g.tr ((fr_fTape_readsEntry_1_1011 hc).mono (F := F_Money_readTariff_1) (by decide +kernel))
  refine fr_if h (fun h => ?_) fun h => ?_
  · refine fr_ltI h fun v4 h => ?_
    exact gs2.tr ((fr_fMoney_readTariff_1_b78 hk14 h))
  · refine fr_bd2 h fun s5 v6 hc h => ?_
    have gs5 : fr F_Money_readTariff_1 s s5 := gs2.tr ((fr_fMoney_adds_1 hc).mono (F := F_Money_readTariff_1) (by decide +kernel))
    refine fr_if h (fun h => ?_) fun h => ?_
    · exact gs5.tr ((fr_fMoney_readTariff_1_b78 hk14 h))
    · exact gs5.tr ((fr_fMoney_readTariff_1_b78 hk14 h))
theorem fr_fMoney_readTariff_1_h118 : ∀ (n : Nat) {s : ev_M} {x3 : Int32} {q : ev_M × Int32} , fMoney_readTariff_1_h118 n s x3 = some q → fr F_Money_readTariff_1 s q.1 := by
  intro n
  induction n with
  | zero => intro s x3 q h; cases h
  | succ n ih =>
    intro s x3 q h
    have g : fr F_Money_readTariff_1 s s := fr.rf
    refine fr_if h (fun h => ?_) fun h => ?_
    · refine fr_gd h fun c0 h => ?_
      refine fr_gd h fun c1 h => ?_
      refine fr_bd1 h fun s7 hc h => ?_
      have gs7 := g.tr (fr_acp (F := F_Money_readTariff_1) (fun _ => inF_row (lo := 93) (hi := 95) rfl (Nat.le_add_right _ _) (by have := (inb_lt c1); omega)) hc)
      exact gs7.tr ((ih h))
    · cases h; exact g
theorem fr_fMoney_readTariff_1_b84 {s : ev_M} {x2 : Int32} {q : ev_M × Int32} (h : fMoney_readTariff_1_b84 s x2 = some q) : fr F_Money_readTariff_1 s q.1 := by
  have g : fr F_Money_readTariff_1 s s := fr.rf
  refine fr_if h (fun h => ?_) fun h => ?_
  · refine fr_bd2 h fun s8 v9 hc h => ?_
    have gs8 : fr F_Money_readTariff_1 s s8 := g.tr ((fr_fLog_admits hc).mono (F := F_Money_readTariff_1) (by decide +kernel))
    refine fr_if h (fun h => ?_) fun h => ?_
    · cases h; exact gs8
    · refine fr_ltM h (Q := fr F_Money_readTariff_1 s) (gs8.wI rfl) fun s10 gs10 h => ?_
      exact gs10.tr ((fr_fMoney_readTariff_1_h118 1048576 h))
  · cases h; exact g
theorem fr_fMoney_readTariff_1_h14 : ∀ (n : Nat) {s : ev_M} {x2 : Int32} {x3 : Int32} {q : ev_M × Int32} , fMoney_readTariff_1_h14 n s x2 x3 = some q → fr F_Money_readTariff_1 s q.1 := by
  intro n
  induction n with
  | zero => intro s x2 x3 q h; cases h
  | succ n ih =>
    intro s x2 x3 q h
    have g : fr F_Money_readTariff_1 s s := fr.rf
    refine fr_if h (fun h => ?_) fun h => ?_
    · refine fr_if h (fun h => ?_) fun h => ?_
      · refine fr_if h (fun h => ?_) fun h => ?_
        · exact g.tr ((fr_fMoney_readTariff_1_b37 ih h))
        · refine fr_bd1 h fun v11 hc h => ?_
          refine fr_if h (fun h => ?_) fun h => ?_
          · exact g.tr ((fr_fMoney_readTariff_1_b84 h))
          · exact g.tr ((fr_fMoney_readTariff_1_b37 ih h))
      · exact g.tr ((fr_fMoney_readTariff_1_b84 h))
    · exact g.tr ((fr_fMoney_readTariff_1_b84 h))
theorem fr_fMoney_readTariff_1 {s : ev_M} {q : ev_M × Int32} (h : fMoney_readTariff_1 s = some q) : fr F_Money_readTariff_1 s q.1 := by
  have g : fr F_Money_readTariff_1 s s := fr.rf
  refine fr_ltM h (Q := fr F_Money_readTariff_1 s) (g.wI rfl) fun s12 gs12 h => ?_
  refine fr_ltM h (Q := fr F_Money_readTariff_1 s) (gs12.wI rfl) fun s13 gs13 h => ?_
  exact gs13.tr ((fr_fMoney_readTariff_1_h14 1048576 h))
def F_Items_frankItem : List (Nat × (Nat × Nat)) := [(9, 9, 7), (9, 9, 8), (9, 9, 14), (13, 13, 0), (78, 78, 7), (80, 80, 0), (82, 82, 0), (83, 83, 0), (84, 84, 0), (85, 85, 0), (113, 113, 0)]
theorem fr_fItems_frankItem_b88 {s : ev_M} {x1 : Int32} {x2 : Int32} {x3 : Int32} {q : ev_M × Int32} (h : fItems_frankItem_b88 s x1 x2 x3 = some q) : fr F_Items_frankItem s q.1 := by
  have g : fr F_Items_frankItem s s := fr.rf
  refine fr_bd2 h fun s1 v2 hc h => ?_
  have gs1 : fr F_Items_frankItem s s1 := g.tr ((fr_fLog_admits hc).mono (F := F_Items_frankItem) (by decide +kernel))
  refine fr_if h (fun h => ?_) fun h => ?_
  · cases h; exact gs1
  · refine fr_bd1 h fun s3 hc h => ?_
    have gs3 := gs1.tr ((fr_fMoney_transfer hc).mono (F := F_Items_frankItem) (by decide +kernel))
    refine fr_gd h fun c0 h => ?_
    refine fr_ltM h (Q := fr F_Items_frankItem s) (gs3.wI rfl) fun s4 gs4 h => ?_
    cases h; exact gs4
theorem fr_fItems_frankItem {s : ev_M} {a1 : Int32} {q : ev_M × Int32} (h : fItems_frankItem s a1 = some q) : fr F_Items_frankItem s q.1 := by
  have g : fr F_Items_frankItem s s := fr.rf
  refine fr_bd1 h fun v5 hc h => ?_
  refine fr_if h (fun h => ?_) fun h => ?_
  · cases h; exact g
  · refine fr_bd1 h fun v6 hc h => ?_
    refine fr_gd h fun c0 h => ?_
    refine fr_if h (fun h => ?_) fun h => ?_
    · refine fr_bd1 h fun v7 hc h => ?_
      refine fr_if h (fun h => ?_) fun h => ?_
      · cases h; exact g
      · refine fr_if h (fun h => ?_) fun h => ?_
        · cases h; exact g
        · refine fr_gd h fun c1 h => ?_
          refine fr_ltI h fun v8 h => ?_
          refine fr_gd h fun c2 h => ?_
          refine fr_if h (fun h => ?_) fun h => ?_
          · cases h; exact g
          · refine fr_if h (fun h => ?_) fun h => ?_
            · exact g.tr ((fr_fItems_frankItem_b88 h))
            · refine fr_bd1 h fun v9 hc h => ?_
              refine fr_if h (fun h => ?_) fun h => ?_
              · cases h; exact g
              · exact g.tr ((fr_fItems_frankItem_b88 h))
    · cases h; exact g
def F_Money_makeOrder : List (Nat × (Nat × Nat)) := [(9, 9, 7), (9, 9, 8), (9, 9, 14), (13, 13, 0), (78, 78, 7), (78, 78, 9), (78, 78, 10), (80, 80, 0), (82, 82, 0), (83, 83, 0), (84, 84, 0), (85, 85, 0), (87, 87, 0), (88, 88, 0), (89, 89, 0), (90, 90, 0), (91, 91, 0)]
theorem fr_fMoney_makeOrder {s : ev_M} {a1 : Int32} {a2 : Int32} {a3 : Int32} {q : ev_M × Int32} (h : fMoney_makeOrder s a1 a2 a3 = some q) : fr F_Money_makeOrder s q.1 := by
  have g : fr F_Money_makeOrder s s := fr.rf
  refine fr_bd1 h fun v1 hc h => ?_
  refine fr_if h (fun h => ?_) fun h => ?_
  · cases h; exact g
  · refine fr_bd1 h fun v2 hc h => ?_
    refine fr_if h (fun h => ?_) fun h => ?_
    · refine fr_bd1 h fun v3 hc h => ?_
      refine fr_if h (fun h => ?_) fun h => ?_
      · refine fr_gd h fun c0 h => ?_
        refine fr_if h (fun h => ?_) fun h => ?_
        · cases h; exact g
        · refine fr_if h (fun h => ?_) fun h => ?_
          · refine fr_bd1 h fun v4 hc h => ?_
            refine fr_if h (fun h => ?_) fun h => ?_
            · cases h; exact g
            · refine fr_bd2 h fun s5 v6 hc h => ?_
              have gs5 : fr F_Money_makeOrder s s5 := g.tr ((fr_fLog_admits hc).mono (F := F_Money_makeOrder) (by decide +kernel))
              refine fr_if h (fun h => ?_) fun h => ?_
              · cases h; exact gs5
              · refine fr_bd1 h fun s7 hc h => ?_
                have gs7 := gs5.tr ((fr_fMoney_transfer hc).mono (F := F_Money_makeOrder) (by decide +kernel))
                refine fr_gd h fun c1 h => ?_
                refine fr_ltM h (Q := fr F_Money_makeOrder s) (gs7.wI rfl) fun s8 gs8 h => ?_
                refine fr_gd h fun c2 h => ?_
                refine fr_ltM h (Q := fr F_Money_makeOrder s) (gs8.wI rfl) fun s9 gs9 h => ?_
                refine fr_gd h fun c3 h => ?_
                refine fr_ltM h (Q := fr F_Money_makeOrder s) (gs9.wI rfl) fun s10 gs10 h => ?_
                refine fr_gd h fun c4 h => ?_
                refine fr_ltM h (Q := fr F_Money_makeOrder s) (gs10.wI rfl) fun s11 gs11 h => ?_
                refine fr_bd1 h fun v12 hc h => ?_
                refine fr_gd h fun c5 h => ?_
                refine fr_ltM h (Q := fr F_Money_makeOrder s) (gs11.wI rfl) fun s13 gs13 h => ?_
                refine fr_ltM h (Q := fr F_Money_makeOrder s) (gs13.wI rfl) fun s14 gs14 h => ?_
                refine fr_ltM h (Q := fr F_Money_makeOrder s) (gs14.wI rfl) fun s15 gs15 h => ?_
                cases h; exact gs15
          · cases h; exact g
      · cases h; exact g
    · cases h; exact g
def F_Money_settle : List (Nat × (Nat × Nat)) := [(78, 78, 7), (78, 78, 10), (80, 80, 0), (82, 82, 0), (83, 83, 0), (84, 84, 0), (85, 85, 0), (87, 87, 0)]
theorem fr_fMoney_settle {s : ev_M} {a1 : Int32} {a2 : Int32} {a3 : Int32} {q : ev_M} (h : fMoney_settle s a1 a2 a3 = some q) : fr F_Money_settle s q := by
  have g : fr F_Money_settle s s := fr.rf
  refine fr_gd h fun c0 h => ?_
  refine fr_bd1 h fun s1 hc h => ?_
  have gs1 := g.tr ((fr_fMoney_transfer hc).mono (F := F_Money_settle) (by decide +kernel))
  refine fr_gd h fun c1 h => ?_
  refine fr_ltM h (Q := fr F_Money_settle s) (gs1.wI rfl) fun s2 gs2 h => ?_
  refine fr_ltM h (Q := fr F_Money_settle s) (gs2.wI rfl) fun s3 gs3 h => ?_
  cases h; exact gs3
def F_Money_payOrder : List (Nat × (Nat × Nat)) := [(9, 9, 7), (9, 9, 8), (9, 9, 14), (13, 13, 0), (78, 78, 7), (78, 78, 10), (80, 80, 0), (82, 82, 0), (83, 83, 0), (84, 84, 0), (85, 85, 0), (87, 87, 0)]
theorem fr_fMoney_payOrder {s : ev_M} {a1 : Int32} {a2 : Int32} {a3 : Int32} {q : ev_M × Int32} (h : fMoney_payOrder s a1 a2 a3 = some q) : fr F_Money_payOrder s q.1 := by
  have g : fr F_Money_payOrder s s := fr.rf
  refine fr_bd1 h fun v1 hc h => ?_
  refine fr_if h (fun h => ?_) fun h => ?_
  · cases h; exact g
  · refine fr_bd1 h fun v2 hc h => ?_
    refine fr_if h (fun h => ?_) fun h => ?_
    · refine fr_bd1 h fun v3 hc h => ?_
      refine fr_if h (fun h => ?_) fun h => ?_
      · refine fr_gd h fun c0 h => ?_
        refine fr_if h (fun h => ?_) fun h => ?_
        · refine fr_gd h fun c1 h => ?_
          refine fr_if h (fun h => ?_) fun h => ?_
          · refine fr_if h (fun h => ?_) fun h => ?_
            · cases h; exact g
            · refine fr_bd2 h fun s4 v5 hc h => ?_
              have gs4 : fr F_Money_payOrder s s4 := g.tr ((fr_fLog_admits hc).mono (F := F_Money_payOrder) (by decide +kernel))
              refine fr_if h (fun h => ?_) fun h => ?_
              · cases h; exact gs4
              · refine fr_bd1 h fun s6 hc h => ?_
                have gs6 := gs4.tr ((fr_fMoney_settle hc).mono (F := F_Money_payOrder) (by decide +kernel))
                refine fr_gd h fun c2 h => ?_
                cases h; exact gs6
          · cases h; exact g
        · cases h; exact g
      · cases h; exact g
    · cases h; exact g
def F_Items_claimFor : List (Nat × (Nat × Nat)) := [(9, 9, 7), (9, 9, 8), (9, 9, 14), (13, 13, 0), (78, 78, 7), (80, 80, 0), (82, 82, 0), (83, 83, 0), (84, 84, 0), (85, 85, 0), (120, 120, 0)]
theorem fr_fItems_claimFor {s : ev_M} {a1 : Int32} {a2 : Int32} {q : ev_M × Int32} (h : fItems_claimFor s a1 a2 = some q) : fr F_Items_claimFor s q.1 := by
  have g : fr F_Items_claimFor s s := fr.rf
  refine fr_bd1 h fun v1 hc h => ?_
  refine fr_if h (fun h => ?_) fun h => ?_
  · cases h; exact g
  · refine fr_bd1 h fun v2 hc h => ?_
    refine fr_if h (fun h => ?_) fun h => ?_
    · refine fr_bd1 h fun v3 hc h => ?_
      refine fr_if h (fun h => ?_) fun h => ?_
      · cases h; exact g
      · refine fr_bd1 h fun v4 hc h => ?_
        refine fr_if h (fun h => ?_) fun h => ?_
        · cases h; exact g
        · refine fr_gd h fun c0 h => ?_
          refine fr_if h (fun h => ?_) fun h => ?_
          · cases h; exact g
          · refine fr_bd1 h fun v5 hc h => ?_
            refine fr_if h (fun h => ?_) fun h => ?_
            · cases h; exact g
            · refine fr_bd2 h fun s6 v7 hc h => ?_
              have gs6 : fr F_Items_claimFor s s6 := g.tr ((fr_fLog_admits hc).mono (F := F_Items_claimFor) (by decide +kernel))
              refine fr_if h (fun h => ?_) fun h => ?_
              · cases h; exact gs6
              · refine fr_bd1 h fun v8 hc h => ?_
                refine fr_gd h fun c1 h => ?_
                refine fr_bd1 h fun s9 hc h => ?_
                have gs9 := gs6.tr ((fr_fMoney_transfer hc).mono (F := F_Items_claimFor) (by decide +kernel))
                refine fr_gd h fun c2 h => ?_
                refine fr_ltM h (Q := fr F_Items_claimFor s) (gs9.wI rfl) fun s10 gs10 h => ?_
                cases h; exact gs10
    · cases h; exact g
def F_Arr_fillI_130 : List (Nat × (Nat × Nat)) := [(130, 137, 0)]
theorem fr_fArr_fillI_130_h5 : ∀ (n : Nat) {s : ev_M} {i0 : Nat} {x1 : Int32} {x2 : Int32} {x3 : Int32} {q : ev_M} (bi0 : i0 < 8) , fArr_fillI_130_h5 n s i0 x1 x2 x3 = some q → fr F_Arr_fillI_130 s q := by
  intro n
  induction n with
  | zero => intro s i0 x1 x2 x3 q bi0 h; cases h
  | succ n ih =>
    intro s i0 x1 x2 x3 q bi0 h
    have g : fr F_Arr_fillI_130 s s := fr.rf
    refine fr_if h (fun h => ?_) fun h => ?_
    · refine fr_gd h fun c0 h => ?_
      refine fr_ltM h (Q := fr F_Arr_fillI_130 s) (g.wI (inF_row (lo := 130) (hi := 137) rfl (Nat.le_add_right _ _) (by have := bi0; omega))) fun s1 gs1 h => ?_
      exact gs1.tr ((ih bi0 h))
    · cases h; exact g
theorem fr_fArr_fillI_130 {s : ev_M} {i0 : Nat} {a1 : Int32} {q : ev_M} (bi0 : i0 < 8) (h : fArr_fillI_130 s i0 a1 = some q) : fr F_Arr_fillI_130 s q := by
  have g : fr F_Arr_fillI_130 s s := fr.rf
  exact g.tr ((fr_fArr_fillI_130_h5 1048576 bi0 h))
def F_Lock_make : List (Nat × (Nat × Nat)) := [(9, 9, 7), (9, 9, 8), (9, 9, 14), (13, 13, 0), (125, 125, 4), (126, 126, 0), (127, 127, 0), (128, 128, 0), (130, 137, 0)]
theorem fr_fLock_make {s : ev_M} {a1 : Int32} {a2 : Int32} {q : ev_M × Int32} (h : fLock_make s a1 a2 = some q) : fr F_Lock_make s q.1 := by
  have g : fr F_Lock_make s s := fr.rf
  refine fr_bd1 h fun v1 hc h => ?_
  refine fr_if h (fun h => ?_) fun h => ?_
  · cases h; exact g
  · refine fr_bd1 h fun v2 hc h => ?_
    refine fr_if h (fun h => ?_) fun h => ?_
    · refine fr_if h (fun h => ?_) fun h => ?_
      · refine fr_bd2 h fun s3 v4 hc h => ?_
        have gs3 : fr F_Lock_make s s3 := g.tr ((fr_fLog_admits hc).mono (F := F_Lock_make) (by decide +kernel))
        refine fr_if h (fun h => ?_) fun h => ?_
        · cases h; exact gs3
        · refine fr_gd h fun c0 h => ?_
          refine fr_ltM h (Q := fr F_Lock_make s) (gs3.wI rfl) fun s5 gs5 h => ?_
          refine fr_gd h fun c1 h => ?_
          refine fr_ltM h (Q := fr F_Lock_make s) (gs5.wI rfl) fun s6 gs6 h => ?_
          refine fr_gd h fun c2 h => ?_
          refine fr_ltM h (Q := fr F_Lock_make s) (gs6.wI rfl) fun s7 gs7 h => ?_
          refine fr_gd h fun c3 h => ?_
          refine fr_bd1 h fun s8 hc h => ?_
          have gs8 := gs7.tr ((fr_fArr_fillI_130 (inb_lt c3) hc).mono (F := F_Lock_make) (by decide +kernel))
          refine fr_ltM h (Q := fr F_Lock_make s) (gs8.wI rfl) fun s9 gs9 h => ?_
          cases h; exact gs9
      · cases h; exact g
    · cases h; exact g
def F_Chron_setDevice : List (Nat × (Nat × Nat)) := [(9, 9, 7), (9, 9, 8), (9, 9, 14), (13, 13, 0), (29, 29, 0)]
theorem fr_fChron_setDevice {s : ev_M} {a1 : Int32} {a2 : Int32} {q : ev_M × Int32} (h : fChron_setDevice s a1 a2 = some q) : fr F_Chron_setDevice s q.1 := by
  have g : fr F_Chron_setDevice s s := fr.rf
  refine fr_bd1 h fun v1 hc h => ?_
  refine fr_if h (fun h => ?_) fun h => ?_
  · refine fr_bd1 h fun v2 hc h => ?_
    refine fr_if h (fun h => ?_) fun h => ?_
    · refine fr_bd2 h fun s3 v4 hc h => ?_
      have gs3 : fr F_Chron_setDevice s s3 := g.tr ((fr_fLog_admits hc).mono (F := F_Chron_setDevice) (by decide +kernel))
      refine fr_if h (fun h => ?_) fun h => ?_
      · cases h; exact gs3
      · refine fr_gd h fun c0 h => ?_
        refine fr_ltM h (Q := fr F_Chron_setDevice s) (gs3.wI rfl) fun s5 gs5 h => ?_
        refine fr_gd h fun c1 h => ?_
        cases h; exact gs5
    · cases h; exact g
  · cases h; exact g
def F_Chron_scanBy : List (Nat × (Nat × Nat)) := [(9, 9, 7), (9, 9, 8), (9, 9, 14), (13, 13, 0), (15, 15, 3), (17, 17, 0), (18, 18, 0), (19, 19, 0), (20, 20, 0), (21, 21, 0), (22, 22, 0)]
theorem fr_fChron_scanBy {s : ev_M} {a1 : Int32} {a2 : Int32} {a3 : Int32} {a4 : Int32} {q : ev_M × Int32} (h : fChron_scanBy s a1 a2 a3 a4 = some q) : fr F_Chron_scanBy s q.1 := by
  have g : fr F_Chron_scanBy s s := fr.rf
  refine fr_bd1 h fun v1 hc h => ?_
  refine fr_if h (fun h => ?_) fun h => ?_
  · refine fr_bd1 h fun v2 hc h => ?_
    refine fr_if h (fun h => ?_) fun h => ?_
    · refine fr_bd1 h fun v3 hc h => ?_
      refine fr_if h (fun h => ?_) fun h => ?_
      · refine fr_gd h fun c0 h => ?_
        refine fr_ltI h fun v4 h => ?_
        refine fr_bd1 h fun v5 hc h => ?_
        refine fr_if h (fun h => ?_) fun h => ?_
        · refine fr_bd2 h fun s6 v7 hc h => ?_
          have gs6 : fr F_Chron_scanBy s s6 := g.tr ((fr_fLog_admits hc).mono (F := F_Chron_scanBy) (by decide +kernel))
          refine fr_if h (fun h => ?_) fun h => ?_
          · cases h; exact gs6
          · refine fr_bd1 h fun s8 hc h => ?_
            have gs8 := gs6.tr ((fr_fChron_keep hc).mono (F := F_Chron_scanBy) (by decide +kernel))
            cases h; exact gs8
        · cases h; exact g
      · cases h; exact g
    · cases h; exact g
  · cases h; exact g
def F_PH_scanItem : List (Nat × (Nat × Nat)) := [(9, 9, 7), (9, 9, 8), (9, 9, 14), (13, 13, 0), (15, 15, 3), (17, 17, 0), (18, 18, 0), (19, 19, 0), (20, 20, 0), (21, 21, 0), (22, 22, 0)]
theorem fr_fPH_scanItem {s : ev_M} {a1 : Int32} {a2 : Int32} {a3 : Int32} {a4 : Int32} {q : ev_M × Int32} (h : fPH_scanItem s a1 a2 a3 a4 = some q) : fr F_PH_scanItem s q.1 := by
  have g : fr F_PH_scanItem s s := fr.rf
  refine fr_bd1 h fun v1 hc h => ?_
  refine fr_if h (fun h => ?_) fun h => ?_
  · cases h; exact g
  · refine fr_bd2 h fun s2 v3 hc h => ?_
    have gs2 : fr F_PH_scanItem s s2 := g.tr ((fr_fChron_scanBy hc).mono (F := F_PH_scanItem) (by decide +kernel))
    cases h; exact gs2
def F_Lines_arrive : List (Nat × (Nat × Nat)) := [(459, 459, 0), (460, 460, 0), (463, 463, 0), (464, 464, 0)]
theorem fr_fLines_arrive_b93 {k2 : ev_M → Int32 → Option ev_M} (hk2 : ∀ {s : ev_M} {z1 : Int32} {q : ev_M} , k2 s z1 = some q → fr F_Lines_arrive s q) {s : ev_M} {x1 : Int32} {q : ev_M} (h : fLines_arrive_b93 k2 s x1 = some q) : fr F_Lines_arrive s q := by
  have g : fr F_Lines_arrive s s := fr.rf
  exact g.tr ((hk2 h))
theorem fr_fLines_arrive_h2 : ∀ (n : Nat) {s : ev_M} {x1 : Int32} {q : ev_M} , fLines_arrive_h2 n s x1 = some q → fr F_Lines_arrive s q := by
  intro n
  induction n with
  | zero => intro s x1 q h; cases h
  | succ n ih =>
    intro s x1 q h
    have g : fr F_Lines_arrive s s := fr.rf
    refine fr_if h (fun h => ?_) fun h => ?_
    · refine fr_gd h fun c0 h => ?_
      refine fr_if h (fun h => ?_) fun h => ?_
      · refine fr_gd h fun c1 h => ?_
        refine fr_if h (fun h => ?_) fun h => ?_
        · refine fr_gd h fun c2 h => ?_
          refine fr_ltM h (Q := fr F_Lines_arrive s) (g.wI rfl) fun s1 gs1 h => ?_
          refine fr_gd h fun c3 h => ?_
          refine fr_gd h fun c4 h => ?_
          refine fr_gd h fun c5 h => ?_
          refine fr_ltM h (Q := fr F_Lines_arrive s) (gs1.wI rfl) fun s2 gs2 h => ?_
          refine fr_gd h fun c6 h => ?_
          refine fr_ltM h (Q := fr F_Lines_arrive s) (gs2.wI rfl) fun s3 gs3 h => ?_
          refine fr_gd h fun c7 h => ?_
          refine fr_ltM h (Q := fr F_Lines_arrive s) (gs3.wI rfl) fun s4 gs4 h => ?_
          exact gs4.tr ((fr_fLines_arrive_b93 ih h))
        · exact g.tr ((fr_fLines_arrive_b93 ih h))
      · exact g.tr ((fr_fLines_arrive_b93 ih h))
    · cases h; exact g
theorem fr_fLines_arrive {s : ev_M} {q : ev_M} (h : fLines_arrive s = some q) : fr F_Lines_arrive s q := by
  have g : fr F_Lines_arrive s s := fr.rf
  exact g.tr ((fr_fLines_arrive_h2 1048576 h))
def F_Lines_reachBy : List (Nat × (Nat × Nat)) := [(546, 546, 0), (547, 547, 0)]
theorem fr_fLines_reachBy_b127 {s : ev_M} {y1 : Int32} {y2 : Int32} {q : ev_M} (h : fLines_reachBy_b127 s y1 y2 = some q) : fr F_Lines_reachBy s q := by
  have g : fr F_Lines_reachBy s s := fr.rf
  refine fr_gd h fun c0 h => ?_
  refine fr_ltM h (Q := fr F_Lines_reachBy s) (g.wI rfl) fun s1 gs1 h => ?_
  cases h; exact gs1
theorem fr_fLines_reachBy_b94 {s : ev_M} {x1 : Int32} {x2 : Int32} {x3 : Int32} {x6 : Int32} {q : ev_M} (h : fLines_reachBy_b94 s x1 x2 x3 x6 = some q) : fr F_Lines_reachBy s q := by
  have g : fr F_Lines_reachBy s s := fr.rf
  refine fr_gd h fun c0 h => ?_
  refine fr_ltM h (Q := fr F_Lines_reachBy s) (g.wI rfl) fun s2 gs2 h => ?_
  refine fr_gd h fun c1 h => ?_
  refine fr_if h (fun h => ?_) fun h => ?_
  · exact gs2.tr ((fr_fLines_reachBy_b127 h))
  · refine fr_gd h fun c2 h => ?_
    exact gs2.tr ((fr_fLines_reachBy_b127 h))
theorem fr_fLines_reachBy_b57 {s : ev_M} {x1 : Int32} {x2 : Int32} {x3 : Int32} {y0 : Int32} {q : ev_M} (h : fLines_reachBy_b57 s x1 x2 x3 y0 = some q) : fr F_Lines_reachBy s q := by
  have g : fr F_Lines_reachBy s s := fr.rf
  refine fr_gd h fun c0 h => ?_
  refine fr_ltI h fun v3 h => ?_
  refine fr_gd h fun c1 h => ?_
  refine fr_if h (fun h => ?_) fun h => ?_
  · exact g.tr ((fr_fLines_reachBy_b94 h))
  · refine fr_gd h fun c2 h => ?_
    refine fr_if h (fun h => ?_) fun h => ?_
    · cases h; exact g
    · exact g.tr ((fr_fLines_reachBy_b94 h))
theorem fr_fLines_reachBy {s : ev_M} {a1 : Int32} {q : ev_M} (h : fLines_reachBy s a1 = some q) : fr F_Lines_reachBy s q := by
  have g : fr F_Lines_reachBy s s := fr.rf
  refine fr_gd h fun c0 h => ?_
  refine fr_ltI h fun v4 h => ?_
  refine fr_gd h fun c1 h => ?_
  refine fr_ltI h fun v5 h => ?_
  refine fr_gd h fun c2 h => ?_
  refine fr_ltI h fun v6 h => ?_
  refine fr_gd h fun c3 h => ?_
  refine fr_if h (fun h => ?_) fun h => ?_
  · refine fr_bd1 h fun v7 hc h => ?_
    exact g.tr ((fr_fLines_reachBy_b57 h))
  · refine fr_gd h fun c4 h => ?_
    exact g.tr ((fr_fLines_reachBy_b57 h))
def F_Lines_search : List (Nat × (Nat × Nat)) := [(546, 546, 0), (547, 547, 0), (548, 548, 0)]
theorem fr_fLines_search_b115 {k55 : ev_M → Int32 → Option ev_M} {k87 : ev_M → Int32 → Int32 → Int32 → Option ev_M} (hk55 : ∀ {s : ev_M} {z1 : Int32} {q : ev_M} , k55 s z1 = some q → fr F_Lines_search s q) (hk87 : ∀ {s : ev_M} {z1 : Int32} {z2 : Int32} {z3 : Int32} {q : ev_M} , k87 s z1 z2 z3 = some q → fr F_Lines_search s q) {s : ev_M} {x2 : Int32} {x3 : Int32} {x4 : Int32} {q : ev_M} (h : fLines_search_b115 k55 k87 s x2 x3 x4 = some q) : fr F_Lines_search s q := by
  have g : fr F_Lines_search s s := fr.rf
  exact g.tr ((hk87 h))
theorem fr_fLines_search_h87 {k55 : ev_M → Int32 → Option ev_M} (hk55 : ∀ {s : ev_M} {z1 : Int32} {q : ev_M} , k55 s z1 = some q → fr F_Lines_search s q) : ∀ (n : Nat) {s : ev_M} {x2 : Int32} {x3 : Int32} {x4 : Int32} {q : ev_M} , fLines_search_h87 k55 n s x2 x3 x4 = some q → fr F_Lines_search s q := by
  intro n
  induction n with
  | zero => intro s x2 x3 x4 q h; cases h
  | succ n ih =>
    intro s x2 x3 x4 q h
    have g : fr F_Lines_search s s := fr.rf
    refine fr_if h (fun h => ?_) fun h => ?_
    · refine fr_gd h fun c0 h => ?_
      refine fr_if h (fun h => ?_) fun h => ?_
      · refine fr_bd1 h fun s1 hc h => ?_
        have gs1 := g.tr ((fr_fLines_reachBy hc).mono (F := F_Lines_search) (by decide +kernel))
        exact gs1.tr ((fr_fLines_search_b115 hk55 ih h))
      · exact g.tr ((fr_fLines_search_b115 hk55 ih h))
    · exact g.tr ((hk55 h))
theorem fr_fLines_search_h55 : ∀ (n : Nat) {s : ev_M} {x2 : Int32} {q : ev_M} , fLines_search_h55 n s x2 = some q → fr F_Lines_search s q := by
  intro n
  induction n with
  | zero => intro s x2 q h; cases h
  | succ n ih =>
    intro s x2 q h
    have g : fr F_Lines_search s s := fr.rf
    refine fr_if h (fun h => ?_) fun h => ?_
    · refine fr_bd1 h fun v2 hc h => ?_
      refine fr_if h (fun h => ?_) fun h => ?_
      · cases h; exact g
      · refine fr_gd h fun c0 h => ?_
        refine fr_ltM h (Q := fr F_Lines_search s) (g.wI rfl) fun s3 gs3 h => ?_
        exact gs3.tr ((fr_fLines_search_h87 ih 1048576 h))
    · cases h; exact g
theorem fr_fLines_search_h2 : ∀ (n : Nat) {s : ev_M} {x1 : Int32} {x2 : Int32} {q : ev_M} , fLines_search_h2 n s x1 x2 = some q → fr F_Lines_search s q := by
  intro n
  induction n with
  | zero => intro s x1 x2 q h; cases h
  | succ n ih =>
    intro s x1 x2 q h
    have g : fr F_Lines_search s s := fr.rf
    refine fr_if h (fun h => ?_) fun h => ?_
    · refine fr_gd h fun c0 h => ?_
      refine fr_ltM h (Q := fr F_Lines_search s) (g.wI rfl) fun s4 gs4 h => ?_
      refine fr_gd h fun c1 h => ?_
      refine fr_ltM h (Q := fr F_Lines_search s) (gs4.wI rfl) fun s5 gs5 h => ?_
      refine fr_gd h fun c2 h => ?_
      refine fr_ltM h (Q := fr F_Lines_search s) (gs5.wI rfl) fun s6 gs6 h => ?_
      exact gs6.tr ((ih h))
    · refine fr_gd h fun c0 h => ?_
      refine fr_ltM h (Q := fr F_Lines_search s) (g.wI rfl) fun s7 gs7 h => ?_
      exact gs7.tr ((fr_fLines_search_h55 1048576 h))
theorem fr_fLines_search {s : ev_M} {a1 : Int32} {q : ev_M} (h : fLines_search s a1 = some q) : fr F_Lines_search s q := by
  have g : fr F_Lines_search s s := fr.rf
  exact g.tr ((fr_fLines_search_h2 1048576 h))
def F_Lines_load : List (Nat × (Nat × Nat)) := [(459, 459, 0), (460, 460, 0), (463, 463, 0), (464, 464, 0), (546, 546, 0), (547, 547, 0), (548, 548, 0)]
theorem fr_fLines_load_b158 {k29 : ev_M → Int32 → Int32 → Int32 → Option ev_M} (hk29 : ∀ {s : ev_M} {z1 : Int32} {z2 : Int32} {z3 : Int32} {q : ev_M} , k29 s z1 z2 z3 = some q → fr F_Lines_load s q) {s : ev_M} {x1 : Int32} {x2 : Int32} {x3 : Int32} {q : ev_M} (h : fLines_load_b158 k29 s x1 x2 x3 = some q) : fr F_Lines_load s q := by
  have g : fr F_Lines_load s s := fr.rf
  exact g.tr ((hk29 h))
theorem fr_fLines_load_b77 {k29 : ev_M → Int32 → Int32 → Int32 → Option ev_M} (hk29 : ∀ {s : ev_M} {z1 : Int32} {z2 : Int32} {z3 : Int32} {q : ev_M} , k29 s z1 z2 z3 = some q → fr F_Lines_load s q) {s : ev_M} {x1 : Int32} {x2 : Int32} {x3 : Int32} {y0 : Int32} {q : ev_M} (h : fLines_load_b77 k29 s x1 x2 x3 y0 = some q) : fr F_Lines_load s q := by
  have g : fr F_Lines_load s s := fr.rf
  refine fr_if h (fun h => ?_) fun h => ?_
  · exact g.tr ((fr_fLines_load_b158 hk29 h))
  · refine fr_gd h fun c0 h => ?_
    refine fr_gd h fun c1 h => ?_
    refine fr_if h (fun h => ?_) fun h => ?_
    · refine fr_gd h fun c2 h => ?_
      refine fr_ltM h (Q := fr F_Lines_load s) (g.wI rfl) fun s1 gs1 h => ?_
      refine fr_gd h fun c3 h => ?_
      refine fr_ltM h (Q := fr F_Lines_load s) (gs1.wI rfl) fun s2 gs2 h => ?_
      refine fr_gd h fun c4 h => ?_
      refine fr_ltM h (Q := fr F_Lines_load s) (gs2.wI rfl) fun s3 gs3 h => ?_
      refine fr_gd h fun c5 h => ?_
      refine fr_gd h fun c6 h => ?_
      refine fr_ltM h (Q := fr F_Lines_load s) (gs3.wI rfl) fun s4 gs4 h => ?_
      exact gs4.tr ((fr_fLines_load_b158 hk29 h))
    · exact g.tr ((fr_fLines_load_b158 hk29 h))
theorem fr_fLines_load_b76 {k29 : ev_M → Int32 → Int32 → Int32 → Option ev_M} (hk29 : ∀ {s : ev_M} {z1 : Int32} {z2 : Int32} {z3 : Int32} {q : ev_M} , k29 s z1 z2 z3 = some q → fr F_Lines_load s q) {s : ev_M} {x1 : Int32} {x2 : Int32} {x3 : Int32} {q : ev_M} (h : fLines_load_b76 k29 s x1 x2 x3 = some q) : fr F_Lines_load s q := by
  have g : fr F_Lines_load s s := fr.rf
  exact g.tr ((fr_fLines_load_b77 hk29 h))
theorem fr_fLines_load_h29 : ∀ (n : Nat) {s : ev_M} {x1 : Int32} {x2 : Int32} {x3 : Int32} {q : ev_M} , fLines_load_h29 n s x1 x2 x3 = some q → fr F_Lines_load s q := by
  intro n
  induction n with
  | zero => intro s x1 x2 x3 q h; cases h
  | succ n ih =>
    intro s x1 x2 x3 q h
    have g : fr F_Lines_load s s := fr.rf
    refine fr_if h (fun h => ?_) fun h => ?_
    · refine fr_if h (fun h => ?_) fun h => ?_
      · cases h; exact g
      · refine fr_gd h fun c0 h => ?_
        refine fr_if h (fun h => ?_) fun h => ?_
        · refine fr_gd h fun c1 h => ?_
          refine fr_gd h fun c2 h => ?_
          refine fr_if h (fun h => ?_) fun h => ?_
          · exact g.tr ((fr_fLines_load_b77 ih h))
          · exact g.tr ((fr_fLines_load_b76 ih h))
        · exact g.tr ((fr_fLines_load_b76 ih h))
    · cases h; exact g
theorem fr_fLines_load {s : ev_M} {a1 : Int32} {q : ev_M} (h : fLines_load s a1 = some q) : fr F_Lines_load s q := by
  have g : fr F_Lines_load s s := fr.rf
  refine fr_gd h fun c0 h => ?_
  refine fr_bd1 h fun s5 hc h => ?_
  have gs5 := g.tr ((fr_fLines_search hc).mono (F := F_Lines_load) (by decide +kernel))
  refine fr_gd h fun c1 h => ?_
  refine fr_bd1 h fun v6 hc h => ?_
  refine fr_ltI h fun v7 h => ?_
  exact gs5.tr ((fr_fLines_load_h29 1048576 h))
def F_Lines_leaveAll : List (Nat × (Nat × Nat)) := [(456, 456, 0), (457, 457, 0), (459, 459, 0), (460, 460, 0), (463, 463, 0), (464, 464, 0), (546, 546, 0), (547, 547, 0), (548, 548, 0)]
theorem fr_fLines_leaveAll_b41 {k2 : ev_M → Int32 → Option ev_M} (hk2 : ∀ {s : ev_M} {z1 : Int32} {q : ev_M} , k2 s z1 = some q → fr F_Lines_leaveAll s q) {s : ev_M} {x1 : Int32} {q : ev_M} (h : fLines_leaveAll_b41 k2 s x1 = some q) : fr F_Lines_leaveAll s q := by
  have g : fr F_Lines_leaveAll s s := fr.rf
  exact g.tr ((hk2 h))
theorem fr_fLines_leaveAll_h2 : ∀ (n : Nat) {s : ev_M} {x1 : Int32} {q : ev_M} , fLines_leaveAll_h2 n s x1 = some q → fr F_Lines_leaveAll s q := by
  intro n
  induction n with
  | zero => intro s x1 q h; cases h
  | succ n ih =>
    intro s x1 q h
    have g : fr F_Lines_leaveAll s s := fr.rf
    refine fr_if h (fun h => ?_) fun h => ?_
    · refine fr_gd h fun c0 h => ?_
      refine fr_if h (fun h => ?_) fun h => ?_
      · refine fr_bd1 h fun s1 hc h => ?_
        have gs1 := g.tr ((fr_fLines_load hc).mono (F := F_Lines_leaveAll) (by decide +kernel))
        refine fr_bd1 h fun s2 hc h => ?_
        have gs2 := gs1.tr ((fr_fLines_setNext hc).mono (F := F_Lines_leaveAll) (by decide +kernel))
        exact gs2.tr ((fr_fLines_leaveAll_b41 ih h))
      · exact g.tr ((fr_fLines_leaveAll_b41 ih h))
    · cases h; exact g
theorem fr_fLines_leaveAll {s : ev_M} {q : ev_M} (h : fLines_leaveAll s = some q) : fr F_Lines_leaveAll s q := by
  have g : fr F_Lines_leaveAll s s := fr.rf
  exact g.tr ((fr_fLines_leaveAll_h2 1048576 h))
def F_Money_giveBack : List (Nat × (Nat × Nat)) := [(78, 78, 7), (78, 78, 10), (80, 80, 0), (82, 82, 0), (83, 83, 0), (84, 84, 0), (85, 85, 0), (87, 87, 0)]
theorem fr_fMoney_giveBack_b47 {k2 : ev_M → Int32 → Int32 → Option ev_M} (hk2 : ∀ {s : ev_M} {z1 : Int32} {z2 : Int32} {q : ev_M} , k2 s z1 z2 = some q → fr F_Money_giveBack s q) {s : ev_M} {x1 : Int32} {x2 : Int32} {q : ev_M} (h : fMoney_giveBack_b47 k2 s x1 x2 = some q) : fr F_Money_giveBack s q := by
  have g : fr F_Money_giveBack s s := fr.rf
  exact g.tr ((hk2 h))
theorem fr_fMoney_giveBack_h2 : ∀ (n : Nat) {s : ev_M} {x1 : Int32} {x2 : Int32} {q : ev_M} , fMoney_giveBack_h2 n s x1 x2 = some q → fr F_Money_giveBack s q := by
  intro n
  induction n with
  | zero => intro s x1 x2 q h; cases h
  | succ n ih =>
    intro s x1 x2 q h
    have g : fr F_Money_giveBack s s := fr.rf
    refine fr_if h (fun h => ?_) fun h => ?_
    · refine fr_gd h fun c0 h => ?_
      refine fr_if h (fun h => ?_) fun h => ?_
      · refine fr_gd h fun c1 h => ?_
        refine fr_if h (fun h => ?_) fun h => ?_
        · refine fr_gd h fun c2 h => ?_
          refine fr_bd1 h fun s1 hc h => ?_
          have gs1 := g.tr ((fr_fMoney_settle hc).mono (F := F_Money_giveBack) (by decide +kernel))
          exact gs1.tr ((fr_fMoney_giveBack_b47 ih h))
        · exact g.tr ((fr_fMoney_giveBack_b47 ih h))
      · exact g.tr ((fr_fMoney_giveBack_b47 ih h))
    · cases h; exact g
theorem fr_fMoney_giveBack {s : ev_M} {a1 : Int32} {q : ev_M} (h : fMoney_giveBack s a1 = some q) : fr F_Money_giveBack s q := by
  have g : fr F_Money_giveBack s s := fr.rf
  exact g.tr ((fr_fMoney_giveBack_h2 1048576 h))
def F_Lock_unbar : List (Nat × (Nat × Nat)) := [(128, 128, 0)]
theorem fr_fLock_unbar_h2 : ∀ (n : Nat) {s : ev_M} {x1 : Int32} {q : ev_M} , fLock_unbar_h2 n s x1 = some q → fr F_Lock_unbar s q := by
  intro n
  induction n with
  | zero => intro s x1 q h; cases h
  | succ n ih =>
    intro s x1 q h
    have g : fr F_Lock_unbar s s := fr.rf
    refine fr_if h (fun h => ?_) fun h => ?_
    · refine fr_gd h fun c0 h => ?_
      refine fr_ltM h (Q := fr F_Lock_unbar s) (g.wI rfl) fun s1 gs1 h => ?_
      exact gs1.tr ((ih h))
    · cases h; exact g
theorem fr_fLock_unbar {s : ev_M} {q : ev_M} (h : fLock_unbar s = some q) : fr F_Lock_unbar s q := by
  have g : fr F_Lock_unbar s s := fr.rf
  exact g.tr ((fr_fLock_unbar_h2 1048576 h))
def F_PH_beginDay : List (Nat × (Nat × Nat)) := [(15, 15, 3), (15, 15, 8), (17, 17, 0), (18, 18, 0), (19, 19, 0), (20, 20, 0), (21, 21, 0), (22, 22, 0), (24, 24, 0), (25, 25, 0), (26, 26, 0), (27, 27, 0), (78, 78, 7), (78, 78, 10), (80, 80, 0), (82, 82, 0), (83, 83, 0), (84, 84, 0), (85, 85, 0), (87, 87, 0), (100, 100, 7), (102, 102, 0), (111, 111, 0), (112, 112, 0), (116, 116, 0), (117, 117, 0), (119, 119, 0), (128, 128, 0), (130, 137, 0)]
theorem fr_fPH_beginDay_b50 {k10 : ev_M → Int32 → Int32 → Option ev_M} (hk10 : ∀ {s : ev_M} {z1 : Int32} {z2 : Int32} {q : ev_M} , k10 s z1 z2 = some q → fr F_PH_beginDay s q) {s : ev_M} {x1 : Int32} {x2 : Int32} {q : ev_M} (h : fPH_beginDay_b50 k10 s x1 x2 = some q) : fr F_PH_beginDay s q := by
  have g : fr F_PH_beginDay s s := fr.rf
  exact g.tr ((hk10 h))
theorem fr_fPH_beginDay_h10 : ∀ (n : Nat) {s : ev_M} {x1 : Int32} {x2 : Int32} {q : ev_M} , fPH_beginDay_h10 n s x1 x2 = some q → fr F_PH_beginDay s q := by
  intro n
  induction n with
  | zero => intro s x1 x2 q h; cases h
  | succ n ih =>
    intro s x1 x2 q h
    have g : fr F_PH_beginDay s s := fr.rf
    refine fr_if h (fun h => ?_) fun h => ?_
    · refine fr_bd1 h fun v1 hc h => ?_
      refine fr_if h (fun h => ?_) fun h => ?_
      · exact g.tr ((fr_fPH_beginDay_b50 ih h))
      · refine fr_bd1 h fun s2 hc h => ?_
        have gs2 := g.tr ((fr_fLock_drop hc).mono (F := F_PH_beginDay) (by decide +kernel))
        refine fr_bd2 h fun s3 v4 hc h => ?_
        have gs3 : fr F_PH_beginDay s s3 := gs2.tr ((fr_fItems_goBack hc).mono (F := F_PH_beginDay) (by decide +kernel))
        exact gs3.tr ((fr_fPH_beginDay_b50 ih h))
    · refine fr_bd1 h fun s5 hc h => ?_
      have gs5 := g.tr ((fr_fMoney_giveBack hc).mono (F := F_PH_beginDay) (by decide +kernel))
      refine fr_bd1 h fun s6 hc h => ?_
      have gs6 := gs5.tr ((fr_fLock_unbar hc).mono (F := F_PH_beginDay) (by decide +kernel))
      cases h; exact gs6
theorem fr_fPH_beginDay {s : ev_M} {q : ev_M} (h : fPH_beginDay s = some q) : fr F_PH_beginDay s q := by
  have g : fr F_PH_beginDay s s := fr.rf
  refine fr_bd1 h fun v7 hc h => ?_
  exact g.tr ((fr_fPH_beginDay_h10 1048576 h))
def F_PH_goOn : List (Nat × (Nat × Nat)) := [(9, 9, 7), (9, 9, 8), (9, 9, 14), (13, 13, 0), (15, 15, 2), (15, 15, 3), (15, 15, 8), (17, 17, 0), (18, 18, 0), (19, 19, 0), (20, 20, 0), (21, 21, 0), (22, 22, 0), (24, 24, 0), (25, 25, 0), (26, 26, 0), (27, 27, 0), (78, 78, 7), (78, 78, 10), (80, 80, 0), (82, 82, 0), (83, 83, 0), (84, 84, 0), (85, 85, 0), (87, 87, 0), (100, 100, 7), (102, 102, 0), (111, 111, 0), (112, 112, 0), (116, 116, 0), (117, 117, 0), (119, 119, 0), (128, 128, 0), (130, 137, 0), (456, 456, 0), (457, 457, 0), (459, 459, 0), (460, 460, 0), (463, 463, 0), (464, 464, 0), (546, 546, 0), (547, 547, 0), (548, 548, 0)]
theorem fr_fPH_goOn_b124 {k54 : ev_M → Int32 → Int32 → Int32 → Option (ev_M × Int32)} (hk54 : ∀ {s : ev_M} {z1 : Int32} {z2 : Int32} {z3 : Int32} {q : ev_M × Int32} , k54 s z1 z2 z3 = some q → fr F_PH_goOn s q.1) {s : ev_M} {x1 : Int32} {x2 : Int32} {x3 : Int32} {q : ev_M × Int32} (h : fPH_goOn_b124 k54 s x1 x2 x3 = some q) : fr F_PH_goOn s q.1 := by
  have g : fr F_PH_goOn s s := fr.rf
  refine fr_bd1 h fun s1 hc h => ?_
  have gs1 := g.tr ((fr_fLines_arrive hc).mono (F := F_PH_goOn) (by decide +kernel))
  refine fr_bd1 h fun s2 hc h => ?_
  have gs2 := gs1.tr ((fr_fLines_leaveAll hc).mono (F := F_PH_goOn) (by decide +kernel))
  exact gs2.tr ((hk54 h))
theorem fr_fPH_goOn_b144 {s : ev_M} {q : ev_M × Int32} (h : fPH_goOn_b144 s = some q) : fr F_PH_goOn s q.1 := by
  have g : fr F_PH_goOn s s := fr.rf
  cases h; exact g
theorem fr_fPH_goOn_h54 : ∀ (n : Nat) {s : ev_M} {x1 : Int32} {x2 : Int32} {x3 : Int32} {q : ev_M × Int32} , fPH_goOn_h54 n s x1 x2 x3 = some q → fr F_PH_goOn s q.1 := by
  intro n
  induction n with
  | zero => intro s x1 x2 x3 q h; cases h
  | succ n ih =>
    intro s x1 x2 x3 q h
    have g : fr F_PH_goOn s s := fr.rf
    refine fr_if h (fun h => ?_) fun h => ?_
    · refine fr_if h (fun h => ?_) fun h => ?_
      · refine fr_bd1 h fun v3 hc h => ?_
        refine fr_ltI h fun v4 h => ?_
        refine fr_bd1 h fun v5 hc h => ?_
        refine fr_bd1 h fun v6 hc h => ?_
        refine fr_bd1 h fun v7 hc h => ?_
        refine fr_ltM h (Q := fr F_PH_goOn s) (g.wI rfl) fun s8 gs8 h => ?_
        refine fr_if h (fun h => ?_) fun h => ?_
        · refine fr_bd1 h fun s9 hc h => ?_
          have gs9 := gs8.tr ((fr_fPH_beginDay hc).mono (F := F_PH_goOn) (by decide +kernel))
          exact gs9.tr ((fr_fPH_goOn_b124 ih h))
        · exact gs8.tr ((fr_fPH_goOn_b124 ih h))
      · exact g.tr ((fr_fPH_goOn_b144 h))
    · exact g.tr ((fr_fPH_goOn_b144 h))
theorem fr_fPH_goOn {s : ev_M} {a1 : Int32} {q : ev_M × Int32} (h : fPH_goOn s a1 = some q) : fr F_PH_goOn s q.1 := by
  have g : fr F_PH_goOn s s := fr.rf
  refine fr_bd1 h fun v10 hc h => ?_
  refine fr_if h (fun h => ?_) fun h => ?_
  · refine fr_if h (fun h => ?_) fun h => ?_
    · refine fr_bd2 h fun s11 v12 hc h => ?_
      have gs11 : fr F_PH_goOn s s11 := g.tr ((fr_fLog_admits hc).mono (F := F_PH_goOn) (by decide +kernel))
      refine fr_if h (fun h => ?_) fun h => ?_
      · cases h; exact gs11
      · refine fr_ltI h fun v13 h => ?_
        exact gs11.tr ((fr_fPH_goOn_h54 1048576 h))
    · cases h; exact g
  · cases h; exact g
def F_PH_act_1 : List (Nat × (Nat × Nat)) := [(1, 1, 3), (1, 1, 5), (1, 1, 6), (3, 3, 0), (9, 9, 7), (9, 9, 8), (9, 9, 14), (13, 13, 0), (15, 15, 2), (15, 15, 3), (15, 15, 8), (17, 17, 0), (18, 18, 0), (19, 19, 0), (20, 20, 0), (21, 21, 0), (22, 22, 0), (24, 24, 0), (25, 25, 0), (26, 26, 0), (27, 27, 0), (28, 28, 0), (29, 29, 0), (30, 30, 3), (30, 30, 5), (30, 30, 8), (30, 30, 10), (30, 30, 12), (30, 30, 15), (30, 30, 16), (31, 31, 0), (33, 33, 0), (34, 34, 0), (35, 35, 0), (36, 36, 0), (37, 37, 0), (39, 39, 0), (40, 40, 0), (41, 41, 0), (42, 42, 0), (44, 44, 0), (45, 45, 0), (47, 47, 0), (48, 48, 0), (49, 49, 0), (50, 50, 0), (51, 51, 0), (52, 52, 3), (52, 52, 4), (52, 52, 5), (52, 52, 6), (52, 52, 9), (52, 52, 10), (52, 52, 14), (53, 53, 0), (54, 54, 0), (56, 56, 0), (57, 57, 0), (58, 58, 0), (59, 59, 0), (60, 60, 0), (61, 61, 0), (63, 63, 0), (64, 64, 0), (65, 65, 0), (66, 66, 0), (68, 75, 0), (72, 72, 0), (73, 73, 0), (74, 74, 0), (76, 76, 0), (77, 77, 0), (78, 78, 4), (78, 78, 7), (78, 78, 9), (78, 78, 10), (78, 78, 12), (78, 78, 14), (79, 79, 0), (80, 80, 0), (82, 82, 0), (83, 83, 0), (84, 84, 0), (85, 85, 0), (87, 87, 0), (88, 88, 0), (89, 89, 0), (90, 90, 0), (91, 91, 0), (93, 95, 0), (97, 97, 0), (98, 98, 0), (99, 99, 0), (100, 100, 6), (100, 100, 7), (102, 102, 0), (102, 123, 0), (103, 103, 0), (104, 104, 0), (105, 105, 0), (106, 106, 0), (107, 107, 0), (108, 108, 0), (109, 109, 0), (110, 110, 0), (111, 111, 0), (112, 112, 0), (113, 113, 0), (115, 115, 0), (116, 116, 0), (117, 117, 0), (119, 119, 0), (120, 120, 0), (121, 121, 0), (125, 125, 4), (126, 126, 0), (127, 127, 0), (128, 128, 0), (130, 137, 0), (138, 138, 4), (138, 138, 10), (138, 138, 11), (138, 138, 13), (140, 140, 0), (141, 141, 0), (142, 142, 0), (143, 143, 0), (144, 144, 0), (146, 157, 0), (158, 158, 0), (160, 171, 0), (172, 172, 0), (173, 173, 0), (174, 174, 0), (175, 175, 0), (177, 177, 0), (177, 179, 0), (178, 178, 0), (179, 179, 0), (180, 180, 0), (181, 181, 0), (183, 191, 0), (193, 448, 0), (449, 449, 5), (449, 449, 7), (451, 451, 0), (452, 452, 0), (453, 453, 0), (454, 454, 0), (455, 455, 0), (456, 456, 0), (457, 457, 0), (459, 459, 0), (460, 460, 0), (461, 461, 0), (462, 462, 0), (463, 463, 0), (464, 464, 0), (466, 545, 0), (546, 546, 0), (547, 547, 0), (548, 548, 0)]
theorem fr_fPH_act_1_b677 {s : ev_M} {y1 : Int32} {y2 : Int32} {y3 : Int32} {q : ev_M × Int32} (h : fPH_act_1_b677 s y1 y2 y3 = some q) : fr F_PH_act_1 s q.1 := by
  have g : fr F_PH_act_1 s s := fr.rf
  refine fr_bd2 h fun s1 v2 hc h => ?_
  have gs1 : fr F_PH_act_1 s s1 := g.tr ((fr_fChron_setWish hc).mono (F := F_PH_act_1) (by decide +kernel))
  cases h; exact gs1
theorem fr_fPH_act_1 {s : ev_M} {q : ev_M × Int32} (h : fPH_act_1 s = some q) : fr F_PH_act_1 s q.1 := by
  have g : fr F_PH_act_1 s s := fr.rf
  refine fr_ltI h fun v3 h => ?_
  refine fr_ltI h fun v4 h => ?_
  refine fr_ltI h fun v5 h => ?_
  refine fr_ltI h fun v6 h => ?_
  refine fr_ltI h fun v7 h => ?_
  refine fr_ltI h fun v8 h => ?_
  refine fr_if h (fun h => ?_) fun h => ?_
  · refine fr_bd2 h fun s9 v10 hc h => ?_
    have gs9 : fr F_PH_act_1 s s9 := g.tr ((fr_fBook_readText_1 hc).mono (F := F_PH_act_1) (by decide +kernel))
    cases h; exact gs9
  · refine fr_if h (fun h => ?_) fun h => ?_
    · refine fr_bd2 h fun s11 v12 hc h => ?_
      have gs11 : fr F_PH_act_1 s s11 := g.tr ((fr_fBook_tellForwarding hc).mono (F := F_PH_act_1) (by decide +kernel))
      cases h; exact gs11
    · refine fr_if h (fun h => ?_) fun h => ?_
      · refine fr_bd2 h fun s13 v14 hc h => ?_
        have gs13 : fr F_PH_act_1 s s13 := g.tr ((fr_fBook_tellHold hc).mono (F := F_PH_act_1) (by decide +kernel))
        cases h; exact gs13
      · refine fr_if h (fun h => ?_) fun h => ?_
        · refine fr_bd2 h fun s15 v16 hc h => ?_
          have gs15 : fr F_PH_act_1 s s15 := g.tr ((fr_fSheet_show_1 hc).mono (F := F_PH_act_1) (by decide +kernel))
          cases h; exact gs15
        · refine fr_if h (fun h => ?_) fun h => ?_
          · refine fr_bd2 h fun s17 v18 hc h => ?_
            have gs17 : fr F_PH_act_1 s s17 := g.tr ((fr_fItems_tell hc).mono (F := F_PH_act_1) (by decide +kernel))
            cases h; exact gs17
          · refine fr_if h (fun h => ?_) fun h => ?_
            · refine fr_bd2 h fun s19 v20 hc h => ?_
              have gs19 : fr F_PH_act_1 s s19 := g.tr ((fr_fItems_setAddress hc).mono (F := F_PH_act_1) (by decide +kernel))
              cases h; exact gs19
            · refine fr_if h (fun h => ?_) fun h => ?_
              · refine fr_bd2 h fun s21 v22 hc h => ?_
                have gs21 : fr F_PH_act_1 s s21 := g.tr ((fr_fItems_takeReading hc).mono (F := F_PH_act_1) (by decide +kernel))
                cases h; exact gs21
              · refine fr_if h (fun h => ?_) fun h => ?_
                · refine fr_bd2 h fun s23 v24 hc h => ?_
                  have gs23 : fr F_PH_act_1 s s23 := g.tr ((fr_fItems_hearClerk hc).mono (F := F_PH_act_1) (by decide +kernel))
                  cases h; exact gs23
                · refine fr_if h (fun h => ?_) fun h => ?_
                  · refine fr_bd2 h fun s25 v26 hc h => ?_
                    have gs25 : fr F_PH_act_1 s s25 := g.tr ((fr_fItems_postAt hc).mono (F := F_PH_act_1) (by decide +kernel))
                    cases h; exact gs25
                  · refine fr_if h (fun h => ?_) fun h => ?_
                    · refine fr_bd2 h fun s27 v28 hc h => ?_
                      have gs27 : fr F_PH_act_1 s s27 := g.tr ((fr_fRounds_setMachine hc).mono (F := F_PH_act_1) (by decide +kernel))
                      cases h; exact gs27
                    · refine fr_if h (fun h => ?_) fun h => ?_
                      · refine fr_bd2 h fun s29 v30 hc h => ?_
                        have gs29 : fr F_PH_act_1 s s29 := g.tr ((fr_fRounds_make hc).mono (F := F_PH_act_1) (by decide +kernel))
                        cases h; exact gs29
                      · refine fr_if h (fun h => ?_) fun h => ?_
                        · refine fr_bd2 h fun s31 v32 hc h => ?_
                          have gs31 : fr F_PH_act_1 s s31 := g.tr ((fr_fRounds_addStop hc).mono (F := F_PH_act_1) (by decide +kernel))
                          cases h; exact gs31
                        · refine fr_if h (fun h => ?_) fun h => ?_
                          · refine fr_bd2 h fun s33 v34 hc h => ?_
                            have gs33 : fr F_PH_act_1 s s33 := g.tr ((fr_fRounds_arrangeStops hc).mono (F := F_PH_act_1) (by decide +kernel))
                            cases h; exact gs33
                          · refine fr_if h (fun h => ?_) fun h => ?_
                            · refine fr_bd2 h fun s35 v36 hc h => ?_
                              have gs35 : fr F_PH_act_1 s s35 := g.tr ((fr_fRounds_sortItems hc).mono (F := F_PH_act_1) (by decide +kernel))
                              cases h; exact gs35
                            · refine fr_if h (fun h => ?_) fun h => ?_
                              · refine fr_bd2 h fun s37 v38 hc h => ?_
                                have gs37 : fr F_PH_act_1 s s37 := g.tr ((fr_fRounds_sendOut hc).mono (F := F_PH_act_1) (by decide +kernel))
                                cases h; exact gs37
                              · refine fr_if h (fun h => ?_) fun h => ?_
                                · refine fr_bd2 h fun s39 v40 hc h => ?_
                                  have gs39 : fr F_PH_act_1 s s39 := g.tr ((fr_fLines_make hc).mono (F := F_PH_act_1) (by decide +kernel))
                                  cases h; exact gs39
                                · refine fr_if h (fun h => ?_) fun h => ?_
                                  · refine fr_bd2 h fun s41 v42 hc h => ?_
                                    have gs41 : fr F_PH_act_1 s s41 := g.tr ((fr_fLines_delay hc).mono (F := F_PH_act_1) (by decide +kernel))
                                    cases h; exact gs41
                                  · refine fr_if h (fun h => ?_) fun h => ?_
                                    · refine fr_bd2 h fun s43 v44 hc h => ?_
                                      have gs43 : fr F_PH_act_1 s s43 := g.tr ((fr_fLines_makeBag hc).mono (F := F_PH_act_1) (by decide +kernel))
                                      cases h; exact gs43
                                    · refine fr_if h (fun h => ?_) fun h => ?_
                                      · refine fr_bd2 h fun s45 v46 hc h => ?_
                                        have gs45 : fr F_PH_act_1 s s45 := g.tr ((fr_fLines_fillBag hc).mono (F := F_PH_act_1) (by decide +kernel))
                                        cases h; exact gs45
                                      · refine fr_if h (fun h => ?_) fun h => ?_
                                        · refine fr_bd2 h fun s47 v48 hc h => ?_
                                          have gs47 : fr F_PH_act_1 s s47 := g.tr ((fr_fLines_shutBag hc).mono (F := F_PH_act_1) (by decide +kernel))
                                          cases h; exact gs47
                                        · refine fr_if h (fun h => ?_) fun h => ?_
                                          · refine fr_bd2 h fun s49 v50 hc h => ?_
                                            have gs49 : fr F_PH_act_1 s s49 := g.tr ((fr_fLines_emptyBag hc).mono (F := F_PH_act_1) (by decide +kernel))
                                            cases h; exact gs49
                                          · refine fr_if h (fun h => ?_) fun h => ?_
                                            · refine fr_bd2 h fun s51 v52 hc h => ?_
                                              have gs51 : fr F_PH_act_1 s s51 := g.tr ((fr_fItems_handAtDoor hc).mono (F := F_PH_act_1) (by decide +kernel))
                                              cases h; exact gs51
                                            · refine fr_if h (fun h => ?_) fun h => ?_
                                              · refine fr_bd2 h fun s53 v54 hc h => ?_
                                                have gs53 : fr F_PH_act_1 s s53 := g.tr ((fr_fItems_missAtDoor hc).mono (F := F_PH_act_1) (by decide +kernel))
                                                cases h; exact gs53
                                              · refine fr_if h (fun h => ?_) fun h => ?_
                                                · refine fr_bd2 h fun s55 v56 hc h => ?_
                                                  have gs55 : fr F_PH_act_1 s s55 := g.tr ((fr_fItems_refuseItem hc).mono (F := F_PH_act_1) (by decide +kernel))
                                                  cases h; exact gs55
                                                · refine fr_if h (fun h => ?_) fun h => ?_
                                                  · refine fr_bd2 h fun s57 v58 hc h => ?_
                                                    have gs57 : fr F_PH_act_1 s s57 := g.tr ((fr_fLock_fill hc).mono (F := F_PH_act_1) (by decide +kernel))
                                                    cases h; exact gs57
                                                  · refine fr_if h (fun h => ?_) fun h => ?_
                                                    · refine fr_bd2 h fun s59 v60 hc h => ?_
                                                      have gs59 : fr F_PH_act_1 s s59 := g.tr ((fr_fItems_handAtPost hc).mono (F := F_PH_act_1) (by decide +kernel))
                                                      cases h; exact gs59
                                                    · refine fr_if h (fun h => ?_) fun h => ?_
                                                      · refine fr_bd2 h fun s61 v62 hc h => ?_
                                                        have gs61 : fr F_PH_act_1 s s61 := g.tr ((fr_fLock_tryKey hc).mono (F := F_PH_act_1) (by decide +kernel))
                                                        cases h; exact gs61
                                                      · refine fr_if h (fun h => ?_) fun h => ?_
                                                        · refine fr_bd2 h fun s63 v64 hc h => ?_
                                                          have gs63 : fr F_PH_act_1 s s63 := g.tr ((fr_fPH_loseItem hc).mono (F := F_PH_act_1) (by decide +kernel))
                                                          cases h; exact gs63
                                                        · refine fr_if h (fun h => ?_) fun h => ?_
                                                          · refine fr_bd2 h fun s65 v66 hc h => ?_
                                                            have gs65 : fr F_PH_act_1 s s65 := g.tr ((fr_fMoney_openAccount hc).mono (F := F_PH_act_1) (by decide +kernel))
                                                            cases h; exact gs65
                                                          · refine fr_if h (fun h => ?_) fun h => ?_
                                                            · refine fr_bd2 h fun s67 v68 hc h => ?_
                                                              have gs67 : fr F_PH_act_1 s s67 := g.tr ((fr_fMoney_payIn hc).mono (F := F_PH_act_1) (by decide +kernel))
                                                              cases h; exact gs67
                                                            · refine fr_if h (fun h => ?_) fun h => ?_
                                                              · refine fr_bd2 h fun s69 v70 hc h => ?_
                                                                have gs69 : fr F_PH_act_1 s s69 := g.tr ((fr_fMoney_readTariff_1 hc).mono (F := F_PH_act_1) (by decide +kernel))
                                                                cases h; exact gs69
                                                              · refine fr_if h (fun h => ?_) fun h => ?_
                                                                · refine fr_bd2 h fun s71 v72 hc h => ?_
                                                                  have gs71 : fr F_PH_act_1 s s71 := g.tr ((fr_fItems_frankItem hc).mono (F := F_PH_act_1) (by decide +kernel))
                                                                  cases h; exact gs71
                                                                · refine fr_if h (fun h => ?_) fun h => ?_
                                                                  · refine fr_bd2 h fun s73 v74 hc h => ?_
                                                                    have gs73 : fr F_PH_act_1 s s73 := g.tr ((fr_fMoney_makeOrder hc).mono (F := F_PH_act_1) (by decide +kernel))
                                                                    cases h; exact gs73
                                                                  · refine fr_if h (fun h => ?_) fun h => ?_
                                                                    · refine fr_bd2 h fun s75 v76 hc h => ?_
                                                                      have gs75 : fr F_PH_act_1 s s75 := g.tr ((fr_fMoney_payOrder hc).mono (F := F_PH_act_1) (by decide +kernel))
                                                                      cases h; exact gs75
                                                                    · refine fr_if h (fun h => ?_) fun h => ?_
                                                                      · refine fr_bd2 h fun s77 v78 hc h => ?_
                                                                        have gs77 : fr F_PH_act_1 s s77 := g.tr ((fr_fItems_claimFor hc).mono (F := F_PH_act_1) (by decide +kernel))
                                                                        cases h; exact gs77
                                                                      · refine fr_if h (fun h => ?_) fun h => ?_
                                                                        · refine fr_bd2 h fun s79 v80 hc h => ?_
                                                                          have gs79 : fr F_PH_act_1 s s79 := g.tr ((fr_fLock_make hc).mono (F := F_PH_act_1) (by decide +kernel))
                                                                          cases h; exact gs79
                                                                        · refine fr_if h (fun h => ?_) fun h => ?_
                                                                          · refine fr_bd2 h fun s81 v82 hc h => ?_
                                                                            have gs81 : fr F_PH_act_1 s s81 := g.tr ((fr_fChron_setDevice hc).mono (F := F_PH_act_1) (by decide +kernel))
                                                                            cases h; exact gs81
                                                                          · refine fr_if h (fun h => ?_) fun h => ?_
                                                                            · refine fr_bd2 h fun s83 v84 hc h => ?_
                                                                              have gs83 : fr F_PH_act_1 s s83 := g.tr ((fr_fPH_scanItem hc).mono (F := F_PH_act_1) (by decide +kernel))
                                                                              cases h; exact gs83
                                                                            · refine fr_if h (fun h => ?_) fun h => ?_
                                                                              · refine fr_bd1 h fun v85 hc h => ?_
                                                                                refine fr_if h (fun h => ?_) fun h => ?_
                                                                                · cases h; exact g
                                                                                · refine fr_if h (fun h => ?_) fun h => ?_
                                                                                  · exact g.tr ((fr_fPH_act_1_b677 h))
                                                                                  · exact g.tr ((fr_fPH_act_1_b677 h))
                                                                              · refine fr_if h (fun h => ?_) fun h => ?_
                                                                                · refine fr_bd2 h fun s86 v87 hc h => ?_
                                                                                  have gs86 : fr F_PH_act_1 s s86 := g.tr ((fr_fPH_goOn hc).mono (F := F_PH_act_1) (by decide +kernel))
                                                                                  cases h; exact gs86
                                                                                · cases h; exact g
def F_PH_wish : List (Nat × (Nat × Nat)) := [(1, 1, 3), (1, 1, 5), (1, 1, 6), (3, 3, 0), (9, 9, 7), (9, 9, 8), (9, 9, 14), (9, 9, 15), (13, 13, 0), (14, 14, 0), (15, 15, 2), (15, 15, 3), (15, 15, 8), (17, 17, 0), (18, 18, 0), (19, 19, 0), (20, 20, 0), (21, 21, 0), (22, 22, 0), (24, 24, 0), (25, 25, 0), (26, 26, 0), (27, 27, 0), (28, 28, 0), (29, 29, 0), (30, 30, 3), (30, 30, 5), (30, 30, 8), (30, 30, 10), (30, 30, 12), (30, 30, 15), (30, 30, 16), (31, 31, 0), (33, 33, 0), (34, 34, 0), (35, 35, 0), (36, 36, 0), (37, 37, 0), (39, 39, 0), (40, 40, 0), (41, 41, 0), (42, 42, 0), (44, 44, 0), (45, 45, 0), (47, 47, 0), (48, 48, 0), (49, 49, 0), (50, 50, 0), (51, 51, 0), (52, 52, 3), (52, 52, 4), (52, 52, 5), (52, 52, 6), (52, 52, 9), (52, 52, 10), (52, 52, 14), (53, 53, 0), (54, 54, 0), (56, 56, 0), (57, 57, 0), (58, 58, 0), (59, 59, 0), (60, 60, 0), (61, 61, 0), (63, 63, 0), (64, 64, 0), (65, 65, 0), (66, 66, 0), (68, 75, 0), (72, 72, 0), (73, 73, 0), (74, 74, 0), (76, 76, 0), (77, 77, 0), (78, 78, 4), (78, 78, 7), (78, 78, 9), (78, 78, 10), (78, 78, 12), (78, 78, 14), (79, 79, 0), (80, 80, 0), (82, 82, 0), (83, 83, 0), (84, 84, 0), (85, 85, 0), (87, 87, 0), (88, 88, 0), (89, 89, 0), (90, 90, 0), (91, 91, 0), (93, 95, 0), (97, 97, 0), (98, 98, 0), (99, 99, 0), (100, 100, 6), (100, 100, 7), (102, 102, 0), (102, 123, 0), (103, 103, 0), (104, 104, 0), (105, 105, 0), (106, 106, 0), (107, 107, 0), (108, 108, 0), (109, 109, 0), (110, 110, 0), (111, 111, 0), (112, 112, 0), (113, 113, 0), (115, 115, 0), (116, 116, 0), (117, 117, 0), (119, 119, 0), (120, 120, 0), (121, 121, 0), (125, 125, 4), (126, 126, 0), (127, 127, 0), (128, 128, 0), (130, 137, 0), (138, 138, 4), (138, 138, 10), (138, 138, 11), (138, 138, 13), (140, 140, 0), (141, 141, 0), (142, 142, 0), (143, 143, 0), (144, 144, 0), (146, 157, 0), (158, 158, 0), (160, 171, 0), (172, 172, 0), (173, 173, 0), (174, 174, 0), (175, 175, 0), (177, 177, 0), (177, 179, 0), (178, 178, 0), (179, 179, 0), (180, 180, 0), (181, 181, 0), (183, 191, 0), (193, 448, 0), (449, 449, 5), (449, 449, 7), (451, 451, 0), (452, 452, 0), (453, 453, 0), (454, 454, 0), (455, 455, 0), (456, 456, 0), (457, 457, 0), (459, 459, 0), (460, 460, 0), (461, 461, 0), (462, 462, 0), (463, 463, 0), (464, 464, 0), (466, 545, 0), (546, 546, 0), (547, 547, 0), (548, 548, 0)]
theorem fr_fPH_wish_b17 {s : ev_M} {y1 : Int32} {y2 : Int32} {y3 : Int32} {y4 : Int32} {q : ev_M × Int32} (h : fPH_wish_b17 s y1 y2 y3 y4 = some q) : fr F_PH_wish s q.1 := by
  have g : fr F_PH_wish s s := fr.rf
  refine fr_bd2 h fun s1 v2 hc h => ?_
  have gs1 : fr F_PH_wish s s1 := g.tr ((fr_fLog_stages hc).mono (F := F_PH_wish) (by decide +kernel))
  refine fr_if h (fun h => ?_) fun h => ?_
  · cases h; exact gs1
  · refine fr_bd2 h fun s3 v4 hc h => ?_
    have gs3 : fr F_PH_wish s s3 := gs1.tr ((fr_fPH_act_1 hc).mono (F := F_PH_wish) (by decide +kernel))
    cases h; exact gs3
theorem fr_fPH_wish {s : ev_M} {a1 : Int32} {a2 : Int32} {a3 : Int32} {q : ev_M × Int32} (h : fPH_wish s a1 a2 a3 = some q) : fr F_PH_wish s q.1 := by
  have g : fr F_PH_wish s s := fr.rf
  refine fr_if h (fun h => ?_) fun h => ?_
  · exact g.tr ((fr_fPH_wish_b17 h))
  · exact g.tr ((fr_fPH_wish_b17 h))
def F_M_feed : List (Nat × (Nat × Nat)) := [(549, 549, 1), (549, 549, 3), (550, 550, 0)]
theorem fr_fM_feed_b87 {k34 : ev_M → Int32 → Int32 → Int32 → Int32 → Int32 → Int32 → Option (ev_M × Int32)} (hk34 : ∀ {s : ev_M} {z1 : Int32} {z2 : Int32} {z3 : Int32} {z4 : Int32} {z5 : Int32} {z6 : Int32} {q : ev_M × Int32} , k34 s z1 z2 z3 z4 z5 z6 = some q → fr F_M_feed s q.1) {s : ev_M} {x1 : Int32} {x2 : Int32} {x3 : Int32} {x4 : Int32} {x5 : Int32} {x6 : Int32} {y0 : Int32} {q : ev_M × Int32} (h : fM_feed_b87 k34 s x1 x2 x3 x4 x5 x6 y0 = some q) : fr F_M_feed s q.1 := by
  have g : fr F_M_feed s s := fr.rf
  refine fr_dv h fun h => ?_
  refine fr_gd h fun c0 h => ?_
  refine fr_ltM h (Q := fr F_M_feed s) (g.wI rfl) fun s1 gs1 h => ?_
  refine fr_ltM h (Q := fr F_M_feed s) (gs1.wI rfl) fun s2 gs2 h => ?_
  exact gs2.tr ((hk34 h))
theorem fr_fM_feed_h34 : ∀ (n : Nat) {s : ev_M} {x1 : Int32} {x2 : Int32} {x3 : Int32} {x4 : Int32} {x5 : Int32} {x6 : Int32} {q : ev_M × Int32} , fM_feed_h34 n s x1 x2 x3 x4 x5 x6 = some q → fr F_M_feed s q.1 := by
  intro n
  induction n with
  | zero => intro s x1 x2 x3 x4 x5 x6 q h; cases h
  | succ n ih =>
    intro s x1 x2 x3 x4 x5 x6 q h
    have g : fr F_M_feed s s := fr.rf
    refine fr_if h (fun h => ?_) fun h => ?_
    · refine fr_if h (fun h => ?_) fun h => ?_
      · exact g.tr ((fr_fM_feed_b87 ih h))
      · refine fr_if h (fun h => ?_) fun h => ?_
        · exact g.tr ((fr_fM_feed_b87 ih h))
        · refine fr_if h (fun h => ?_) fun h => ?_
          · exact g.tr ((fr_fM_feed_b87 ih h))
          · refine fr_if h (fun h => ?_) fun h => ?_
            · exact g.tr ((fr_fM_feed_b87 ih h))
            · exact g.tr ((fr_fM_feed_b87 ih h))
    · cases h; exact g
theorem fr_fM_feed_b19 {s : ev_M} {x1 : Int32} {x2 : Int32} {x3 : Int32} {x4 : Int32} {x5 : Int32} {y1 : Int32} {q : ev_M × Int32} (h : fM_feed_b19 s x1 x2 x3 x4 x5 y1 = some q) : fr F_M_feed s q.1 := by
  have g : fr F_M_feed s s := fr.rf
  refine fr_ltM h (Q := fr F_M_feed s) (g.wI rfl) fun s3 gs3 h => ?_
  refine fr_if h (fun h => ?_) fun h => ?_
  · exact gs3.tr ((fr_fM_feed_h34 1048576 h))
  · cases h; exact gs3
theorem fr_fM_feed {s : ev_M} {a1 : Int32} {a2 : Int32} {a3 : Int32} {a4 : Int32} {a5 : Int32} {q : ev_M × Int32} (h : fM_feed s a1 a2 a3 a4 a5 = some q) : fr F_M_feed s q.1 := by
  have g : fr F_M_feed s s := fr.rf
  refine fr_if h (fun h => ?_) fun h => ?_
  · exact g.tr ((fr_fM_feed_b19 h))
  · exact g.tr ((fr_fM_feed_b19 h))
def F_M_end : List (Nat × (Nat × Nat)) := [(549, 549, 1), (549, 549, 3)]
theorem fr_fM_end_b37 {s : ev_M} {y1 : Int32} {q : ev_M} (h : fM_end_b37 s y1 = some q) : fr F_M_end s q := by
  have g : fr F_M_end s s := fr.rf
  refine fr_ltM h (Q := fr F_M_end s) (g.wI rfl) fun s1 gs1 h => ?_
  cases h; exact gs1
theorem fr_fM_end_b18 {s : ev_M} {x1 : Int32} {y1 : Int32} {q : ev_M} (h : fM_end_b18 s x1 y1 = some q) : fr F_M_end s q := by
  have g : fr F_M_end s s := fr.rf
  refine fr_ltM h (Q := fr F_M_end s) (g.wI rfl) fun s2 gs2 h => ?_
  refine fr_if h (fun h => ?_) fun h => ?_
  · exact gs2.tr ((fr_fM_end_b37 h))
  · exact gs2.tr ((fr_fM_end_b37 h))
theorem fr_fM_end {s : ev_M} {a1 : Int32} {q : ev_M} (h : fM_end s a1 = some q) : fr F_M_end s q := by
  have g : fr F_M_end s s := fr.rf
  refine fr_bd1 h fun v3 hc h => ?_
  refine fr_if h (fun h => ?_) fun h => ?_
  · exact g.tr ((fr_fM_end_b18 h))
  · exact g.tr ((fr_fM_end_b18 h))
def F_Arr_fillL_12 : List (Nat × (Nat × Nat)) := [(12, 12, 0)]
theorem fr_fArr_fillL_12_h5 : ∀ (n : Nat) {s : ev_M} {x1 : Int32} {x2 : Int32} {x3 : Int32} {q : ev_M} , fArr_fillL_12_h5 n s x1 x2 x3 = some q → fr F_Arr_fillL_12 s q := by
  intro n
  induction n with
  | zero => intro s x1 x2 x3 q h; cases h
  | succ n ih =>
    intro s x1 x2 x3 q h
    have g : fr F_Arr_fillL_12 s s := fr.rf
    refine fr_if h (fun h => ?_) fun h => ?_
    · refine fr_gd h fun c0 h => ?_
      refine fr_ltM h (Q := fr F_Arr_fillL_12 s) (g.wI rfl) fun s1 gs1 h => ?_
      exact gs1.tr ((ih h))
    · cases h; exact g
theorem fr_fArr_fillL_12 {s : ev_M} {a1 : Int32} {q : ev_M} (h : fArr_fillL_12 s a1 = some q) : fr F_Arr_fillL_12 s q := by
  have g : fr F_Arr_fillL_12 s s := fr.rf
  exact g.tr ((fr_fArr_fillL_12_h5 1048576 h))
def F_Log_makeBlock : List (Nat × (Nat × Nat)) := [(12, 12, 0)]
theorem fr_fLog_makeBlock_h122 : ∀ (n : Nat) {s : ev_M} {x6 : Int32} {x7 : Int32} {q : ev_M} , fLog_makeBlock_h122 n s x6 x7 = some q → fr F_Log_makeBlock s q := by
  intro n
  induction n with
  | zero => intro s x6 x7 q h; cases h
  | succ n ih =>
    intro s x6 x7 q h
    have g : fr F_Log_makeBlock s s := fr.rf
    refine fr_if h (fun h => ?_) fun h => ?_
    · refine fr_gd h fun c0 h => ?_
      refine fr_ltM h (Q := fr F_Log_makeBlock s) (g.wI rfl) fun s1 gs1 h => ?_
      exact gs1.tr ((ih h))
    · cases h; exact g
theorem fr_fLog_makeBlock_h77 : ∀ (n : Nat) {s : ev_M} {x4 : Int32} {x5 : Int32} {x6 : Int32} {q : ev_M} , fLog_makeBlock_h77 n s x4 x5 x6 = some q → fr F_Log_makeBlock s q := by
  intro n
  induction n with
  | zero => intro s x4 x5 x6 q h; cases h
  | succ n ih =>
    intro s x4 x5 x6 q h
    have g : fr F_Log_makeBlock s s := fr.rf
    refine fr_if h (fun h => ?_) fun h => ?_
    · refine fr_gd h fun c0 h => ?_
      refine fr_gd h fun c1 h => ?_
      refine fr_ltM h (Q := fr F_Log_makeBlock s) (g.wI rfl) fun s2 gs2 h => ?_
      exact gs2.tr ((ih h))
    · refine fr_bd1 h fun v3 hc h => ?_
      exact g.tr ((fr_fLog_makeBlock_h122 1048576 h))
theorem fr_fLog_makeBlock_b63 {s : ev_M} {x4 : Int32} {x5 : Int32} {y1 : Int32} {y2 : Int32} {q : ev_M} (h : fLog_makeBlock_b63 s x4 x5 y1 y2 = some q) : fr F_Log_makeBlock s q := by
  have g : fr F_Log_makeBlock s s := fr.rf
  refine fr_gd h fun c0 h => ?_
  refine fr_ltM h (Q := fr F_Log_makeBlock s) (g.wI rfl) fun s4 gs4 h => ?_
  refine fr_ltM h (Q := fr F_Log_makeBlock s) (gs4.wI rfl) fun s5 gs5 h => ?_
  exact gs5.tr ((fr_fLog_makeBlock_h77 1048576 h))
theorem fr_fLog_makeBlock {s : ev_M} {a1 : Int32} {a2 : Int32} {a3 : Int32} {q : ev_M} (h : fLog_makeBlock s a1 a2 a3 = some q) : fr F_Log_makeBlock s q := by
  have g : fr F_Log_makeBlock s s := fr.rf
  refine fr_ltI h fun v6 h => ?_
  refine fr_bd1 h fun v7 hc h => ?_
  refine fr_bd1 h fun s8 hc h => ?_
  have gs8 := g.tr ((fr_fArr_fillL_12 hc).mono (F := F_Log_makeBlock) (by decide +kernel))
  refine fr_ltM h (Q := fr F_Log_makeBlock s) (gs8.wI rfl) fun s9 gs9 h => ?_
  refine fr_ltM h (Q := fr F_Log_makeBlock s) (gs9.wI rfl) fun s10 gs10 h => ?_
  refine fr_if h (fun h => ?_) fun h => ?_
  · exact gs10.tr ((fr_fLog_makeBlock_b63 h))
  · exact gs10.tr ((fr_fLog_makeBlock_b63 h))
def F_Log_writes : List (Nat × (Nat × Nat)) := [(9, 9, 11), (10, 10, 0), (11, 11, 0)]
theorem fr_fLog_writes_b75 {s : ev_M} {x2 : Int32} {y1 : Int32} {y2 : Int32} {q : ev_M × Int32} (h : fLog_writes_b75 s x2 y1 y2 = some q) : fr F_Log_writes s q.1 := by
  have g : fr F_Log_writes s s := fr.rf
  refine fr_gd h fun c0 h => ?_
  refine fr_ltM h (Q := fr F_Log_writes s) (g.wI rfl) fun s1 gs1 h => ?_
  refine fr_if h (fun h => ?_) fun h => ?_
  · refine fr_if h (fun h => ?_) fun h => ?_
    · cases h; exact gs1
    · cases h
  · refine fr_ltM h (Q := fr F_Log_writes s) (gs1.wI rfl) fun s2 gs2 h => ?_
    refine fr_if h (fun h => ?_) fun h => ?_
    · cases h; exact gs2
    · cases h
theorem fr_fLog_writes_b56 {s : ev_M} {x1 : Int32} {x2 : Int32} {y1 : Int32} {y3 : Int32} {y4 : Int32} {q : ev_M × Int32} (h : fLog_writes_b56 s x1 x2 y1 y3 y4 = some q) : fr F_Log_writes s q.1 := by
  have g : fr F_Log_writes s s := fr.rf
  refine fr_bd1 h fun s3 hc h => ?_
  have gs3 := g.tr (fr_acp (F := F_Log_writes) (fun _ => rfl) hc)
  refine fr_if h (fun h => ?_) fun h => ?_
  · exact gs3.tr ((fr_fLog_writes_b75 h))
  · exact gs3.tr ((fr_fLog_writes_b75 h))
theorem fr_fLog_writes_b25 {s : ev_M} {x1 : Int32} {y0 : Int32} {q : ev_M × Int32} (h : fLog_writes_b25 s x1 y0 = some q) : fr F_Log_writes s q.1 := by
  have g : fr F_Log_writes s s := fr.rf
  refine fr_if h (fun h => ?_) fun h => ?_
  · exact g.tr ((fr_fLog_writes_b56 h))
  · exact g.tr ((fr_fLog_writes_b56 h))
theorem fr_fLog_writes {s : ev_M} {a1 : Int32} {q : ev_M × Int32} (h : fLog_writes s a1 = some q) : fr F_Log_writes s q.1 := by
  have g : fr F_Log_writes s s := fr.rf
  refine fr_bd1 h fun v4 hc h => ?_
  refine fr_if h (fun h => ?_) fun h => ?_
  · refine fr_if h (fun h => ?_) fun h => ?_
    · exact g.tr ((fr_fLog_writes_b25 h))
    · exact g.tr ((fr_fLog_writes_b25 h))
  · cases h; exact g
def F_Log_writeAll : List (Nat × (Nat × Nat)) := [(9, 9, 5), (9, 9, 7), (9, 9, 8), (9, 9, 10), (9, 9, 11), (10, 10, 0), (11, 11, 0), (12, 12, 0)]
theorem fr_fLog_writeAll_b37 {k10 : ev_M → Int32 → Int32 → Option (ev_M × Int32)} (hk10 : ∀ {s : ev_M} {z1 : Int32} {z2 : Int32} {q : ev_M × Int32} , k10 s z1 z2 = some q → fr F_Log_writeAll s q.1) {s : ev_M} {x1 : Int32} {x2 : Int32} {y1 : Int32} {y2 : Int32} {y3 : Int32} {q : ev_M × Int32} (h : fLog_writeAll_b37 k10 s x1 x2 y1 y2 y3 = some q) : fr F_Log_writeAll s q.1 := by
  have g : fr F_Log_writeAll s s := fr.rf
  refine fr_bd1 h fun s1 hc h => ?_
  have gs1 := g.tr ((fr_fLog_makeBlock hc).mono (F := F_Log_writeAll) (by decide +kernel))
  refine fr_bd2 h fun s2 v3 hc h => ?_
  have gs2 : fr F_Log_writeAll s s2 := gs1.tr ((fr_fLog_writes hc).mono (F := F_Log_writeAll) (by decide +kernel))
  refine fr_if h (fun h => ?_) fun h => ?_
  · refine fr_ltM h (Q := fr F_Log_writeAll s) (gs2.wI rfl) fun s4 gs4 h => ?_
    cases h; exact gs4
  · exact gs2.tr ((hk10 h))
theorem fr_fLog_writeAll_h10 : ∀ (n : Nat) {s : ev_M} {x1 : Int32} {x2 : Int32} {q : ev_M × Int32} , fLog_writeAll_h10 n s x1 x2 = some q → fr F_Log_writeAll s q.1 := by
  intro n
  induction n with
  | zero => intro s x1 x2 q h; cases h
  | succ n ih =>
    intro s x1 x2 q h
    have g : fr F_Log_writeAll s s := fr.rf
    refine fr_if h (fun h => ?_) fun h => ?_
    · refine fr_if h (fun h => ?_) fun h => ?_
      · exact g.tr ((fr_fLog_writeAll_b37 ih h))
      · exact g.tr ((fr_fLog_writeAll_b37 ih h))
    · refine fr_ltM h (Q := fr F_Log_writeAll s) (g.wI rfl) fun s5 gs5 h => ?_
      refine fr_ltM h (Q := fr F_Log_writeAll s) (gs5.wI rfl) fun s6 gs6 h => ?_
      refine fr_ltM h (Q := fr F_Log_writeAll s) (gs6.wI rfl) fun s7 gs7 h => ?_
      cases h; exact gs7
theorem fr_fLog_writeAll {s : ev_M} {q : ev_M × Int32} (h : fLog_writeAll s = some q) : fr F_Log_writeAll s q.1 := by
  have g : fr F_Log_writeAll s s := fr.rf
  refine fr_bd1 h fun v8 hc h => ?_
  exact g.tr ((fr_fLog_writeAll_h10 1048576 h))
def F_PH_sync : List (Nat × (Nat × Nat)) := [(9, 9, 5), (9, 9, 7), (9, 9, 8), (9, 9, 10), (9, 9, 11), (10, 10, 0), (11, 11, 0), (12, 12, 0)]
theorem fr_fPH_sync {s : ev_M} {q : ev_M × Int32} (h : fPH_sync s = some q) : fr F_PH_sync s q.1 := by
  have g : fr F_PH_sync s s := fr.rf
  refine fr_if h (fun h => ?_) fun h => ?_
  · refine fr_bd2 h fun s1 v2 hc h => ?_
    have gs1 : fr F_PH_sync s s1 := g.tr ((fr_fLog_writeAll hc).mono (F := F_PH_sync) (by decide +kernel))
    cases h; exact gs1
  · cases h; exact g
def F_M_make : List (Nat × (Nat × Nat)) := [(556, 556, 0)]
theorem fr_fM_make_b65 {k21 : ev_M → Int32 → Int32 → Int32 → Int32 → Int32 → Option ev_M} (hk21 : ∀ {s : ev_M} {z1 : Int32} {z2 : Int32} {z3 : Int32} {z4 : Int32} {z5 : Int32} {q : ev_M} , k21 s z1 z2 z3 z4 z5 = some q → fr F_M_make s q) {s : ev_M} {x1 : Int32} {x2 : Int32} {x3 : Int32} {x4 : Int32} {x5 : Int32} {y1 : Int32} {y2 : Int32} {q : ev_M} (h : fM_make_b65 k21 s x1 x2 x3 x4 x5 y1 y2 = some q) : fr F_M_make s q := by
  have g : fr F_M_make s s := fr.rf
  refine fr_gd h fun c0 h => ?_
  refine fr_ltM h (Q := fr F_M_make s) (g.wI rfl) fun s1 gs1 h => ?_
  exact gs1.tr ((hk21 h))
theorem fr_fM_make_b64 {k21 : ev_M → Int32 → Int32 → Int32 → Int32 → Int32 → Option ev_M} (hk21 : ∀ {s : ev_M} {z1 : Int32} {z2 : Int32} {z3 : Int32} {z4 : Int32} {z5 : Int32} {q : ev_M} , k21 s z1 z2 z3 z4 z5 = some q → fr F_M_make s q) {s : ev_M} {x1 : Int32} {x2 : Int32} {x3 : Int32} {x4 : Int32} {x5 : Int32} {y1 : Int32} {q : ev_M} (h : fM_make_b64 k21 s x1 x2 x3 x4 x5 y1 = some q) : fr F_M_make s q := by
  have g : fr F_M_make s s := fr.rf
  exact g.tr ((fr_fM_make_b65 hk21 h))
theorem fr_fM_make_h129 : ∀ (n : Nat) {s : ev_M} {x5 : Int32} {x6 : Int32} {q : ev_M} , fM_make_h129 n s x5 x6 = some q → fr F_M_make s q := by
  intro n
  induction n with
  | zero => intro s x5 x6 q h; cases h
  | succ n ih =>
    intro s x5 x6 q h
    have g : fr F_M_make s s := fr.rf
    refine fr_if h (fun h => ?_) fun h => ?_
    · refine fr_gd h fun c0 h => ?_
      refine fr_ltM h (Q := fr F_M_make s) (g.wI rfl) fun s2 gs2 h => ?_
      exact gs2.tr ((ih h))
    · cases h; exact g
theorem fr_fM_make_b105 {s : ev_M} {x4 : Int32} {y1 : Int32} {y2 : Int32} {q : ev_M} (h : fM_make_b105 s x4 y1 y2 = some q) : fr F_M_make s q := by
  have g : fr F_M_make s s := fr.rf
  refine fr_gd h fun c0 h => ?_
  refine fr_ltM h (Q := fr F_M_make s) (g.wI rfl) fun s3 gs3 h => ?_
  refine fr_ltM h (Q := fr F_M_make s) (gs3.wI rfl) fun s4 gs4 h => ?_
  refine fr_bd1 h fun v5 hc h => ?_
  exact gs4.tr ((fr_fM_make_h129 1048576 h))
theorem fr_fM_make_h21 : ∀ (n : Nat) {s : ev_M} {x1 : Int32} {x2 : Int32} {x3 : Int32} {x4 : Int32} {x5 : Int32} {q : ev_M} , fM_make_h21 n s x1 x2 x3 x4 x5 = some q → fr F_M_make s q := by
  intro n
  induction n with
  | zero => intro s x1 x2 x3 x4 x5 q h; cases h
  | succ n ih =>
    intro s x1 x2 x3 x4 x5 q h
    have g : fr F_M_make s s := fr.rf
    refine fr_if h (fun h => ?_) fun h => ?_
    · refine fr_if h (fun h => ?_) fun h => ?_
      · exact g.tr ((fr_fM_make_b64 ih h))
      · refine fr_if h (fun h => ?_) fun h => ?_
        · refine fr_gd h fun c0 h => ?_
          exact g.tr ((fr_fM_make_b65 ih h))
        · exact g.tr ((fr_fM_make_b64 ih h))
    · refine fr_ltM h (Q := fr F_M_make s) (g.wI rfl) fun s6 gs6 h => ?_
      refine fr_ltM h (Q := fr F_M_make s) (gs6.wI rfl) fun s7 gs7 h => ?_
      refine fr_if h (fun h => ?_) fun h => ?_
      · exact gs7.tr ((fr_fM_make_b105 h))
      · exact gs7.tr ((fr_fM_make_b105 h))
theorem fr_fM_make_b16 {s : ev_M} {x1 : Int32} {x2 : Int32} {x3 : Int32} {y0 : Int32} {q : ev_M} (h : fM_make_b16 s x1 x2 x3 y0 = some q) : fr F_M_make s q := by
  have g : fr F_M_make s s := fr.rf
  exact g.tr ((fr_fM_make_h21 1048576 h))
theorem fr_fM_make {s : ev_M} {a1 : Int32} {a2 : Int32} {a3 : Int32} {q : ev_M} (h : fM_make s a1 a2 a3 = some q) : fr F_M_make s q := by
  have g : fr F_M_make s s := fr.rf
  refine fr_if h (fun h => ?_) fun h => ?_
  · exact g.tr ((fr_fM_make_b16 h))
  · exact g.tr ((fr_fM_make_b16 h))
def F_M_sync : List (Nat × (Nat × Nat)) := [(549, 549, 1), (549, 549, 5), (549, 549, 6), (549, 549, 7), (549, 549, 10), (549, 549, 11), (551, 551, 0), (555, 555, 0), (556, 556, 0)]
theorem fr_fM_sync_b174 {k32 : ev_M → Int32 → Int32 → Option (ev_M × Int32)} (hk32 : ∀ {s : ev_M} {z1 : Int32} {z2 : Int32} {q : ev_M × Int32} , k32 s z1 z2 = some q → fr F_M_sync s q.1) {s : ev_M} {x1 : Int32} {x2 : Int32} {y1 : Int32} {q : ev_M × Int32} (h : fM_sync_b174 k32 s x1 x2 y1 = some q) : fr F_M_sync s q.1 := by
  have g : fr F_M_sync s s := fr.rf
  refine fr_ltM h (Q := fr F_M_sync s) (g.wI rfl) fun s1 gs1 h => ?_
  exact gs1.tr ((hk32 h))
theorem fr_fM_sync_b140 {k32 : ev_M → Int32 → Int32 → Option (ev_M × Int32)} (hk32 : ∀ {s : ev_M} {z1 : Int32} {z2 : Int32} {q : ev_M × Int32} , k32 s z1 z2 = some q → fr F_M_sync s q.1) {s : ev_M} {x1 : Int32} {x2 : Int32} {y1 : Int32} {y2 : Int32} {q : ev_M × Int32} (h : fM_sync_b140 k32 s x1 x2 y1 y2 = some q) : fr F_M_sync s q.1 := by
  have g : fr F_M_sync s s := fr.rf
  refine fr_gd h fun c0 h => ?_
  refine fr_ltM h (Q := fr F_M_sync s) (g.wI rfl) fun s2 gs2 h => ?_
  refine fr_if h (fun h => ?_) fun h => ?_
  · refine fr_ltM h (Q := fr F_M_sync s) (gs2.wI rfl) fun s3 gs3 h => ?_
    cases h; exact gs3
  · refine fr_if h (fun h => ?_) fun h => ?_
    · exact gs2.tr ((fr_fM_sync_b174 hk32 h))
    · exact gs2.tr ((fr_fM_sync_b174 hk32 h))
theorem fr_fM_sync_h90 {k32 : ev_M → Int32 → Int32 → Option (ev_M × Int32)} (hk32 : ∀ {s : ev_M} {z1 : Int32} {z2 : Int32} {q : ev_M × Int32} , k32 s z1 z2 = some q → fr F_M_sync s q.1) : ∀ (n : Nat) {s : ev_M} {x1 : Int32} {x2 : Int32} {x3 : Int32} {x4 : Int32} {x5 : Int32} {q : ev_M × Int32} , fM_sync_h90 k32 n s x1 x2 x3 x4 x5 = some q → fr F_M_sync s q.1 := by
  intro n
  induction n with
  | zero => intro s x1 x2 x3 x4 x5 q h; cases h
  | succ n ih =>
    intro s x1 x2 x3 x4 x5 q h
    have g : fr F_M_sync s s := fr.rf
    refine fr_if h (fun h => ?_) fun h => ?_
    · refine fr_gd h fun c0 h => ?_
      refine fr_gd h fun c1 h => ?_
      refine fr_ltM h (Q := fr F_M_sync s) (g.wI rfl) fun s4 gs4 h => ?_
      exact gs4.tr ((ih h))
    · refine fr_if h (fun h => ?_) fun h => ?_
      · exact g.tr ((fr_fM_sync_b140 hk32 h))
      · exact g.tr ((fr_fM_sync_b140 hk32 h))
theorem fr_fM_sync_b85 {k32 : ev_M → Int32 → Int32 → Option (ev_M × Int32)} (hk32 : ∀ {s : ev_M} {z1 : Int32} {z2 : Int32} {q : ev_M × Int32} , k32 s z1 z2 = some q → fr F_M_sync s q.1) {s : ev_M} {x1 : Int32} {x2 : Int32} {x3 : Int32} {y0 : Int32} {q : ev_M × Int32} (h : fM_sync_b85 k32 s x1 x2 x3 y0 = some q) : fr F_M_sync s q.1 := by
  have g : fr F_M_sync s s := fr.rf
  exact g.tr ((fr_fM_sync_h90 hk32 1048576 h))
theorem fr_fM_sync_b65 {k32 : ev_M → Int32 → Int32 → Option (ev_M × Int32)} (hk32 : ∀ {s : ev_M} {z1 : Int32} {z2 : Int32} {q : ev_M × Int32} , k32 s z1 z2 = some q → fr F_M_sync s q.1) {s : ev_M} {x1 : Int32} {x2 : Int32} {x3 : Int32} {y1 : Int32} {y2 : Int32} {y3 : Int32} {q : ev_M × Int32} (h : fM_sync_b65 k32 s x1 x2 x3 y1 y2 y3 = some q) : fr F_M_sync s q.1 := by
  have g : fr F_M_sync s s := fr.rf
  refine fr_bd1 h fun s5 hc h => ?_
  have gs5 := g.tr ((fr_fM_make hc).mono (F := F_M_sync) (by decide +kernel))
  refine fr_if h (fun h => ?_) fun h => ?_
  · exact gs5.tr ((fr_fM_sync_b85 hk32 h))
  · exact gs5.tr ((fr_fM_sync_b85 hk32 h))
theorem fr_fM_sync_h32 : ∀ (n : Nat) {s : ev_M} {x1 : Int32} {x2 : Int32} {q : ev_M × Int32} , fM_sync_h32 n s x1 x2 = some q → fr F_M_sync s q.1 := by
  intro n
  induction n with
  | zero => intro s x1 x2 q h; cases h
  | succ n ih =>
    intro s x1 x2 q h
    have g : fr F_M_sync s s := fr.rf
    refine fr_if h (fun h => ?_) fun h => ?_
    · refine fr_ltI h fun v6 h => ?_
      refine fr_if h (fun h => ?_) fun h => ?_
      · exact g.tr ((fr_fM_sync_b65 ih h))
      · exact g.tr ((fr_fM_sync_b65 ih h))
    · refine fr_ltM h (Q := fr F_M_sync s) (g.wI rfl) fun s7 gs7 h => ?_
      refine fr_ltM h (Q := fr F_M_sync s) (gs7.wI rfl) fun s8 gs8 h => ?_
      refine fr_ltM h (Q := fr F_M_sync s) (gs8.wI rfl) fun s9 gs9 h => ?_
      cases h; exact gs9
theorem fr_fM_sync {s : ev_M} {q : ev_M × Int32} (h : fM_sync s = some q) : fr F_M_sync s q.1 := by
  have g : fr F_M_sync s s := fr.rf
  refine fr_ltM h (Q := fr F_M_sync s) (g.wI rfl) fun s10 gs10 h => ?_
  refine fr_if h (fun h => ?_) fun h => ?_
  · refine fr_dv h fun h => ?_
    refine fr_ltI h fun v11 h => ?_
    exact gs10.tr ((fr_fM_sync_h32 1048576 h))
  · cases h; exact gs10
def F_Log_setCut : List (Nat × (Nat × Nat)) := [(9, 9, 11), (9, 9, 12)]
theorem fr_fLog_setCut {s : ev_M} {a1 : Int32} {a2 : Int32} {q : ev_M × Int32} (h : fLog_setCut s a1 a2 = some q) : fr F_Log_setCut s q.1 := by
  have g : fr F_Log_setCut s s := fr.rf
  refine fr_bd1 h fun v1 hc h => ?_
  refine fr_if h (fun h => ?_) fun h => ?_
  · refine fr_bd1 h fun v2 hc h => ?_
    refine fr_if h (fun h => ?_) fun h => ?_
    · refine fr_ltM h (Q := fr F_Log_setCut s) (g.wI rfl) fun s3 gs3 h => ?_
      refine fr_ltM h (Q := fr F_Log_setCut s) (gs3.wI rfl) fun s4 gs4 h => ?_
      cases h; exact gs4
    · cases h; exact g
  · cases h; exact g
def F_PH_cut : List (Nat × (Nat × Nat)) := [(9, 9, 11), (9, 9, 12)]
theorem fr_fPH_cut {s : ev_M} {a1 : Int32} {a2 : Int32} {q : ev_M × Int32} (h : fPH_cut s a1 a2 = some q) : fr F_PH_cut s q.1 := by
  have g : fr F_PH_cut s s := fr.rf
  refine fr_if h (fun h => ?_) fun h => ?_
  · refine fr_bd2 h fun s1 v2 hc h => ?_
    have gs1 : fr F_PH_cut s s1 := g.tr ((fr_fLog_setCut hc).mono (F := F_PH_cut) (by decide +kernel))
    cases h; exact gs1
  · cases h; exact g
def F_M_cut : List (Nat × (Nat × Nat)) := [(549, 549, 1), (549, 549, 7), (549, 549, 8)]
theorem fr_fM_cut {s : ev_M} {a1 : Int32} {a2 : Int32} {q : ev_M × Int32} (h : fM_cut s a1 a2 = some q) : fr F_M_cut s q.1 := by
  have g : fr F_M_cut s s := fr.rf
  refine fr_ltM h (Q := fr F_M_cut s) (g.wI rfl) fun s1 gs1 h => ?_
  refine fr_if h (fun h => ?_) fun h => ?_
  · refine fr_bd1 h fun v2 hc h => ?_
    refine fr_if h (fun h => ?_) fun h => ?_
    · cases h; exact gs1
    · refine fr_bd1 h fun v3 hc h => ?_
      refine fr_if h (fun h => ?_) fun h => ?_
      · cases h; exact gs1
      · refine fr_ltM h (Q := fr F_M_cut s) (gs1.wI rfl) fun s4 gs4 h => ?_
        refine fr_ltM h (Q := fr F_M_cut s) (gs4.wI rfl) fun s5 gs5 h => ?_
        cases h; exact gs5
  · cases h; exact gs1
def F_Log_forgetGathered : List (Nat × (Nat × Nat)) := [(9, 9, 7), (9, 9, 8), (9, 9, 9)]
theorem fr_fLog_forgetGathered {s : ev_M} {q : ev_M} (h : fLog_forgetGathered s = some q) : fr F_Log_forgetGathered s q := by
  have g : fr F_Log_forgetGathered s s := fr.rf
  refine fr_ltM h (Q := fr F_Log_forgetGathered s) (g.wI rfl) fun s1 gs1 h => ?_
  refine fr_ltM h (Q := fr F_Log_forgetGathered s) (gs1.wI rfl) fun s2 gs2 h => ?_
  refine fr_ltM h (Q := fr F_Log_forgetGathered s) (gs2.wI rfl) fun s3 gs3 h => ?_
  cases h; exact gs3
def F_Tape_fill_4_13 : List (Nat × (Nat × Nat)) := [(4, 4, 2), (5, 5, 0)]
theorem fr_fTape_fill_4_13_h8 : ∀ (n : Nat) {s : ev_M} {x2 : Int32} {x3 : Int32} {x4 : Int32} {q : ev_M} , fTape_fill_4_13_h8 n s x2 x3 x4 = some q → fr F_Tape_fill_4_13 s q := by
  intro n
  induction n with
  | zero => intro s x2 x3 x4 q h; cases h
  | succ n ih =>
    intro s x2 x3 x4 q h
    have g : fr F_Tape_fill_4_13 s s := fr.rf
    refine fr_if h (fun h => ?_) fun h => ?_
    · refine fr_if h (fun h => ?_) fun h => ?_
      · refine fr_if h (fun h => ?_) fun h => ?_
        · refine fr_ltM h (Q := fr F_Tape_fill_4_13 s) (g.wI rfl) fun s1 gs1 h => ?_
          refine fr_gd h fun c0 h => ?_
          refine fr_gd h fun c1 h => ?_
          refine fr_ltM h (Q := fr F_Tape_fill_4_13 s) (gs1.wI rfl) fun s2 gs2 h => ?_
          exact gs2.tr ((ih h))
        · cases h; exact g
      · cases h; exact g
    · cases h; exact g
theorem fr_fTape_fill_4_13 {s : ev_M} {a2 : Int32} {a3 : Int32} {q : ev_M} (h : fTape_fill_4_13 s a2 a3 = some q) : fr F_Tape_fill_4_13 s q := by
  have g : fr F_Tape_fill_4_13 s s := fr.rf
  refine fr_ltM h (Q := fr F_Tape_fill_4_13 s) (g.wI rfl) fun s3 gs3 h => ?_
  exact gs3.tr ((fr_fTape_fill_4_13_h8 1048576 h))
def F_Log_readsRecord_4 : List (Nat × (Nat × Nat)) := [(4, 4, 2), (5, 5, 0), (9, 9, 9), (9, 9, 15), (14, 14, 0)]
theorem fr_fLog_readsRecord_4_b223 {s : ev_M} {x2 : Int32} {q : ev_M × Int32} (h : fLog_readsRecord_4_b223 s x2 = some q) : fr F_Log_readsRecord_4 s q.1 := by
  have g : fr F_Log_readsRecord_4 s s := fr.rf
  refine fr_ltM h (Q := fr F_Log_readsRecord_4 s) (g.wI rfl) fun s1 gs1 h => ?_
  cases h; exact gs1
theorem fr_fLog_readsRecord_4_b138 {s : ev_M} {x2 : Int32} {q : ev_M × Int32} (h : fLog_readsRecord_4_b138 s x2 = some q) : fr F_Log_readsRecord_4 s q.1 := by
  have g : fr F_Log_readsRecord_4 s s := fr.rf
  refine fr_bd1 h fun v2 hc h => ?_
  refine fr_if h (fun h => ?_) fun h => ?_
  · exact g.tr ((fr_fLog_readsRecord_4_b223 h))
  · refine fr_if h (fun h => ?_) fun h => ?_
    · refine fr_gd h fun c0 h => ?_
      refine fr_gd h fun c1 h => ?_
      refine fr_ltI h fun v3 h => ?_
      refine fr_if h (fun h => ?_) fun h => ?_
      · refine fr_if h (fun h => ?_) fun h => ?_
        · refine fr_bd1 h fun s4 hc h => ?_
          have gs4 := g.tr ((fr_fTape_fill_4_13 hc).mono (F := F_Log_readsRecord_4) (by decide +kernel))
          refine fr_ltI h fun v5 h => ?_
          exact gs4.tr ((fr_fLog_readsRecord_4_b223 h))
        · cases h; exact g
      · cases h; exact g
    · cases h; exact g
theorem fr_fLog_readsRecord_4_h75 : ∀ (n : Nat) {s : ev_M} {x2 : Int32} {x3 : Int32} {q : ev_M × Int32} , fLog_readsRecord_4_h75 n s x2 x3 = some q → fr F_Log_readsRecord_4 s q.1 := by
  intro n
  induction n with
  | zero => intro s x2 x3 q h; cases h
  | succ n ih =>
    intro s x2 x3 q h
    have g : fr F_Log_readsRecord_4 s s := fr.rf
    refine fr_gd h fun c0 h => ?_
    refine fr_if h (fun h => ?_) fun h => ?_
    · refine fr_bd1 h fun v6 hc h => ?_
      refine fr_gd h fun c1 h => ?_
      refine fr_ltM h (Q := fr F_Log_readsRecord_4 s) (g.wI rfl) fun s7 gs7 h => ?_
      exact gs7.tr ((ih h))
    · refine fr_if h (fun h => ?_) fun h => ?_
      · refine fr_bd1 h fun v8 hc h => ?_
        refine fr_if h (fun h => ?_) fun h => ?_
        · exact g.tr ((fr_fLog_readsRecord_4_b138 h))
        · cases h; exact g
      · exact g.tr ((fr_fLog_readsRecord_4_b138 h))
theorem fr_fLog_readsRecord_4 {s : ev_M} {q : ev_M × Int32} (h : fLog_readsRecord_4 s = some q) : fr F_Log_readsRecord_4 s q.1 := by
  have g : fr F_Log_readsRecord_4 s s := fr.rf
  refine fr_if h (fun h => ?_) fun h => ?_
  · refine fr_gd h fun c0 h => ?_
    refine fr_ltM h (Q := fr F_Log_readsRecord_4 s) (g.wI rfl) fun s9 gs9 h => ?_
    refine fr_bd1 h fun v10 hc h => ?_
    refine fr_if h (fun h => ?_) fun h => ?_
    · refine fr_gd h fun c1 h => ?_
      refine fr_ltI h fun v11 h => ?_
      refine fr_if h (fun h => ?_) fun h => ?_
      · exact gs9.tr ((fr_fLog_readsRecord_4_h75 1048576 h))
      · cases h; exact gs9
    · cases h; exact gs9
  · cases h; exact g
def F_Tape_readsNumber_4 : List (Nat × (Nat × Nat)) := [(4, 4, 3), (4, 4, 5), (6, 6, 0)]
theorem fr_fTape_readsNumber_4_b69 {s : ev_M} {x1 : Int32} {x2 : Int32} {q : ev_M × Int32} (h : fTape_readsNumber_4_b69 s x1 x2 = some q) : fr F_Tape_readsNumber_4 s q.1 := by
  have g : fr F_Tape_readsNumber_4 s s := fr.rf
  refine fr_if h (fun h => ?_) fun h => ?_
  · cases h; exact g
  · refine fr_if h (fun h => ?_) fun h => ?_
    · refine fr_ltM h (Q := fr F_Tape_readsNumber_4 s) (g.wI rfl) fun s1 gs1 h => ?_
      refine fr_gd h fun c0 h => ?_
      refine fr_ltM h (Q := fr F_Tape_readsNumber_4 s) (gs1.wI rfl) fun s2 gs2 h => ?_
      cases h; exact gs2
    · cases h; exact g
theorem fr_fTape_readsNumber_4_h4 : ∀ (n : Nat) {s : ev_M} {x1 : Int32} {x2 : Int32} {q : ev_M × Int32} , fTape_readsNumber_4_h4 n s x1 x2 = some q → fr F_Tape_readsNumber_4 s q.1 := by
  intro n
  induction n with
  | zero => intro s x1 x2 q h; cases h
  | succ n ih =>
    intro s x1 x2 q h
    have g : fr F_Tape_readsNumber_4 s s := fr.rf
    refine fr_if h (fun h => ?_) fun h => ?_
    · refine fr_bd1 h fun v3 hc h => ?_
      refine fr_if h (fun h => ?_) fun h => ?_
      · exact g.tr ((fr_fTape_readsNumber_4_b69 h))
      · refine fr_bd1 h fun v4 hc h => ?_
        refine fr_if h (fun h => ?_) fun h => ?_
        · refine fr_bd1 h fun v5 hc h => ?_
          refine fr_ltI h fun v6 h => ?_
          refine fr_ltM h (Q := fr F_Tape_readsNumber_4 s) (g.wI rfl) fun s7 gs7 h => ?_
          exact gs7.tr ((ih h))
        · exact g.tr ((fr_fTape_readsNumber_4_b69 h))
    · exact g.tr ((fr_fTape_readsNumber_4_b69 h))
theorem fr_fTape_readsNumber_4 {s : ev_M} {q : ev_M × Int32} (h : fTape_readsNumber_4 s = some q) : fr F_Tape_readsNumber_4 s q.1 := by
  have g : fr F_Tape_readsNumber_4 s s := fr.rf
  exact g.tr ((fr_fTape_readsNumber_4_h4 1048576 h))
def F_Tape_readsName_4 : List (Nat × (Nat × Nat)) := [(4, 4, 3), (4, 4, 6)]
theorem fr_fTape_readsName_4_b83 {s : ev_M} {x1 : Int32} {q : ev_M × Int32} (h : fTape_readsName_4_b83 s x1 = some q) : fr F_Tape_readsName_4 s q.1 := by
  have g : fr F_Tape_readsName_4 s s := fr.rf
  refine fr_if h (fun h => ?_) fun h => ?_
  · cases h; exact g
  · cases h; exact g
theorem fr_fTape_readsName_4_h7 : ∀ (n : Nat) {s : ev_M} {x1 : Int32} {q : ev_M × Int32} , fTape_readsName_4_h7 n s x1 = some q → fr F_Tape_readsName_4 s q.1 := by
  intro n
  induction n with
  | zero => intro s x1 q h; cases h
  | succ n ih =>
    intro s x1 q h
    have g : fr F_Tape_readsName_4 s s := fr.rf
    refine fr_if h (fun h => ?_) fun h => ?_
    · refine fr_bd1 h fun v1 hc h => ?_
      refine fr_if h (fun h => ?_) fun h => ?_
      · exact g.tr ((fr_fTape_readsName_4_b83 h))
      · refine fr_bd1 h fun v2 hc h => ?_
        refine fr_if h (fun h => ?_) fun h => ?_
        · refine fr_bd1 h fun v3 hc h => ?_
          refine fr_ltM h (Q := fr F_Tape_readsName_4 s) (g.wL rfl) fun s4 gs4 h => ?_
          refine fr_ltM h (Q := fr F_Tape_readsName_4 s) (gs4.wI rfl) fun s5 gs5 h => ?_
          exact gs5.tr ((ih h))
        · exact g.tr ((fr_fTape_readsName_4_b83 h))
    · exact g.tr ((fr_fTape_readsName_4_b83 h))
theorem fr_fTape_readsName_4 {s : ev_M} {q : ev_M × Int32} (h : fTape_readsName_4 s = some q) : fr F_Tape_readsName_4 s q.1 := by
  have g : fr F_Tape_readsName_4 s s := fr.rf
  refine fr_ltM h (Q := fr F_Tape_readsName_4 s) (g.wL rfl) fun s6 gs6 h => ?_
  exact gs6.tr ((fr_fTape_readsName_4_h7 1048576 h))
def F_Tape_reads_4 : List (Nat × (Nat × Nat)) := [(4, 4, 3), (4, 4, 5), (4, 4, 6), (6, 6, 0)]
theorem fr_fTape_reads_4 {s : ev_M} {a1 : Int32} {q : ev_M × Int32} (h : fTape_reads_4 s a1 = some q) : fr F_Tape_reads_4 s q.1 := by
  have g : fr F_Tape_reads_4 s s := fr.rf
  refine fr_if h (fun h => ?_) fun h => ?_
  · refine fr_bd2 h fun s1 v2 hc h => ?_
    have gs1 : fr F_Tape_reads_4 s s1 := g.tr ((fr_fTape_readsNumber_4 hc).mono (F := F_Tape_reads_4) (by decide +kernel))
    refine fr_if h (fun h => ?_) fun h => ?_
    · cases h; exact gs1
    · cases h
  · refine fr_if h (fun h => ?_) fun h => ?_
    · refine fr_bd2 h fun s3 v4 hc h => ?_
      have gs3 : fr F_Tape_reads_4 s s3 := g.tr ((fr_fTape_readsName_4 hc).mono (F := F_Tape_reads_4) (by decide +kernel))
      refine fr_if h (fun h => ?_) fun h => ?_
      · cases h; exact gs3
      · cases h
    · refine fr_bd1 h fun v5 hc h => ?_
      refine fr_if h (fun h => ?_) fun h => ?_
      · refine fr_ltM h (Q := fr F_Tape_reads_4 s) (g.wI rfl) fun s6 gs6 h => ?_
        cases h; exact gs6
      · cases h; exact g
def F_Tape_readsEntry_4_1010 : List (Nat × (Nat × Nat)) := [(4, 4, 3), (4, 4, 5), (4, 4, 6), (6, 6, 0)]
theorem fr_fTape_readsEntry_4_1010_h56 : ∀ (n : Nat) {s : ev_M} {x2 : Int32} {x3 : Int32} {q : ev_M × Int32} , fTape_readsEntry_4_1010_h56 n s x2 x3 = some q → fr F_Tape_readsEntry_4_1010 s q.1 := by
  intro n
  induction n with
  | zero => intro s x2 x3 q h; cases h
  | succ n ih =>
    intro s x2 x3 q h
    have g : fr F_Tape_readsEntry_4_1010 s s := fr.rf
    refine fr_bd1 h fun v1 hc h => ?_
    refine fr_if h (fun h => ?_) fun h => ?_
    · refine fr_bd1 h fun v2 hc h => ?_
      refine fr_bd2 h fun s3 v4 hc h => ?_
      have gs3 : fr F_Tape_readsEntry_4_1010 s s3 := g.tr ((fr_fTape_reads_4 hc).mono (F := F_Tape_readsEntry_4_1010) (by decide +kernel))
      refine fr_if h (fun h => ?_) fun h => ?_
      · cases h; exact gs3
      · refine fr_if h (fun h => ?_) fun h => ?_
        · cases h; exact gs3
        · exact gs3.tr ((ih h))
    · cases h; exact g
theorem fr_fTape_readsEntry_4_1010_b36 {s : ev_M} {x2 : Int32} {y0 : Int32} {q : ev_M × Int32} (h : fTape_readsEntry_4_1010_b36 s x2 y0 = some q) : fr F_Tape_readsEntry_4_1010 s q.1 := by
  have g : fr F_Tape_readsEntry_4_1010 s s := fr.rf
  refine fr_if h (fun h => ?_) fun h => ?_
  · cases h; exact g
  · refine fr_ltM h (Q := fr F_Tape_readsEntry_4_1010 s) (g.wI rfl) fun s5 gs5 h => ?_
    exact gs5.tr ((fr_fTape_readsEntry_4_1010_h56 1048576 h))
theorem fr_fTape_readsEntry_4_1010_b35 {s : ev_M} {x2 : Int32} {q : ev_M × Int32} (h : fTape_readsEntry_4_1010_b35 s x2 = some q) : fr F_Tape_readsEntry_4_1010 s q.1 := by
  have g : fr F_Tape_readsEntry_4_1010 s s := fr.rf
  exact g.tr ((fr_fTape_readsEntry_4_1010_b36 h))
theorem fr_fTape_readsEntry_4_1010 {s : ev_M} {q : ev_M × Int32} (h : fTape_readsEntry_4_1010 s = some q) : fr F_Tape_readsEntry_4_1010 s q.1 := by
  have g : fr F_Tape_readsEntry_4_1010 s s := fr.rf
  refine fr_ltM h (Q := fr F_Tape_readsEntry_4_1010 s) (g.wI rfl) fun s6 gs6 h => ?_
  refine fr_bd1 h fun v7 hc h => ?_
  refine fr_if h (fun h => ?_) fun h => ?_
  · exact gs6.tr ((fr_fTape_readsEntry_4_1010_b35 h))
  · refine fr_if h (fun h => ?_) fun h => ?_
    · refine fr_bd1 h fun v8 hc h => ?_
      exact gs6.tr ((fr_fTape_readsEntry_4_1010_b36 h))
    · exact gs6.tr ((fr_fTape_readsEntry_4_1010_b35 h))
def F_Book_addsStreet_4 : List (Nat × (Nat × Nat)) := [(30, 30, 5), (33, 33, 0), (34, 34, 0), (35, 35, 0), (36, 36, 0), (37, 37, 0)]
theorem fr_fBook_addsStreet_4 {s : ev_M} {a1 : Int32} {q : ev_M × Int32} (h : fBook_addsStreet_4 s a1 = some q) : fr F_Book_addsStreet_4 s q.1 := by
  have g : fr F_Book_addsStreet_4 s s := fr.rf
  refine fr_ltI h fun v1 h => ?_
  refine fr_ltI h fun v2 h => ?_
  refine fr_ltI h fun v3 h => ?_
  refine fr_bd1 h fun v4 hc h => ?_
  refine fr_if h (fun h => ?_) fun h => ?_
  · refine fr_if h (fun h => ?_) fun h => ?_
    · refine fr_bd1 h fun v5 hc h => ?_
      refine fr_if h (fun h => ?_) fun h => ?_
      · refine fr_bd1 h fun v6 hc h => ?_
        refine fr_if h (fun h => ?_) fun h => ?_
        · refine fr_bd1 h fun v7 hc h => ?_
          refine fr_if h (fun h => ?_) fun h => ?_
          · refine fr_gd h fun c0 h => ?_
            refine fr_ltM h (Q := fr F_Book_addsStreet_4 s) (g.wI rfl) fun s8 gs8 h => ?_
            refine fr_gd h fun c1 h => ?_
            refine fr_ltM h (Q := fr F_Book_addsStreet_4 s) (gs8.wI rfl) fun s9 gs9 h => ?_
            refine fr_gd h fun c2 h => ?_
            refine fr_ltM h (Q := fr F_Book_addsStreet_4 s) (gs9.wI rfl) fun s10 gs10 h => ?_
            refine fr_gd h fun c3 h => ?_
            refine fr_ltM h (Q := fr F_Book_addsStreet_4 s) (gs10.wI rfl) fun s11 gs11 h => ?_
            refine fr_ltM h (Q := fr F_Book_addsStreet_4 s) (gs11.wI rfl) fun s12 gs12 h => ?_
            refine fr_gd h fun c4 h => ?_
            refine fr_ltM h (Q := fr F_Book_addsStreet_4 s) (gs12.wL rfl) fun s13 gs13 h => ?_
            cases h; exact gs13
          · cases h; exact g
        · cases h; exact g
      · cases h; exact g
    · cases h; exact g
  · cases h; exact g
def F_Book_addsRange_4 : List (Nat × (Nat × Nat)) := [(30, 30, 8), (39, 39, 0), (40, 40, 0), (41, 41, 0), (42, 42, 0)]
theorem fr_fBook_addsRange_4_b109 {k71 : ev_M → Int32 → Int32 → Int32 → Int32 → Int32 → Option (ev_M × Int32)} (hk71 : ∀ {s : ev_M} {z1 : Int32} {z2 : Int32} {z3 : Int32} {z4 : Int32} {z5 : Int32} {q : ev_M × Int32} , k71 s z1 z2 z3 z4 z5 = some q → fr F_Book_addsRange_4 s q.1) {s : ev_M} {x1 : Int32} {x3 : Int32} {x4 : Int32} {x5 : Int32} {x6 : Int32} {q : ev_M × Int32} (h : fBook_addsRange_4_b109 k71 s x1 x3 x4 x5 x6 = some q) : fr F_Book_addsRange_4 s q.1 := by
  have g : fr F_Book_addsRange_4 s s := fr.rf
  exact g.tr ((hk71 h))
theorem fr_fBook_addsRange_4_h71 : ∀ (n : Nat) {s : ev_M} {x1 : Int32} {x3 : Int32} {x4 : Int32} {x5 : Int32} {x6 : Int32} {q : ev_M × Int32} , fBook_addsRange_4_h71 n s x1 x3 x4 x5 x6 = some q → fr F_Book_addsRange_4 s q.1 := by
  intro n
  induction n with
  | zero => intro s x1 x3 x4 x5 x6 q h; cases h
  | succ n ih =>
    intro s x1 x3 x4 x5 x6 q h
    have g : fr F_Book_addsRange_4 s s := fr.rf
    refine fr_if h (fun h => ?_) fun h => ?_
    · refine fr_gd h fun c0 h => ?_
      refine fr_if h (fun h => ?_) fun h => ?_
      · refine fr_bd1 h fun v1 hc h => ?_
        refine fr_if h (fun h => ?_) fun h => ?_
        · exact g.tr ((fr_fBook_addsRange_4_b109 ih h))
        · cases h; exact g
      · exact g.tr ((fr_fBook_addsRange_4_b109 ih h))
    · refine fr_gd h fun c0 h => ?_
      refine fr_ltM h (Q := fr F_Book_addsRange_4 s) (g.wI rfl) fun s2 gs2 h => ?_
      refine fr_gd h fun c1 h => ?_
      refine fr_ltM h (Q := fr F_Book_addsRange_4 s) (gs2.wI rfl) fun s3 gs3 h => ?_
      refine fr_gd h fun c2 h => ?_
      refine fr_ltM h (Q := fr F_Book_addsRange_4 s) (gs3.wI rfl) fun s4 gs4 h => ?_
      refine fr_ltM h (Q := fr F_Book_addsRange_4 s) (gs4.wI rfl) fun s5 gs5 h => ?_
      refine fr_gd h fun c3 h => ?_
      refine fr_ltM h (Q := fr F_Book_addsRange_4 s) (gs5.wI rfl) fun s6 gs6 h => ?_
      cases h; exact gs6
theorem fr_fBook_addsRange_4 {s : ev_M} {a1 : Int32} {q : ev_M × Int32} (h : fBook_addsRange_4 s a1 = some q) : fr F_Book_addsRange_4 s q.1 := by
  have g : fr F_Book_addsRange_4 s s := fr.rf
  refine fr_ltI h fun v7 h => ?_
  refine fr_ltI h fun v8 h => ?_
  refine fr_ltI h fun v9 h => ?_
  refine fr_bd1 h fun v10 hc h => ?_
  refine fr_if h (fun h => ?_) fun h => ?_
  · refine fr_bd1 h fun v11 hc h => ?_
    refine fr_if h (fun h => ?_) fun h => ?_
    · refine fr_bd1 h fun v12 hc h => ?_
      refine fr_if h (fun h => ?_) fun h => ?_
      · refine fr_if h (fun h => ?_) fun h => ?_
        · exact g.tr ((fr_fBook_addsRange_4_h71 1048576 h))
        · cases h; exact g
      · cases h; exact g
    · cases h; exact g
  · cases h; exact g
def F_Book_adds_4 : List (Nat × (Nat × Nat)) := [(30, 30, 3), (30, 30, 5), (30, 30, 8), (30, 30, 10), (31, 31, 0), (33, 33, 0), (34, 34, 0), (35, 35, 0), (36, 36, 0), (37, 37, 0), (39, 39, 0), (40, 40, 0), (41, 41, 0), (42, 42, 0), (44, 44, 0), (45, 45, 0)]
theorem fr_fBook_adds_4 {s : ev_M} {a1 : Int32} {q : ev_M × Int32} (h : fBook_adds_4 s a1 = some q) : fr F_Book_adds_4 s q.1 := by
  have g : fr F_Book_adds_4 s s := fr.rf
  refine fr_if h (fun h => ?_) fun h => ?_
  · refine fr_bd2 h fun s1 v2 hc h => ?_
    have gs1 : fr F_Book_adds_4 s s1 := g.tr ((fr_fBook_addsPlace hc).mono (F := F_Book_adds_4) (by decide +kernel))
    refine fr_if h (fun h => ?_) fun h => ?_
    · cases h; exact gs1
    · cases h
  · refine fr_bd1 h fun v3 hc h => ?_
    refine fr_if h (fun h => ?_) fun h => ?_
    · cases h; exact g
    · refine fr_if h (fun h => ?_) fun h => ?_
      · refine fr_bd2 h fun s4 v5 hc h => ?_
        have gs4 : fr F_Book_adds_4 s s4 := g.tr ((fr_fBook_addsStreet_4 hc).mono (F := F_Book_adds_4) (by decide +kernel))
        refine fr_if h (fun h => ?_) fun h => ?_
        · cases h; exact gs4
        · cases h
      · refine fr_bd1 h fun v6 hc h => ?_
        refine fr_if h (fun h => ?_) fun h => ?_
        · cases h; exact g
        · refine fr_if h (fun h => ?_) fun h => ?_
          · refine fr_bd2 h fun s7 v8 hc h => ?_
            have gs7 : fr F_Book_adds_4 s s7 := g.tr ((fr_fBook_addsRange_4 hc).mono (F := F_Book_adds_4) (by decide +kernel))
            refine fr_if h (fun h => ?_) fun h => ?_
            · cases h; exact gs7
            · cases h
          · refine fr_bd2 h fun s9 v10 hc h => ?_
            have gs9 : fr F_Book_adds_4 s s9 := g.tr ((fr_fBook_addsPoint hc).mono (F := F_Book_adds_4) (by decide +kernel))
            refine fr_if h (fun h => ?_) fun h => ?_
            · cases h; exact gs9
            · cases h
def F_Book_readText_4 : List (Nat × (Nat × Nat)) := [(4, 4, 3), (4, 4, 5), (4, 4, 6), (6, 6, 0), (9, 9, 7), (9, 9, 8), (9, 9, 14), (13, 13, 0), (30, 30, 3), (30, 30, 5), (30, 30, 8), (30, 30, 10), (31, 31, 0), (33, 33, 0), (34, 34, 0), (35, 35, 0), (36, 36, 0), (37, 37, 0), (39, 39, 0), (40, 40, 0), (41, 41, 0), (42, 42, 0), (44, 44, 0), (45, 45, 0)]
theorem fr_fBook_readText_4_b102 {k33 : ev_M → Int32 → Int32 → Int32 → Int32 → Int32 → Int32 → Option (ev_M × Int32)} (hk33 : ∀ {s : ev_M} {z1 : Int32} {z2 : Int32} {z3 : Int32} {z4 : Int32} {z5 : Int32} {z6 : Int32} {q : ev_M × Int32} , k33 s z1 z2 z3 z4 z5 z6 = some q → fr F_Book_readText_4 s q.1) {s : ev_M} {x2 : Int32} {x3 : Int32} {x4 : Int32} {x5 : Int32} {x6 : Int32} {x7 : Int32} {q : ev_M × Int32} (h : fBook_readText_4_b102 k33 s x2 x3 x4 x5 x6 x7 = some q) : fr F_Book_readText_4 s q.1 := by
  have g : fr F_Book_readText_4 s s := fr.rf
  exact g.tr ((hk33 h))
theorem fr_fBook_readText_4_b59 {k33 : ev_M → Int32 → Int32 → Int32 → Int32 → Int32 → Int32 → Option (ev_M × Int32)} (hk33 : ∀ {s : ev_M} {z1 : Int32} {z2 : Int32} {z3 : Int32} {z4 : Int32} {z5 : Int32} {z6 : Int32} {q : ev_M × Int32} , k33 s z1 z2 z3 z4 z5 z6 = some q → fr F_Book_readText_4 s q.1) {s : ev_M} {x2 : Int32} {x3 : Int32} {x4 : Int32} {x5 : Int32} {x6 : Int32} {x7 : Int32} {q : ev_M × Int32} (h : fBook_readText_4_b59 k33 s x2 x3 x4 x5 x6 x7 = some q) : fr F_Book_readText_4 s q.1 := by
  have g : fr F_Book_readText_4 s s := fr.rf
  refine fr_ltI h fun v1 h => ?_
  refine fr_bd2 h fun s2 v3 hc h => ?_
  have gs2 : fr F_Book_readText_4 s s2 := g.tr ((fr_fTape_readsEntry_4_1010 hc).mono (F := F_Book_readText_4) (by decide +kernel))
  refine fr_if h (fun h => ?_) fun h => ?_
  · refine fr_ltI h fun v4 h => ?_
    exact gs2.tr ((fr_fBook_readText_4_b102 hk33 h))
  · refine fr_bd2 h fun s5 v6 hc h => ?_
    have gs5 : fr F_Book_readText_4 s s5 := gs2.tr ((fr_fBook_adds_4 hc).mono (F := F_Book_readText_4) (by decide +kernel))
    refine fr_if h (fun h => ?_) fun h => ?_
    · exact gs5.tr ((fr_fBook_readText_4_b102 hk33 h))
    · exact gs5.tr ((fr_fBook_readText_4_b102 hk33 h))
theorem fr_fBook_readText_4_b127 {s : ev_M} {x2 : Int32} {x3 : Int32} {x4 : Int32} {x5 : Int32} {x6 : Int32} {q : ev_M × Int32} (h : fBook_readText_4_b127 s x2 x3 x4 x5 x6 = some q) : fr F_Book_readText_4 s q.1 := by
  have g : fr F_Book_readText_4 s s := fr.rf
  refine fr_bd1 h fun s7 hc h => ?_
  have gs7 := g.tr ((fr_fBook_keepFirst hc).mono (F := F_Book_readText_4) (by decide +kernel))
  refine fr_if h (fun h => ?_) fun h => ?_
  · cases h; exact gs7
  · cases h; exact gs7
theorem fr_fBook_readText_4_b108 {s : ev_M} {x2 : Int32} {x3 : Int32} {x4 : Int32} {x5 : Int32} {x6 : Int32} {x7 : Int32} {q : ev_M × Int32} (h : fBook_readText_4_b108 s x2 x3 x4 x5 x6 x7 = some q) : fr F_Book_readText_4 s q.1 := by
  have g : fr F_Book_readText_4 s s := fr.rf
  refine fr_if h (fun h => ?_) fun h => ?_
  · refine fr_bd2 h fun s8 v9 hc h => ?_
    have gs8 : fr F_Book_readText_4 s s8 := g.tr ((fr_fLog_admits hc).mono (F := F_Book_readText_4) (by decide +kernel))
    refine fr_if h (fun h => ?_) fun h => ?_
    · exact gs8.tr ((fr_fBook_readText_4_b127 h))
    · cases h; exact gs8
  · exact g.tr ((fr_fBook_readText_4_b127 h))
theorem fr_fBook_readText_4_h33 : ∀ (n : Nat) {s : ev_M} {x2 : Int32} {x3 : Int32} {x4 : Int32} {x5 : Int32} {x6 : Int32} {x7 : Int32} {q : ev_M × Int32} , fBook_readText_4_h33 n s x2 x3 x4 x5 x6 x7 = some q → fr F_Book_readText_4 s q.1 := by
  intro n
  induction n with
  | zero => intro s x2 x3 x4 x5 x6 x7 q h; cases h
  | succ n ih =>
    intro s x2 x3 x4 x5 x6 x7 q h
    have g : fr F_Book_readText_4 s s := fr.rf
    refine fr_if h (fun h => ?_) fun h => ?_
    · refine fr_if h (fun h => ?_) fun h => ?_
      · refine fr_if h (fun h => ?_) fun h => ?_
        · exact g.tr ((fr_fBook_readText_4_b59 ih h))
        · refine fr_bd1 h fun v10 hc h => ?_
          refine fr_if h (fun h => ?_) fun h => ?_
          · exact g.tr ((fr_fBook_readText_4_b108 h))
          · exact g.tr ((fr_fBook_readText_4_b59 ih h))
      · exact g.tr ((fr_fBook_readText_4_b108 h))
    · exact g.tr ((fr_fBook_readText_4_b108 h))
theorem fr_fBook_readText_4 {s : ev_M} {q : ev_M × Int32} (h : fBook_readText_4 s = some q) : fr F_Book_readText_4 s q.1 := by
  have g : fr F_Book_readText_4 s s := fr.rf
  refine fr_ltI h fun v11 h => ?_
  refine fr_ltI h fun v12 h => ?_
  refine fr_ltI h fun v13 h => ?_
  refine fr_ltI h fun v14 h => ?_
  refine fr_ltM h (Q := fr F_Book_readText_4 s) (g.wI rfl) fun s15 gs15 h => ?_
  exact gs15.tr ((fr_fBook_readText_4_h33 1048576 h))
def F_Sheet_darken_4 : List (Nat × (Nat × Nat)) := [(53, 53, 0)]
theorem fr_fSheet_darken_4_b103 {k64 : ev_M → Int32 → Int32 → Int32 → Int32 → Option ev_M} (hk64 : ∀ {s : ev_M} {z1 : Int32} {z2 : Int32} {z3 : Int32} {z4 : Int32} {q : ev_M} , k64 s z1 z2 z3 z4 = some q → fr F_Sheet_darken_4 s q) {s : ev_M} {x2 : Int32} {x3 : Int32} {x4 : Int32} {x5 : Int32} {y1 : Int32} {y2 : Int32} {q : ev_M} (h : fSheet_darken_4_b103 k64 s x2 x3 x4 x5 y1 y2 = some q) : fr F_Sheet_darken_4 s q := by
  have g : fr F_Sheet_darken_4 s s := fr.rf
  refine fr_gd h fun c0 h => ?_
  refine fr_ltM h (Q := fr F_Sheet_darken_4 s) (g.wI rfl) fun s1 gs1 h => ?_
  exact gs1.tr ((hk64 h))
theorem fr_fSheet_darken_4_b102 {k64 : ev_M → Int32 → Int32 → Int32 → Int32 → Option ev_M} (hk64 : ∀ {s : ev_M} {z1 : Int32} {z2 : Int32} {z3 : Int32} {z4 : Int32} {q : ev_M} , k64 s z1 z2 z3 z4 = some q → fr F_Sheet_darken_4 s q) {s : ev_M} {x2 : Int32} {x3 : Int32} {x4 : Int32} {x5 : Int32} {y1 : Int32} {q : ev_M} (h : fSheet_darken_4_b102 k64 s x2 x3 x4 x5 y1 = some q) : fr F_Sheet_darken_4 s q := by
  have g : fr F_Sheet_darken_4 s s := fr.rf
  exact g.tr ((fr_fSheet_darken_4_b103 hk64 h))
theorem fr_fSheet_darken_4_h64 : ∀ (n : Nat) {s : ev_M} {x2 : Int32} {x3 : Int32} {x4 : Int32} {x5 : Int32} {q : ev_M} , fSheet_darken_4_h64 n s x2 x3 x4 x5 = some q → fr F_Sheet_darken_4 s q := by
  intro n
  induction n with
  | zero => intro s x2 x3 x4 x5 q h; cases h
  | succ n ih =>
    intro s x2 x3 x4 x5 q h
    have g : fr F_Sheet_darken_4 s s := fr.rf
    refine fr_if h (fun h => ?_) fun h => ?_
    · refine fr_if h (fun h => ?_) fun h => ?_
      · exact g.tr ((fr_fSheet_darken_4_b102 ih h))
      · refine fr_bd1 h fun v2 hc h => ?_
        refine fr_if h (fun h => ?_) fun h => ?_
        · exact g.tr ((fr_fSheet_darken_4_b103 ih h))
        · exact g.tr ((fr_fSheet_darken_4_b102 ih h))
    · cases h; exact g
theorem fr_fSheet_darken_4_b59 {s : ev_M} {x2 : Int32} {x3 : Int32} {y0 : Int32} {q : ev_M} (h : fSheet_darken_4_b59 s x2 x3 y0 = some q) : fr F_Sheet_darken_4 s q := by
  have g : fr F_Sheet_darken_4 s s := fr.rf
  exact g.tr ((fr_fSheet_darken_4_h64 1048576 h))
theorem fr_fSheet_darken_4_h9 : ∀ (n : Nat) {s : ev_M} {x2 : Int32} {x3 : Int32} {x4 : Int32} {q : ev_M} , fSheet_darken_4_h9 n s x2 x3 x4 = some q → fr F_Sheet_darken_4 s q := by
  intro n
  induction n with
  | zero => intro s x2 x3 x4 q h; cases h
  | succ n ih =>
    intro s x2 x3 x4 q h
    have g : fr F_Sheet_darken_4 s s := fr.rf
    refine fr_if h (fun h => ?_) fun h => ?_
    · refine fr_bd1 h fun v3 hc h => ?_
      refine fr_bd1 h fun v4 hc h => ?_
      refine fr_bd1 h fun v5 hc h => ?_
      refine fr_bd1 h fun v6 hc h => ?_
      exact g.tr ((ih h))
    · refine fr_if h (fun h => ?_) fun h => ?_
      · exact g.tr ((fr_fSheet_darken_4_b59 h))
      · exact g.tr ((fr_fSheet_darken_4_b59 h))
theorem fr_fSheet_darken_4 {s : ev_M} {q : ev_M} (h : fSheet_darken_4 s = some q) : fr F_Sheet_darken_4 s q := by
  have g : fr F_Sheet_darken_4 s s := fr.rf
  exact g.tr ((fr_fSheet_darken_4_h9 1048576 h))
def F_Sheet_show_4 : List (Nat × (Nat × Nat)) := [(9, 9, 7), (9, 9, 8), (9, 9, 14), (13, 13, 0), (52, 52, 3), (52, 52, 4), (52, 52, 5), (52, 52, 6), (52, 52, 9), (52, 52, 10), (52, 52, 14), (53, 53, 0), (54, 54, 0), (56, 56, 0), (57, 57, 0), (58, 58, 0), (59, 59, 0), (60, 60, 0), (61, 61, 0), (63, 63, 0), (64, 64, 0), (65, 65, 0), (66, 66, 0), (68, 75, 0), (72, 72, 0), (73, 73, 0), (74, 74, 0), (76, 76, 0), (77, 77, 0)]
theorem fr_fSheet_show_4 {s : ev_M} {a2 : Int32} {q : ev_M × Int32} (h : fSheet_show_4 s a2 = some q) : fr F_Sheet_show_4 s q.1 := by
  have g : fr F_Sheet_show_4 s s := fr.rf
  refine fr_bd1 h fun v1 hc h => ?_
  refine fr_if h (fun h => ?_) fun h => ?_
  · refine fr_if h (fun h => ?_) fun h => ?_
    · cases h; exact g
    · refine fr_dv h fun h => ?_
      refine fr_if h (fun h => ?_) fun h => ?_
      · refine fr_bd2 h fun s2 v3 hc h => ?_
        have gs2 : fr F_Sheet_show_4 s s2 := g.tr ((fr_fLog_admits hc).mono (F := F_Sheet_show_4) (by decide +kernel))
        refine fr_if h (fun h => ?_) fun h => ?_
        · cases h; exact gs2
        · refine fr_ltM h (Q := fr F_Sheet_show_4 s) (gs2.wI rfl) fun s4 gs4 h => ?_
          refine fr_ltM h (Q := fr F_Sheet_show_4 s) (gs4.wI rfl) fun s5 gs5 h => ?_
          refine fr_dv h fun h => ?_
          refine fr_ltM h (Q := fr F_Sheet_show_4 s) (gs5.wI rfl) fun s6 gs6 h => ?_
          refine fr_bd1 h fun s7 hc h => ?_
          have gs7 := gs6.tr ((fr_fSheet_darken_4 hc).mono (F := F_Sheet_show_4) (by decide +kernel))
          refine fr_bd1 h fun s8 hc h => ?_
          have gs8 := gs7.tr ((fr_fSheet_findParts hc).mono (F := F_Sheet_show_4) (by decide +kernel))
          refine fr_bd1 h fun s9 hc h => ?_
          have gs9 := gs8.tr ((fr_fSheet_joinLines hc).mono (F := F_Sheet_show_4) (by decide +kernel))
          refine fr_bd1 h fun s10 hc h => ?_
          have gs10 := gs9.tr ((fr_fSheet_orderParts hc).mono (F := F_Sheet_show_4) (by decide +kernel))
          refine fr_bd1 h fun s11 hc h => ?_
          have gs11 := gs10.tr ((fr_fSheet_keepLines hc).mono (F := F_Sheet_show_4) (by decide +kernel))
          refine fr_bd2 h fun s12 v13 hc h => ?_
          have gs12 : fr F_Sheet_show_4 s s12 := gs11.tr ((fr_fSheet_reading hc).mono (F := F_Sheet_show_4) (by decide +kernel))
          cases h; exact gs12
      · cases h; exact g
  · cases h; exact g
def F_Tape_readsEntry_4_1011 : List (Nat × (Nat × Nat)) := [(4, 4, 3), (4, 4, 5), (4, 4, 6), (6, 6, 0)]
theorem fr_fTape_readsEntry_4_1011_h56 : ∀ (n : Nat) {s : ev_M} {x2 : Int32} {x3 : Int32} {q : ev_M × Int32} , fTape_readsEntry_4_1011_h56 n s x2 x3 = some q → fr F_Tape_readsEntry_4_1011 s q.1 := by
  intro n
  induction n with
  | zero => intro s x2 x3 q h; cases h
  | succ n ih =>
    intro s x2 x3 q h
    have g : fr F_Tape_readsEntry_4_1011 s s := fr.rf
    refine fr_bd1 h fun v1 hc h => ?_
    refine fr_if h (fun h => ?_) fun h => ?_
    · refine fr_bd1 h fun v2 hc h => ?_
      refine fr_bd2 h fun s3 v4 hc h => ?_
      have gs3 : fr F_Tape_readsEntry_4_1011 s s3 := g.tr ((fr_fTape_reads_4 hc).mono (F := F_Tape_readsEntry_4_1011) (by decide +kernel))
      refine fr_if h (fun h => ?_) fun h => ?_
      · cases h; exact gs3
      · refine fr_if h (fun h => ?_) fun h => ?_
        · cases h; exact gs3
        · exact gs3.tr ((ih h))
    · cases h; exact g
theorem fr_fTape_readsEntry_4_1011_b36 {s : ev_M} {x2 : Int32} {y0 : Int32} {q : ev_M × Int32} (h : fTape_readsEntry_4_1011_b36 s x2 y0 = some q) : fr F_Tape_readsEntry_4_1011 s q.1 := by
  have g : fr F_Tape_readsEntry_4_1011 s s := fr.rf
  refine fr_if h (fun h => ?_) fun h => ?_
  · cases h; exact g
  · refine fr_ltM h (Q := fr F_Tape_readsEntry_4_1011 s) (g.wI rfl) fun s5 gs5 h => ?_
    exact gs5.tr ((fr_fTape_readsEntry_4_1011_h56 1048576 h))
theorem fr_fTape_readsEntry_4_1011_b35 {s : ev_M} {x2 : Int32} {q : ev_M × Int32} (h : fTape_readsEntry_4_1011_b35 s x2 = some q) : fr F_Tape_readsEntry_4_1011 s q.1 := by
  have g : fr F_Tape_readsEntry_4_1011 s s := fr.rf
  exact g.tr ((fr_fTape_readsEntry_4_1011_b36 h))
theorem fr_fTape_readsEntry_4_1011 {s : ev_M} {q : ev_M × Int32} (h : fTape_readsEntry_4_1011 s = some q) : fr F_Tape_readsEntry_4_1011 s q.1 := by
  have g : fr F_Tape_readsEntry_4_1011 s s := fr.rf
  refine fr_ltM h (Q := fr F_Tape_readsEntry_4_1011 s) (g.wI rfl) fun s6 gs6 h => ?_
  refine fr_bd1 h fun v7 hc h => ?_
  refine fr_if h (fun h => ?_) fun h => ?_
  · exact gs6.tr ((fr_fTape_readsEntry_4_1011_b35 h))
  · refine fr_if h (fun h => ?_) fun h => ?_
    · refine fr_bd1 h fun v8 hc h => ?_
      exact gs6.tr ((fr_fTape_readsEntry_4_1011_b36 h))
    · exact gs6.tr ((fr_fTape_readsEntry_4_1011_b35 h))
def F_Money_adds_4 : List (Nat × (Nat × Nat)) := [(78, 78, 14), (97, 97, 0), (98, 98, 0), (99, 99, 0)]
theorem fr_fMoney_adds_4_b102 {k64 : ev_M → Int32 → Int32 → Int32 → Option (ev_M × Int32)} (hk64 : ∀ {s : ev_M} {z1 : Int32} {z2 : Int32} {z3 : Int32} {q : ev_M × Int32} , k64 s z1 z2 z3 = some q → fr F_Money_adds_4 s q.1) {s : ev_M} {x3 : Int32} {x4 : Int32} {x5 : Int32} {q : ev_M × Int32} (h : fMoney_adds_4_b102 k64 s x3 x4 x5 = some q) : fr F_Money_adds_4 s q.1 := by
  have g : fr F_Money_adds_4 s s := fr.rf
  exact g.tr ((hk64 h))
theorem fr_fMoney_adds_4_h64 : ∀ (n : Nat) {s : ev_M} {x3 : Int32} {x4 : Int32} {x5 : Int32} {q : ev_M × Int32} , fMoney_adds_4_h64 n s x3 x4 x5 = some q → fr F_Money_adds_4 s q.1 := by
  intro n
  induction n with
  | zero => intro s x3 x4 x5 q h; cases h
  | succ n ih =>
    intro s x3 x4 x5 q h
    have g : fr F_Money_adds_4 s s := fr.rf
    refine fr_if h (fun h => ?_) fun h => ?_
    · refine fr_gd h fun c0 h => ?_
      refine fr_if h (fun h => ?_) fun h => ?_
      · refine fr_gd h fun c1 h => ?_
        refine fr_if h (fun h => ?_) fun h => ?_
        · exact g.tr ((fr_fMoney_adds_4_b102 ih h))
        · cases h; exact g
      · exact g.tr ((fr_fMoney_adds_4_b102 ih h))
    · refine fr_bd2 h fun s1 v2 hc h => ?_
      have gs1 : fr F_Money_adds_4 s s1 := g.tr ((fr_fMoney_addsRow hc).mono (F := F_Money_adds_4) (by decide +kernel))
      refine fr_if h (fun h => ?_) fun h => ?_
      · cases h; exact gs1
      · cases h
theorem fr_fMoney_adds_4 {s : ev_M} {a1 : Int32} {q : ev_M × Int32} (h : fMoney_adds_4 s a1 = some q) : fr F_Money_adds_4 s q.1 := by
  have g : fr F_Money_adds_4 s s := fr.rf
  refine fr_if h (fun h => ?_) fun h => ?_
  · refine fr_bd2 h fun s3 v4 hc h => ?_
    have gs3 : fr F_Money_adds_4 s s3 := g.tr ((fr_fMoney_addsService hc).mono (F := F_Money_adds_4) (by decide +kernel))
    refine fr_if h (fun h => ?_) fun h => ?_
    · cases h; exact gs3
    · cases h
  · refine fr_ltI h fun v5 h => ?_
    refine fr_ltI h fun v6 h => ?_
    refine fr_bd1 h fun v7 hc h => ?_
    refine fr_if h (fun h => ?_) fun h => ?_
    · refine fr_bd1 h fun v8 hc h => ?_
      refine fr_if h (fun h => ?_) fun h => ?_
      · exact g.tr ((fr_fMoney_adds_4_h64 1048576 h))
      · cases h; exact g
    · cases h; exact g
def F_Money_readTariff_4 : List (Nat × (Nat × Nat)) := [(4, 4, 3), (4, 4, 5), (4, 4, 6), (6, 6, 0), (9, 9, 7), (9, 9, 8), (9, 9, 14), (13, 13, 0), (78, 78, 12), (78, 78, 14), (93, 95, 0), (97, 97, 0), (98, 98, 0), (99, 99, 0)]
theorem fr_fMoney_readTariff_4_b78 {k14 : ev_M → Int32 → Int32 → Option (ev_M × Int32)} (hk14 : ∀ {s : ev_M} {z1 : Int32} {z2 : Int32} {q : ev_M × Int32} , k14 s z1 z2 = some q → fr F_Money_readTariff_4 s q.1) {s : ev_M} {x2 : Int32} {x3 : Int32} {q : ev_M × Int32} (h : fMoney_readTariff_4_b78 k14 s x2 x3 = some q) : fr F_Money_readTariff_4 s q.1 := by
  have g : fr F_Money_readTariff_4 s s := fr.rf
  exact g.tr ((hk14 h))
theorem fr_fMoney_readTariff_4_b37 {k14 : ev_M → Int32 → Int32 → Option (ev_M × Int32)} (hk14 : ∀ {s : ev_M} {z1 : Int32} {z2 : Int32} {q : ev_M × Int32} , k14 s z1 z2 = some q → fr F_Money_readTariff_4 s q.1) {s : ev_M} {x2 : Int32} {x3 : Int32} {q : ev_M × Int32} (h : fMoney_readTariff_4_b37 k14 s x2 x3 = some q) : fr F_Money_readTariff_4 s q.1 := by
  have g : fr F_Money_readTariff_4 s s := fr.rf
  refine fr_ltI h fun v1 h => ?_
  refine fr_bd2 h fun s2 v3 hc h => ?_
  have gs2 : fr F_Money_readTariff_4 s s2 := g.tr ((fr_fTape_readsEntry_4_1011 hc).mono (F := F_Money_readTariff_4) (by decide +kernel))
  refine fr_if h (fun h => ?_) fun h => ?_
  · refine fr_ltI h fun v4 h => ?_
    exact gs2.tr ((fr_fMoney_readTariff_4_b78 hk14 h))
  · refine fr_bd2 h fun s5 v6 hc h => ?_
    have gs5 : fr F_Money_readTariff_4 s s5 := gs2.tr ((fr_fMoney_adds_4 hc).mono (F := F_Money_readTariff_4) (by decide +kernel))
    refine fr_if h (fun h => ?_) fun h => ?_
    · exact gs5.tr ((fr_fMoney_readTariff_4_b78 hk14 h))
    · exact gs5.tr ((fr_fMoney_readTariff_4_b78 hk14 h))
theorem fr_fMoney_readTariff_4_h118 : ∀ (n : Nat) {s : ev_M} {x3 : Int32} {q : ev_M × Int32} , fMoney_readTariff_4_h118 n s x3 = some q → fr F_Money_readTariff_4 s q.1 := by
  intro n
  induction n with
  | zero => intro s x3 q h; cases h
  | succ n ih =>
    intro s x3 q h
    have g : fr F_Money_readTariff_4 s s := fr.rf
    refine fr_if h (fun h => ?_) fun h => ?_
    · refine fr_gd h fun c0 h => ?_
      refine fr_gd h fun c1 h => ?_
      refine fr_bd1 h fun s7 hc h => ?_
      have gs7 := g.tr (fr_acp (F := F_Money_readTariff_4) (fun _ => inF_row (lo := 93) (hi := 95) rfl (Nat.le_add_right _ _) (by have := (inb_lt c1); omega)) hc)
      exact gs7.tr ((ih h))
    · cases h; exact g
theorem fr_fMoney_readTariff_4_b84 {s : ev_M} {x2 : Int32} {q : ev_M × Int32} (h : fMoney_readTariff_4_b84 s x2 = some q) : fr F_Money_readTariff_4 s q.1 := by
  have g : fr F_Money_readTariff_4 s s := fr.rf
  refine fr_if h (fun h => ?_) fun h => ?_
  · refine fr_bd2 h fun s8 v9 hc h => ?_
    have gs8 : fr F_Money_readTariff_4 s s8 := g.tr ((fr_fLog_admits hc).mono (F := F_Money_readTariff_4) (by decide +kernel))
    refine fr_if h (fun h => ?_) fun h => ?_
    · cases h; exact gs8
    · refine fr_ltM h (Q := fr F_Money_readTariff_4 s) (gs8.wI rfl) fun s10 gs10 h => ?_
      exact gs10.tr ((fr_fMoney_readTariff_4_h118 1048576 h))
  · cases h; exact g
theorem fr_fMoney_readTariff_4_h14 : ∀ (n : Nat) {s : ev_M} {x2 : Int32} {x3 : Int32} {q : ev_M × Int32} , fMoney_readTariff_4_h14 n s x2 x3 = some q → fr F_Money_readTariff_4 s q.1 := by
  intro n
  induction n with
  | zero => intro s x2 x3 q h; cases h
  | succ n ih =>
    intro s x2 x3 q h
    have g : fr F_Money_readTariff_4 s s := fr.rf
    refine fr_if h (fun h => ?_) fun h => ?_
    · refine fr_if h (fun h => ?_) fun h => ?_
      · refine fr_if h (fun h => ?_) fun h => ?_
        · exact g.tr ((fr_fMoney_readTariff_4_b37 ih h))
        · refine fr_bd1 h fun v11 hc h => ?_
          refine fr_if h (fun h => ?_) fun h => ?_
          · exact g.tr ((fr_fMoney_readTariff_4_b84 h))
          · exact g.tr ((fr_fMoney_readTariff_4_b37 ih h))
      · exact g.tr ((fr_fMoney_readTariff_4_b84 h))
    · exact g.tr ((fr_fMoney_readTariff_4_b84 h))
theorem fr_fMoney_readTariff_4 {s : ev_M} {q : ev_M × Int32} (h : fMoney_readTariff_4 s = some q) : fr F_Money_readTariff_4 s q.1 := by
  have g : fr F_Money_readTariff_4 s s := fr.rf
  refine fr_ltM h (Q := fr F_Money_readTariff_4 s) (g.wI rfl) fun s12 gs12 h => ?_
  refine fr_ltM h (Q := fr F_Money_readTariff_4 s) (gs12.wI rfl) fun s13 gs13 h => ?_
  exact gs13.tr ((fr_fMoney_readTariff_4_h14 1048576 h))
def F_PH_act_4 : List (Nat × (Nat × Nat)) := [(4, 4, 3), (4, 4, 5), (4, 4, 6), (6, 6, 0), (9, 9, 7), (9, 9, 8), (9, 9, 14), (13, 13, 0), (15, 15, 2), (15, 15, 3), (15, 15, 8), (17, 17, 0), (18, 18, 0), (19, 19, 0), (20, 20, 0), (21, 21, 0), (22, 22, 0), (24, 24, 0), (25, 25, 0), (26, 26, 0), (27, 27, 0), (28, 28, 0), (29, 29, 0), (30, 30, 3), (30, 30, 5), (30, 30, 8), (30, 30, 10), (30, 30, 12), (30, 30, 15), (30, 30, 16), (31, 31, 0), (33, 33, 0), (34, 34, 0), (35, 35, 0), (36, 36, 0), (37, 37, 0), (39, 39, 0), (40, 40, 0), (41, 41, 0), (42, 42, 0), (44, 44, 0), (45, 45, 0), (47, 47, 0), (48, 48, 0), (49, 49, 0), (50, 50, 0), (51, 51, 0), (52, 52, 3), (52, 52, 4), (52, 52, 5), (52, 52, 6), (52, 52, 9), (52, 52, 10), (52, 52, 14), (53, 53, 0), (54, 54, 0), (56, 56, 0), (57, 57, 0), (58, 58, 0), (59, 59, 0), (60, 60, 0), (61, 61, 0), (63, 63, 0), (64, 64, 0), (65, 65, 0), (66, 66, 0), (68, 75, 0), (72, 72, 0), (73, 73, 0), (74, 74, 0), (76, 76, 0), (77, 77, 0), (78, 78, 4), (78, 78, 7), (78, 78, 9), (78, 78, 10), (78, 78, 12), (78, 78, 14), (79, 79, 0), (80, 80, 0), (82, 82, 0), (83, 83, 0), (84, 84, 0), (85, 85, 0), (87, 87, 0), (88, 88, 0), (89, 89, 0), (90, 90, 0), (91, 91, 0), (93, 95, 0), (97, 97, 0), (98, 98, 0), (99, 99, 0), (100, 100, 6), (100, 100, 7), (102, 102, 0), (102, 123, 0), (103, 103, 0), (104, 104, 0), (105, 105, 0), (106, 106, 0), (107, 107, 0), (108, 108, 0), (109, 109, 0), (110, 110, 0), (111, 111, 0), (112, 112, 0), (113, 113, 0), (115, 115, 0), (116, 116, 0), (117, 117, 0), (119, 119, 0), (120, 120, 0), (121, 121, 0), (125, 125, 4), (126, 126, 0), (127, 127, 0), (128, 128, 0), (130, 137, 0), (138, 138, 4), (138, 138, 10), (138, 138, 11), (138, 138, 13), (140, 140, 0), (141, 141, 0), (142, 142, 0), (143, 143, 0), (144, 144, 0), (146, 157, 0), (158, 158, 0), (160, 171, 0), (172, 172, 0), (173, 173, 0), (174, 174, 0), (175, 175, 0), (177, 177, 0), (177, 179, 0), (178, 178, 0), (179, 179, 0), (180, 180, 0), (181, 181, 0), (183, 191, 0), (193, 448, 0), (449, 449, 5), (449, 449, 7), (451, 451, 0), (452, 452, 0), (453, 453, 0), (454, 454, 0), (455, 455, 0), (456, 456, 0), (457, 457, 0), (459, 459, 0), (460, 460, 0), (461, 461, 0), (462, 462, 0), (463, 463, 0), (464, 464, 0), (466, 545, 0), (546, 546, 0), (547, 547, 0), (548, 548, 0)]
theorem fr_fPH_act_4_b677 {s : ev_M} {y1 : Int32} {y2 : Int32} {y3 : Int32} {q : ev_M × Int32} (h : fPH_act_4_b677 s y1 y2 y3 = some q) : fr F_PH_act_4 s q.1 := by
  have g : fr F_PH_act_4 s s := fr.rf
  refine fr_bd2 h fun s1 v2 hc h => ?_
  have gs1 : fr F_PH_act_4 s s1 := g.tr ((fr_fChron_setWish hc).mono (F := F_PH_act_4) (by decide +kernel))
  cases h; exact gs1
theorem fr_fPH_act_4 {s : ev_M} {q : ev_M × Int32} (h : fPH_act_4 s = some q) : fr F_PH_act_4 s q.1 := by
  have g : fr F_PH_act_4 s s := fr.rf
  refine fr_ltI h fun v3 h => ?_
  refine fr_ltI h fun v4 h => ?_
  refine fr_ltI h fun v5 h => ?_
  refine fr_ltI h fun v6 h => ?_
  refine fr_ltI h fun v7 h => ?_
  refine fr_ltI h fun v8 h => ?_
  refine fr_if h (fun h => ?_) fun h => ?_
  · refine fr_bd2 h fun s9 v10 hc h => ?_
    have gs9 : fr F_PH_act_4 s s9 := g.tr ((fr_fBook_readText_4 hc).mono (F := F_PH_act_4) (by decide +kernel))
    cases h; exact gs9
  · refine fr_if h (fun h => ?_) fun h => ?_
    · refine fr_bd2 h fun s11 v12 hc h => ?_
      have gs11 : fr F_PH_act_4 s s11 := g.tr ((fr_fBook_tellForwarding hc).mono (F := F_PH_act_4) (by decide +kernel))
      cases h; exact gs11
    · refine fr_if h (fun h => ?_) fun h => ?_
      · refine fr_bd2 h fun s13 v14 hc h => ?_
        have gs13 : fr F_PH_act_4 s s13 := g.tr ((fr_fBook_tellHold hc).mono (F := F_PH_act_4) (by decide +kernel))
        cases h; exact gs13
      · refine fr_if h (fun h => ?_) fun h => ?_
        · refine fr_bd2 h fun s15 v16 hc h => ?_
          have gs15 : fr F_PH_act_4 s s15 := g.tr ((fr_fSheet_show_4 hc).mono (F := F_PH_act_4) (by decide +kernel))
          cases h; exact gs15
        · refine fr_if h (fun h => ?_) fun h => ?_
          · refine fr_bd2 h fun s17 v18 hc h => ?_
            have gs17 : fr F_PH_act_4 s s17 := g.tr ((fr_fItems_tell hc).mono (F := F_PH_act_4) (by decide +kernel))
            cases h; exact gs17
          · refine fr_if h (fun h => ?_) fun h => ?_
            · refine fr_bd2 h fun s19 v20 hc h => ?_
              have gs19 : fr F_PH_act_4 s s19 := g.tr ((fr_fItems_setAddress hc).mono (F := F_PH_act_4) (by decide +kernel))
              cases h; exact gs19
            · refine fr_if h (fun h => ?_) fun h => ?_
              · refine fr_bd2 h fun s21 v22 hc h => ?_
                have gs21 : fr F_PH_act_4 s s21 := g.tr ((fr_fItems_takeReading hc).mono (F := F_PH_act_4) (by decide +kernel))
                cases h; exact gs21
              · refine fr_if h (fun h => ?_) fun h => ?_
                · refine fr_bd2 h fun s23 v24 hc h => ?_
                  have gs23 : fr F_PH_act_4 s s23 := g.tr ((fr_fItems_hearClerk hc).mono (F := F_PH_act_4) (by decide +kernel))
                  cases h; exact gs23
                · refine fr_if h (fun h => ?_) fun h => ?_
                  · refine fr_bd2 h fun s25 v26 hc h => ?_
                    have gs25 : fr F_PH_act_4 s s25 := g.tr ((fr_fItems_postAt hc).mono (F := F_PH_act_4) (by decide +kernel))
                    cases h; exact gs25
                  · refine fr_if h (fun h => ?_) fun h => ?_
                    · refine fr_bd2 h fun s27 v28 hc h => ?_
                      have gs27 : fr F_PH_act_4 s s27 := g.tr ((fr_fRounds_setMachine hc).mono (F := F_PH_act_4) (by decide +kernel))
                      cases h; exact gs27
                    · refine fr_if h (fun h => ?_) fun h => ?_
                      · refine fr_bd2 h fun s29 v30 hc h => ?_
                        have gs29 : fr F_PH_act_4 s s29 := g.tr ((fr_fRounds_make hc).mono (F := F_PH_act_4) (by decide +kernel))
                        cases h; exact gs29
                      · refine fr_if h (fun h => ?_) fun h => ?_
                        · refine fr_bd2 h fun s31 v32 hc h => ?_
                          have gs31 : fr F_PH_act_4 s s31 := g.tr ((fr_fRounds_addStop hc).mono (F := F_PH_act_4) (by decide +kernel))
                          cases h; exact gs31
                        · refine fr_if h (fun h => ?_) fun h => ?_
                          · refine fr_bd2 h fun s33 v34 hc h => ?_
                            have gs33 : fr F_PH_act_4 s s33 := g.tr ((fr_fRounds_arrangeStops hc).mono (F := F_PH_act_4) (by decide +kernel))
                            cases h; exact gs33
                          · refine fr_if h (fun h => ?_) fun h => ?_
                            · refine fr_bd2 h fun s35 v36 hc h => ?_
                              have gs35 : fr F_PH_act_4 s s35 := g.tr ((fr_fRounds_sortItems hc).mono (F := F_PH_act_4) (by decide +kernel))
                              cases h; exact gs35
                            · refine fr_if h (fun h => ?_) fun h => ?_
                              · refine fr_bd2 h fun s37 v38 hc h => ?_
                                have gs37 : fr F_PH_act_4 s s37 := g.tr ((fr_fRounds_sendOut hc).mono (F := F_PH_act_4) (by decide +kernel))
                                cases h; exact gs37
                              · refine fr_if h (fun h => ?_) fun h => ?_
                                · refine fr_bd2 h fun s39 v40 hc h => ?_
                                  have gs39 : fr F_PH_act_4 s s39 := g.tr ((fr_fLines_make hc).mono (F := F_PH_act_4) (by decide +kernel))
                                  cases h; exact gs39
                                · refine fr_if h (fun h => ?_) fun h => ?_
                                  · refine fr_bd2 h fun s41 v42 hc h => ?_
                                    have gs41 : fr F_PH_act_4 s s41 := g.tr ((fr_fLines_delay hc).mono (F := F_PH_act_4) (by decide +kernel))
                                    cases h; exact gs41
                                  · refine fr_if h (fun h => ?_) fun h => ?_
                                    · refine fr_bd2 h fun s43 v44 hc h => ?_
                                      have gs43 : fr F_PH_act_4 s s43 := g.tr ((fr_fLines_makeBag hc).mono (F := F_PH_act_4) (by decide +kernel))
                                      cases h; exact gs43
                                    · refine fr_if h (fun h => ?_) fun h => ?_
                                      · refine fr_bd2 h fun s45 v46 hc h => ?_
                                        have gs45 : fr F_PH_act_4 s s45 := g.tr ((fr_fLines_fillBag hc).mono (F := F_PH_act_4) (by decide +kernel))
                                        cases h; exact gs45
                                      · refine fr_if h (fun h => ?_) fun h => ?_
                                        · refine fr_bd2 h fun s47 v48 hc h => ?_
                                          have gs47 : fr F_PH_act_4 s s47 := g.tr ((fr_fLines_shutBag hc).mono (F := F_PH_act_4) (by decide +kernel))
                                          cases h; exact gs47
                                        · refine fr_if h (fun h => ?_) fun h => ?_
                                          · refine fr_bd2 h fun s49 v50 hc h => ?_
                                            have gs49 : fr F_PH_act_4 s s49 := g.tr ((fr_fLines_emptyBag hc).mono (F := F_PH_act_4) (by decide +kernel))
                                            cases h; exact gs49
                                          · refine fr_if h (fun h => ?_) fun h => ?_
                                            · refine fr_bd2 h fun s51 v52 hc h => ?_
                                              have gs51 : fr F_PH_act_4 s s51 := g.tr ((fr_fItems_handAtDoor hc).mono (F := F_PH_act_4) (by decide +kernel))
                                              cases h; exact gs51
                                            · refine fr_if h (fun h => ?_) fun h => ?_
                                              · refine fr_bd2 h fun s53 v54 hc h => ?_
                                                have gs53 : fr F_PH_act_4 s s53 := g.tr ((fr_fItems_missAtDoor hc).mono (F := F_PH_act_4) (by decide +kernel))
                                                cases h; exact gs53
                                              · refine fr_if h (fun h => ?_) fun h => ?_
                                                · refine fr_bd2 h fun s55 v56 hc h => ?_
                                                  have gs55 : fr F_PH_act_4 s s55 := g.tr ((fr_fItems_refuseItem hc).mono (F := F_PH_act_4) (by decide +kernel))
                                                  cases h; exact gs55
                                                · refine fr_if h (fun h => ?_) fun h => ?_
                                                  · refine fr_bd2 h fun s57 v58 hc h => ?_
                                                    have gs57 : fr F_PH_act_4 s s57 := g.tr ((fr_fLock_fill hc).mono (F := F_PH_act_4) (by decide +kernel))
                                                    cases h; exact gs57
                                                  · refine fr_if h (fun h => ?_) fun h => ?_
                                                    · refine fr_bd2 h fun s59 v60 hc h => ?_
                                                      have gs59 : fr F_PH_act_4 s s59 := g.tr ((fr_fItems_handAtPost hc).mono (F := F_PH_act_4) (by decide +kernel))
                                                      cases h; exact gs59
                                                    · refine fr_if h (fun h => ?_) fun h => ?_
                                                      · refine fr_bd2 h fun s61 v62 hc h => ?_
                                                        have gs61 : fr F_PH_act_4 s s61 := g.tr ((fr_fLock_tryKey hc).mono (F := F_PH_act_4) (by decide +kernel))
                                                        cases h; exact gs61
                                                      · refine fr_if h (fun h => ?_) fun h => ?_
                                                        · refine fr_bd2 h fun s63 v64 hc h => ?_
                                                          have gs63 : fr F_PH_act_4 s s63 := g.tr ((fr_fPH_loseItem hc).mono (F := F_PH_act_4) (by decide +kernel))
                                                          cases h; exact gs63
                                                        · refine fr_if h (fun h => ?_) fun h => ?_
                                                          · refine fr_bd2 h fun s65 v66 hc h => ?_
                                                            have gs65 : fr F_PH_act_4 s s65 := g.tr ((fr_fMoney_openAccount hc).mono (F := F_PH_act_4) (by decide +kernel))
                                                            cases h; exact gs65
                                                          · refine fr_if h (fun h => ?_) fun h => ?_
                                                            · refine fr_bd2 h fun s67 v68 hc h => ?_
                                                              have gs67 : fr F_PH_act_4 s s67 := g.tr ((fr_fMoney_payIn hc).mono (F := F_PH_act_4) (by decide +kernel))
                                                              cases h; exact gs67
                                                            · refine fr_if h (fun h => ?_) fun h => ?_
                                                              · refine fr_bd2 h fun s69 v70 hc h => ?_
                                                                have gs69 : fr F_PH_act_4 s s69 := g.tr ((fr_fMoney_readTariff_4 hc).mono (F := F_PH_act_4) (by decide +kernel))
                                                                cases h; exact gs69
                                                              · refine fr_if h (fun h => ?_) fun h => ?_
                                                                · refine fr_bd2 h fun s71 v72 hc h => ?_
                                                                  have gs71 : fr F_PH_act_4 s s71 := g.tr ((fr_fItems_frankItem hc).mono (F := F_PH_act_4) (by decide +kernel))
                                                                  cases h; exact gs71
                                                                · refine fr_if h (fun h => ?_) fun h => ?_
                                                                  · refine fr_bd2 h fun s73 v74 hc h => ?_
                                                                    have gs73 : fr F_PH_act_4 s s73 := g.tr ((fr_fMoney_makeOrder hc).mono (F := F_PH_act_4) (by decide +kernel))
                                                                    cases h; exact gs73
                                                                  · refine fr_if h (fun h => ?_) fun h => ?_
                                                                    · refine fr_bd2 h fun s75 v76 hc h => ?_
                                                                      have gs75 : fr F_PH_act_4 s s75 := g.tr ((fr_fMoney_payOrder hc).mono (F := F_PH_act_4) (by decide +kernel))
                                                                      cases h; exact gs75
                                                                    · refine fr_if h (fun h => ?_) fun h => ?_
                                                                      · refine fr_bd2 h fun s77 v78 hc h => ?_
                                                                        have gs77 : fr F_PH_act_4 s s77 := g.tr ((fr_fItems_claimFor hc).mono (F := F_PH_act_4) (by decide +kernel))
                                                                        cases h; exact gs77
                                                                      · refine fr_if h (fun h => ?_) fun h => ?_
                                                                        · refine fr_bd2 h fun s79 v80 hc h => ?_
                                                                          have gs79 : fr F_PH_act_4 s s79 := g.tr ((fr_fLock_make hc).mono (F := F_PH_act_4) (by decide +kernel))
                                                                          cases h; exact gs79
                                                                        · refine fr_if h (fun h => ?_) fun h => ?_
                                                                          · refine fr_bd2 h fun s81 v82 hc h => ?_
                                                                            have gs81 : fr F_PH_act_4 s s81 := g.tr ((fr_fChron_setDevice hc).mono (F := F_PH_act_4) (by decide +kernel))
                                                                            cases h; exact gs81
                                                                          · refine fr_if h (fun h => ?_) fun h => ?_
                                                                            · refine fr_bd2 h fun s83 v84 hc h => ?_
                                                                              have gs83 : fr F_PH_act_4 s s83 := g.tr ((fr_fPH_scanItem hc).mono (F := F_PH_act_4) (by decide +kernel))
                                                                              cases h; exact gs83
                                                                            · refine fr_if h (fun h => ?_) fun h => ?_
                                                                              · refine fr_bd1 h fun v85 hc h => ?_
                                                                                refine fr_if h (fun h => ?_) fun h => ?_
                                                                                · cases h; exact g
                                                                                · refine fr_if h (fun h => ?_) fun h => ?_
                                                                                  · exact g.tr ((fr_fPH_act_4_b677 h))
                                                                                  · exact g.tr ((fr_fPH_act_4_b677 h))
                                                                              · refine fr_if h (fun h => ?_) fun h => ?_
                                                                                · refine fr_bd2 h fun s86 v87 hc h => ?_
                                                                                  have gs86 : fr F_PH_act_4 s s86 := g.tr ((fr_fPH_goOn hc).mono (F := F_PH_act_4) (by decide +kernel))
                                                                                  cases h; exact gs86
                                                                                · cases h; exact g
def F_Log_gather : List (Nat × (Nat × Nat)) := [(9, 9, 7), (13, 13, 0)]
theorem fr_fLog_gather_h9 : ∀ (n : Nat) {s : ev_M} {x1 : Int32} {x2 : Int32} {x3 : Int32} {q : ev_M} , fLog_gather_h9 n s x1 x2 x3 = some q → fr F_Log_gather s q := by
  intro n
  induction n with
  | zero => intro s x1 x2 x3 q h; cases h
  | succ n ih =>
    intro s x1 x2 x3 q h
    have g : fr F_Log_gather s s := fr.rf
    refine fr_if h (fun h => ?_) fun h => ?_
    · refine fr_bd1 h fun v1 hc h => ?_
      refine fr_bd1 h fun s2 hc h => ?_
      have gs2 := g.tr ((fr_fLog_append hc).mono (F := F_Log_gather) (by decide +kernel))
      exact gs2.tr ((ih h))
    · cases h; exact g
theorem fr_fLog_gather {s : ev_M} {a1 : Int32} {q : ev_M} (h : fLog_gather s a1 = some q) : fr F_Log_gather s q := by
  have g : fr F_Log_gather s s := fr.rf
  refine fr_bd1 h fun v3 hc h => ?_
  exact g.tr ((fr_fLog_gather_h9 1048576 h))
def F_Log_endAgain : List (Nat × (Nat × Nat)) := [(9, 9, 10), (9, 9, 13)]
theorem fr_fLog_endAgain {s : ev_M} {q : ev_M × Int32} (h : fLog_endAgain s = some q) : fr F_Log_endAgain s q.1 := by
  have g : fr F_Log_endAgain s s := fr.rf
  refine fr_ltM h (Q := fr F_Log_endAgain s) (g.wI rfl) fun s1 gs1 h => ?_
  refine fr_ltM h (Q := fr F_Log_endAgain s) (gs1.wI rfl) fun s2 gs2 h => ?_
  cases h; exact gs2
def F_Arr_fillI_20 : List (Nat × (Nat × Nat)) := [(20, 20, 0)]
theorem fr_fArr_fillI_20_h5 : ∀ (n : Nat) {s : ev_M} {x1 : Int32} {x2 : Int32} {x3 : Int32} {q : ev_M} , fArr_fillI_20_h5 n s x1 x2 x3 = some q → fr F_Arr_fillI_20 s q := by
  intro n
  induction n with
  | zero => intro s x1 x2 x3 q h; cases h
  | succ n ih =>
    intro s x1 x2 x3 q h
    have g : fr F_Arr_fillI_20 s s := fr.rf
    refine fr_if h (fun h => ?_) fun h => ?_
    · refine fr_gd h fun c0 h => ?_
      refine fr_ltM h (Q := fr F_Arr_fillI_20 s) (g.wI rfl) fun s1 gs1 h => ?_
      exact gs1.tr ((ih h))
    · cases h; exact g
theorem fr_fArr_fillI_20 {s : ev_M} {a1 : Int32} {q : ev_M} (h : fArr_fillI_20 s a1 = some q) : fr F_Arr_fillI_20 s q := by
  have g : fr F_Arr_fillI_20 s s := fr.rf
  exact g.tr ((fr_fArr_fillI_20_h5 1048576 h))
def F_Arr_fillI_21 : List (Nat × (Nat × Nat)) := [(21, 21, 0)]
theorem fr_fArr_fillI_21_h5 : ∀ (n : Nat) {s : ev_M} {x1 : Int32} {x2 : Int32} {x3 : Int32} {q : ev_M} , fArr_fillI_21_h5 n s x1 x2 x3 = some q → fr F_Arr_fillI_21 s q := by
  intro n
  induction n with
  | zero => intro s x1 x2 x3 q h; cases h
  | succ n ih =>
    intro s x1 x2 x3 q h
    have g : fr F_Arr_fillI_21 s s := fr.rf
    refine fr_if h (fun h => ?_) fun h => ?_
    · refine fr_gd h fun c0 h => ?_
      refine fr_ltM h (Q := fr F_Arr_fillI_21 s) (g.wI rfl) fun s1 gs1 h => ?_
      exact gs1.tr ((ih h))
    · cases h; exact g
theorem fr_fArr_fillI_21 {s : ev_M} {a1 : Int32} {q : ev_M} (h : fArr_fillI_21 s a1 = some q) : fr F_Arr_fillI_21 s q := by
  have g : fr F_Arr_fillI_21 s s := fr.rf
  exact g.tr ((fr_fArr_fillI_21_h5 1048576 h))
def F_Arr_fillI_28 : List (Nat × (Nat × Nat)) := [(28, 28, 0)]
theorem fr_fArr_fillI_28_h5 : ∀ (n : Nat) {s : ev_M} {x1 : Int32} {x2 : Int32} {x3 : Int32} {q : ev_M} , fArr_fillI_28_h5 n s x1 x2 x3 = some q → fr F_Arr_fillI_28 s q := by
  intro n
  induction n with
  | zero => intro s x1 x2 x3 q h; cases h
  | succ n ih =>
    intro s x1 x2 x3 q h
    have g : fr F_Arr_fillI_28 s s := fr.rf
    refine fr_if h (fun h => ?_) fun h => ?_
    · refine fr_gd h fun c0 h => ?_
      refine fr_ltM h (Q := fr F_Arr_fillI_28 s) (g.wI rfl) fun s1 gs1 h => ?_
      exact gs1.tr ((ih h))
    · cases h; exact g
theorem fr_fArr_fillI_28 {s : ev_M} {a1 : Int32} {q : ev_M} (h : fArr_fillI_28 s a1 = some q) : fr F_Arr_fillI_28 s q := by
  have g : fr F_Arr_fillI_28 s s := fr.rf
  exact g.tr ((fr_fArr_fillI_28_h5 1048576 h))
def F_Arr_fillI_29 : List (Nat × (Nat × Nat)) := [(29, 29, 0)]
theorem fr_fArr_fillI_29_h5 : ∀ (n : Nat) {s : ev_M} {x1 : Int32} {x2 : Int32} {x3 : Int32} {q : ev_M} , fArr_fillI_29_h5 n s x1 x2 x3 = some q → fr F_Arr_fillI_29 s q := by
  intro n
  induction n with
  | zero => intro s x1 x2 x3 q h; cases h
  | succ n ih =>
    intro s x1 x2 x3 q h
    have g : fr F_Arr_fillI_29 s s := fr.rf
    refine fr_if h (fun h => ?_) fun h => ?_
    · refine fr_gd h fun c0 h => ?_
      refine fr_ltM h (Q := fr F_Arr_fillI_29 s) (g.wI rfl) fun s1 gs1 h => ?_
      exact gs1.tr ((ih h))
    · cases h; exact g
theorem fr_fArr_fillI_29 {s : ev_M} {a1 : Int32} {q : ev_M} (h : fArr_fillI_29 s a1 = some q) : fr F_Arr_fillI_29 s q := by
  have g : fr F_Arr_fillI_29 s s := fr.rf
  exact g.tr ((fr_fArr_fillI_29_h5 1048576 h))
def F_Chron_clear : List (Nat × (Nat × Nat)) := [(15, 15, 2), (15, 15, 3), (15, 15, 8), (20, 20, 0), (21, 21, 0), (28, 28, 0), (29, 29, 0)]
theorem fr_fChron_clear {s : ev_M} {q : ev_M} (h : fChron_clear s = some q) : fr F_Chron_clear s q := by
  have g : fr F_Chron_clear s s := fr.rf
  refine fr_ltM h (Q := fr F_Chron_clear s) (g.wI rfl) fun s1 gs1 h => ?_
  refine fr_ltM h (Q := fr F_Chron_clear s) (gs1.wI rfl) fun s2 gs2 h => ?_
  refine fr_ltM h (Q := fr F_Chron_clear s) (gs2.wI rfl) fun s3 gs3 h => ?_
  refine fr_bd1 h fun s4 hc h => ?_
  have gs4 := gs3.tr ((fr_fArr_fillI_20 hc).mono (F := F_Chron_clear) (by decide +kernel))
  refine fr_bd1 h fun s5 hc h => ?_
  have gs5 := gs4.tr ((fr_fArr_fillI_21 hc).mono (F := F_Chron_clear) (by decide +kernel))
  refine fr_bd1 h fun s6 hc h => ?_
  have gs6 := gs5.tr ((fr_fArr_fillI_28 hc).mono (F := F_Chron_clear) (by decide +kernel))
  refine fr_bd1 h fun s7 hc h => ?_
  have gs7 := gs6.tr ((fr_fArr_fillI_29 hc).mono (F := F_Chron_clear) (by decide +kernel))
  cases h; exact gs7
def F_Book_clear : List (Nat × (Nat × Nat)) := [(30, 30, 3), (30, 30, 5), (30, 30, 8), (30, 30, 10), (30, 30, 12)]
theorem fr_fBook_clear {s : ev_M} {q : ev_M} (h : fBook_clear s = some q) : fr F_Book_clear s q := by
  have g : fr F_Book_clear s s := fr.rf
  refine fr_bd1 h fun s1 hc h => ?_
  have gs1 := g.tr ((fr_fBook_keepFirst hc).mono (F := F_Book_clear) (by decide +kernel))
  refine fr_ltM h (Q := fr F_Book_clear s) (gs1.wI rfl) fun s2 gs2 h => ?_
  cases h; exact gs2
def F_Sheet_clear : List (Nat × (Nat × Nat)) := [(52, 52, 3), (52, 52, 4), (52, 52, 14)]
theorem fr_fSheet_clear {s : ev_M} {q : ev_M} (h : fSheet_clear s = some q) : fr F_Sheet_clear s q := by
  have g : fr F_Sheet_clear s s := fr.rf
  refine fr_ltM h (Q := fr F_Sheet_clear s) (g.wI rfl) fun s1 gs1 h => ?_
  refine fr_ltM h (Q := fr F_Sheet_clear s) (gs1.wI rfl) fun s2 gs2 h => ?_
  refine fr_ltM h (Q := fr F_Sheet_clear s) (gs2.wI rfl) fun s3 gs3 h => ?_
  cases h; exact gs3
def F_Arr_fillB_80 : List (Nat × (Nat × Nat)) := [(80, 80, 0)]
theorem fr_fArr_fillB_80_h6 : ∀ (n : Nat) {s : ev_M} {x1 : Int64} {x3 : Int32} {x4 : Int32} {q : ev_M} , fArr_fillB_80_h6 n s x1 x3 x4 = some q → fr F_Arr_fillB_80 s q := by
  intro n
  induction n with
  | zero => intro s x1 x3 x4 q h; cases h
  | succ n ih =>
    intro s x1 x3 x4 q h
    have g : fr F_Arr_fillB_80 s s := fr.rf
    refine fr_if h (fun h => ?_) fun h => ?_
    · refine fr_gd h fun c0 h => ?_
      refine fr_ltM h (Q := fr F_Arr_fillB_80 s) (g.wL rfl) fun s1 gs1 h => ?_
      exact gs1.tr ((ih h))
    · cases h; exact g
theorem fr_fArr_fillB_80 {s : ev_M} {a1 : Int64} {q : ev_M} (h : fArr_fillB_80 s a1 = some q) : fr F_Arr_fillB_80 s q := by
  have g : fr F_Arr_fillB_80 s s := fr.rf
  exact g.tr ((fr_fArr_fillB_80_h6 1048576 h))
def F_Money_clear : List (Nat × (Nat × Nat)) := [(78, 78, 4), (78, 78, 7), (78, 78, 9), (78, 78, 10), (78, 78, 12), (80, 80, 0)]
theorem fr_fMoney_clear {s : ev_M} {q : ev_M} (h : fMoney_clear s = some q) : fr F_Money_clear s q := by
  have g : fr F_Money_clear s s := fr.rf
  refine fr_ltM h (Q := fr F_Money_clear s) (g.wI rfl) fun s1 gs1 h => ?_
  refine fr_ltM h (Q := fr F_Money_clear s) (gs1.wI rfl) fun s2 gs2 h => ?_
  refine fr_ltM h (Q := fr F_Money_clear s) (gs2.wI rfl) fun s3 gs3 h => ?_
  refine fr_ltM h (Q := fr F_Money_clear s) (gs3.wI rfl) fun s4 gs4 h => ?_
  refine fr_ltM h (Q := fr F_Money_clear s) (gs4.wI rfl) fun s5 gs5 h => ?_
  refine fr_bd1 h fun s6 hc h => ?_
  have gs6 := gs5.tr ((fr_fArr_fillB_80 hc).mono (F := F_Money_clear) (by decide +kernel))
  cases h; exact gs6
def F_Items_clear : List (Nat × (Nat × Nat)) := [(100, 100, 6), (100, 100, 7)]
theorem fr_fItems_clear {s : ev_M} {q : ev_M} (h : fItems_clear s = some q) : fr F_Items_clear s q := by
  have g : fr F_Items_clear s s := fr.rf
  refine fr_ltM h (Q := fr F_Items_clear s) (g.wI rfl) fun s1 gs1 h => ?_
  refine fr_ltM h (Q := fr F_Items_clear s) (gs1.wI rfl) fun s2 gs2 h => ?_
  cases h; exact gs2
def F_Lock_clear : List (Nat × (Nat × Nat)) := [(125, 125, 4)]
theorem fr_fLock_clear {s : ev_M} {q : ev_M} (h : fLock_clear s = some q) : fr F_Lock_clear s q := by
  have g : fr F_Lock_clear s s := fr.rf
  refine fr_ltM h (Q := fr F_Lock_clear s) (g.wI rfl) fun s1 gs1 h => ?_
  cases h; exact gs1
def F_Arr_fillI_158 : List (Nat × (Nat × Nat)) := [(158, 158, 0)]
theorem fr_fArr_fillI_158_h5 : ∀ (n : Nat) {s : ev_M} {x1 : Int32} {x2 : Int32} {x3 : Int32} {q : ev_M} , fArr_fillI_158_h5 n s x1 x2 x3 = some q → fr F_Arr_fillI_158 s q := by
  intro n
  induction n with
  | zero => intro s x1 x2 x3 q h; cases h
  | succ n ih =>
    intro s x1 x2 x3 q h
    have g : fr F_Arr_fillI_158 s s := fr.rf
    refine fr_if h (fun h => ?_) fun h => ?_
    · refine fr_gd h fun c0 h => ?_
      refine fr_ltM h (Q := fr F_Arr_fillI_158 s) (g.wI rfl) fun s1 gs1 h => ?_
      exact gs1.tr ((ih h))
    · cases h; exact g
theorem fr_fArr_fillI_158 {s : ev_M} {a1 : Int32} {q : ev_M} (h : fArr_fillI_158 s a1 = some q) : fr F_Arr_fillI_158 s q := by
  have g : fr F_Arr_fillI_158 s s := fr.rf
  exact g.tr ((fr_fArr_fillI_158_h5 1048576 h))
def F_Rounds_clear : List (Nat × (Nat × Nat)) := [(138, 138, 4), (138, 138, 10), (138, 138, 11), (158, 158, 0), (172, 172, 0)]
theorem fr_fRounds_clear {s : ev_M} {q : ev_M} (h : fRounds_clear s = some q) : fr F_Rounds_clear s q := by
  have g : fr F_Rounds_clear s s := fr.rf
  refine fr_ltM h (Q := fr F_Rounds_clear s) (g.wI rfl) fun s1 gs1 h => ?_
  refine fr_ltM h (Q := fr F_Rounds_clear s) (gs1.wI rfl) fun s2 gs2 h => ?_
  refine fr_ltM h (Q := fr F_Rounds_clear s) (gs2.wI rfl) fun s3 gs3 h => ?_
  refine fr_bd1 h fun s4 hc h => ?_
  have gs4 := gs3.tr ((fr_fArr_fillI_158 hc).mono (F := F_Rounds_clear) (by decide +kernel))
  refine fr_ltM h (Q := fr F_Rounds_clear s) (gs4.wI rfl) fun s5 gs5 h => ?_
  refine fr_ltM h (Q := fr F_Rounds_clear s) (gs5.wI rfl) fun s6 gs6 h => ?_
  refine fr_ltM h (Q := fr F_Rounds_clear s) (gs6.wI rfl) fun s7 gs7 h => ?_
  refine fr_ltM h (Q := fr F_Rounds_clear s) (gs7.wI rfl) fun s8 gs8 h => ?_
  cases h; exact gs8
def F_Lines_clear : List (Nat × (Nat × Nat)) := [(449, 449, 5), (449, 449, 7)]
theorem fr_fLines_clear {s : ev_M} {q : ev_M} (h : fLines_clear s = some q) : fr F_Lines_clear s q := by
  have g : fr F_Lines_clear s s := fr.rf
  refine fr_ltM h (Q := fr F_Lines_clear s) (g.wI rfl) fun s1 gs1 h => ?_
  refine fr_ltM h (Q := fr F_Lines_clear s) (gs1.wI rfl) fun s2 gs2 h => ?_
  cases h; exact gs2
def F_PH_clearHouse : List (Nat × (Nat × Nat)) := [(15, 15, 2), (15, 15, 3), (15, 15, 8), (20, 20, 0), (21, 21, 0), (28, 28, 0), (29, 29, 0), (30, 30, 3), (30, 30, 5), (30, 30, 8), (30, 30, 10), (30, 30, 12), (52, 52, 3), (52, 52, 4), (52, 52, 14), (78, 78, 4), (78, 78, 7), (78, 78, 9), (78, 78, 10), (78, 78, 12), (80, 80, 0), (100, 100, 6), (100, 100, 7), (125, 125, 4), (138, 138, 4), (138, 138, 10), (138, 138, 11), (158, 158, 0), (172, 172, 0), (449, 449, 5), (449, 449, 7)]
theorem fr_fPH_clearHouse {s : ev_M} {q : ev_M} (h : fPH_clearHouse s = some q) : fr F_PH_clearHouse s q := by
  have g : fr F_PH_clearHouse s s := fr.rf
  refine fr_bd1 h fun s1 hc h => ?_
  have gs1 := g.tr ((fr_fChron_clear hc).mono (F := F_PH_clearHouse) (by decide +kernel))
  refine fr_bd1 h fun s2 hc h => ?_
  have gs2 := gs1.tr ((fr_fBook_clear hc).mono (F := F_PH_clearHouse) (by decide +kernel))
  refine fr_bd1 h fun s3 hc h => ?_
  have gs3 := gs2.tr ((fr_fSheet_clear hc).mono (F := F_PH_clearHouse) (by decide +kernel))
  refine fr_bd1 h fun s4 hc h => ?_
  have gs4 := gs3.tr ((fr_fMoney_clear hc).mono (F := F_PH_clearHouse) (by decide +kernel))
  refine fr_bd1 h fun s5 hc h => ?_
  have gs5 := gs4.tr ((fr_fItems_clear hc).mono (F := F_PH_clearHouse) (by decide +kernel))
  refine fr_bd1 h fun s6 hc h => ?_
  have gs6 := gs5.tr ((fr_fLock_clear hc).mono (F := F_PH_clearHouse) (by decide +kernel))
  refine fr_bd1 h fun s7 hc h => ?_
  have gs7 := gs6.tr ((fr_fRounds_clear hc).mono (F := F_PH_clearHouse) (by decide +kernel))
  refine fr_bd1 h fun s8 hc h => ?_
  have gs8 := gs7.tr ((fr_fLines_clear hc).mono (F := F_PH_clearHouse) (by decide +kernel))
  cases h; exact gs8
def F_Log_beginAgain : List (Nat × (Nat × Nat)) := [(9, 9, 5), (9, 9, 7), (9, 9, 8), (9, 9, 9), (9, 9, 11), (9, 9, 13), (9, 9, 14)]
theorem fr_fLog_beginAgain_b35 {k7 : ev_M → Int32 → Option ev_M} (hk7 : ∀ {s : ev_M} {z1 : Int32} {q : ev_M} , k7 s z1 = some q → fr F_Log_beginAgain s q) {s : ev_M} {x1 : Int32} {q : ev_M} (h : fLog_beginAgain_b35 k7 s x1 = some q) : fr F_Log_beginAgain s q := by
  have g : fr F_Log_beginAgain s s := fr.rf
  exact g.tr ((hk7 h))
theorem fr_fLog_beginAgain_b41 {s : ev_M} {q : ev_M} (h : fLog_beginAgain_b41 s = some q) : fr F_Log_beginAgain s q := by
  have g : fr F_Log_beginAgain s s := fr.rf
  refine fr_ltM h (Q := fr F_Log_beginAgain s) (g.wI rfl) fun s1 gs1 h => ?_
  refine fr_ltM h (Q := fr F_Log_beginAgain s) (gs1.wI rfl) fun s2 gs2 h => ?_
  refine fr_ltM h (Q := fr F_Log_beginAgain s) (gs2.wI rfl) fun s3 gs3 h => ?_
  refine fr_bd1 h fun s4 hc h => ?_
  have gs4 := gs3.tr ((fr_fLog_forgetGathered hc).mono (F := F_Log_beginAgain) (by decide +kernel))
  cases h; exact gs4
theorem fr_fLog_beginAgain_h7 : ∀ (n : Nat) {s : ev_M} {x1 : Int32} {q : ev_M} , fLog_beginAgain_h7 n s x1 = some q → fr F_Log_beginAgain s q := by
  intro n
  induction n with
  | zero => intro s x1 q h; cases h
  | succ n ih =>
    intro s x1 q h
    have g : fr F_Log_beginAgain s s := fr.rf
    refine fr_if h (fun h => ?_) fun h => ?_
    · refine fr_bd1 h fun v5 hc h => ?_
      refine fr_if h (fun h => ?_) fun h => ?_
      · exact g.tr ((fr_fLog_beginAgain_b41 h))
      · refine fr_bd1 h fun v6 hc h => ?_
        refine fr_if h (fun h => ?_) fun h => ?_
        · exact g.tr ((fr_fLog_beginAgain_b35 ih h))
        · refine fr_ltM h (Q := fr F_Log_beginAgain s) (g.wI rfl) fun s7 gs7 h => ?_
          exact gs7.tr ((fr_fLog_beginAgain_b35 ih h))
    · exact g.tr ((fr_fLog_beginAgain_b41 h))
theorem fr_fLog_beginAgain {s : ev_M} {q : ev_M} (h : fLog_beginAgain s = some q) : fr F_Log_beginAgain s q := by
  have g : fr F_Log_beginAgain s s := fr.rf
  refine fr_ltM h (Q := fr F_Log_beginAgain s) (g.wI rfl) fun s8 gs8 h => ?_
  exact gs8.tr ((fr_fLog_beginAgain_h7 1048576 h))
def F_PH_start : List (Nat × (Nat × Nat)) := [(4, 4, 2), (4, 4, 3), (4, 4, 5), (4, 4, 6), (5, 5, 0), (6, 6, 0), (9, 9, 5), (9, 9, 7), (9, 9, 8), (9, 9, 9), (9, 9, 10), (9, 9, 11), (9, 9, 13), (9, 9, 14), (9, 9, 15), (13, 13, 0), (14, 14, 0), (15, 15, 2), (15, 15, 3), (15, 15, 8), (17, 17, 0), (18, 18, 0), (19, 19, 0), (20, 20, 0), (21, 21, 0), (22, 22, 0), (24, 24, 0), (25, 25, 0), (26, 26, 0), (27, 27, 0), (28, 28, 0), (29, 29, 0), (30, 30, 3), (30, 30, 5), (30, 30, 8), (30, 30, 10), (30, 30, 12), (30, 30, 15), (30, 30, 16), (31, 31, 0), (33, 33, 0), (34, 34, 0), (35, 35, 0), (36, 36, 0), (37, 37, 0), (39, 39, 0), (40, 40, 0), (41, 41, 0), (42, 42, 0), (44, 44, 0), (45, 45, 0), (47, 47, 0), (48, 48, 0), (49, 49, 0), (50, 50, 0), (51, 51, 0), (52, 52, 3), (52, 52, 4), (52, 52, 5), (52, 52, 6), (52, 52, 9), (52, 52, 10), (52, 52, 14), (53, 53, 0), (54, 54, 0), (56, 56, 0), (57, 57, 0), (58, 58, 0), (59, 59, 0), (60, 60, 0), (61, 61, 0), (63, 63, 0), (64, 64, 0), (65, 65, 0), (66, 66, 0), (68, 75, 0), (72, 72, 0), (73, 73, 0), (74, 74, 0), (76, 76, 0), (77, 77, 0), (78, 78, 4), (78, 78, 7), (78, 78, 9), (78, 78, 10), (78, 78, 12), (78, 78, 14), (79, 79, 0), (80, 80, 0), (82, 82, 0), (83, 83, 0), (84, 84, 0), (85, 85, 0), (87, 87, 0), (88, 88, 0), (89, 89, 0), (90, 90, 0), (91, 91, 0), (93, 95, 0), (97, 97, 0), (98, 98, 0), (99, 99, 0), (100, 100, 6), (100, 100, 7), (102, 102, 0), (102, 123, 0), (103, 103, 0), (104, 104, 0), (105, 105, 0), (106, 106, 0), (107, 107, 0), (108, 108, 0), (109, 109, 0), (110, 110, 0), (111, 111, 0), (112, 112, 0), (113, 113, 0), (115, 115, 0), (116, 116, 0), (117, 117, 0), (119, 119, 0), (120, 120, 0), (121, 121, 0), (125, 125, 4), (126, 126, 0), (127, 127, 0), (128, 128, 0), (130, 137, 0), (138, 138, 4), (138, 138, 10), (138, 138, 11), (138, 138, 13), (140, 140, 0), (141, 141, 0), (142, 142, 0), (143, 143, 0), (144, 144, 0), (146, 157, 0), (158, 158, 0), (160, 171, 0), (172, 172, 0), (173, 173, 0), (174, 174, 0), (175, 175, 0), (177, 177, 0), (177, 179, 0), (178, 178, 0), (179, 179, 0), (180, 180, 0), (181, 181, 0), (183, 191, 0), (193, 448, 0), (449, 449, 5), (449, 449, 7), (451, 451, 0), (452, 452, 0), (453, 453, 0), (454, 454, 0), (455, 455, 0), (456, 456, 0), (457, 457, 0), (459, 459, 0), (460, 460, 0), (461, 461, 0), (462, 462, 0), (463, 463, 0), (464, 464, 0), (466, 545, 0), (546, 546, 0), (547, 547, 0), (548, 548, 0)]
theorem fr_fPH_start_b100 {k26 : ev_M → Int32 → Option (ev_M × Int32)} (hk26 : ∀ {s : ev_M} {z1 : Int32} {q : ev_M × Int32} , k26 s z1 = some q → fr F_PH_start s q.1) {s : ev_M} {x1 : Int32} {q : ev_M × Int32} (h : fPH_start_b100 k26 s x1 = some q) : fr F_PH_start s q.1 := by
  have g : fr F_PH_start s s := fr.rf
  exact g.tr ((hk26 h))
theorem fr_fPH_start_b93 {k26 : ev_M → Int32 → Option (ev_M × Int32)} (hk26 : ∀ {s : ev_M} {z1 : Int32} {q : ev_M × Int32} , k26 s z1 = some q → fr F_PH_start s q.1) {s : ev_M} {x1 : Int32} {q : ev_M × Int32} (h : fPH_start_b93 k26 s x1 = some q) : fr F_PH_start s q.1 := by
  have g : fr F_PH_start s s := fr.rf
  refine fr_bd1 h fun s1 hc h => ?_
  have gs1 := g.tr ((fr_fLog_forgetGathered hc).mono (F := F_PH_start) (by decide +kernel))
  exact gs1.tr ((fr_fPH_start_b100 hk26 h))
theorem fr_fPH_start_h58 {k26 : ev_M → Int32 → Option (ev_M × Int32)} (hk26 : ∀ {s : ev_M} {z1 : Int32} {q : ev_M × Int32} , k26 s z1 = some q → fr F_PH_start s q.1) : ∀ (n : Nat) {s : ev_M} {x1 : Int32} {x2 : Int32} {q : ev_M × Int32} , fPH_start_h58 k26 n s x1 x2 = some q → fr F_PH_start s q.1 := by
  intro n
  induction n with
  | zero => intro s x1 x2 q h; cases h
  | succ n ih =>
    intro s x1 x2 q h
    have g : fr F_PH_start s s := fr.rf
    refine fr_if h (fun h => ?_) fun h => ?_
    · refine fr_bd2 h fun s2 v3 hc h => ?_
      have gs2 : fr F_PH_start s s2 := g.tr ((fr_fLog_readsRecord_4 hc).mono (F := F_PH_start) (by decide +kernel))
      refine fr_if h (fun h => ?_) fun h => ?_
      · exact gs2.tr ((fr_fPH_start_b93 hk26 h))
      · refine fr_bd2 h fun s4 v5 hc h => ?_
        have gs4 : fr F_PH_start s s4 := gs2.tr ((fr_fPH_act_4 hc).mono (F := F_PH_start) (by decide +kernel))
        exact gs4.tr ((ih h))
    · exact g.tr ((fr_fPH_start_b93 hk26 h))
theorem fr_fPH_start_h26 : ∀ (n : Nat) {s : ev_M} {x1 : Int32} {q : ev_M × Int32} , fPH_start_h26 n s x1 = some q → fr F_PH_start s q.1 := by
  intro n
  induction n with
  | zero => intro s x1 q h; cases h
  | succ n ih =>
    intro s x1 q h
    have g : fr F_PH_start s s := fr.rf
    refine fr_if h (fun h => ?_) fun h => ?_
    · refine fr_bd1 h fun s6 hc h => ?_
      have gs6 := g.tr ((fr_fLog_gather hc).mono (F := F_PH_start) (by decide +kernel))
      refine fr_bd1 h fun v7 hc h => ?_
      refine fr_if h (fun h => ?_) fun h => ?_
      · exact gs6.tr ((fr_fPH_start_b100 ih h))
      · exact gs6.tr ((fr_fPH_start_h58 ih 1048576 h))
    · refine fr_bd2 h fun s8 v9 hc h => ?_
      have gs8 : fr F_PH_start s s8 := g.tr ((fr_fLog_endAgain hc).mono (F := F_PH_start) (by decide +kernel))
      cases h; exact gs8
theorem fr_fPH_start {s : ev_M} {q : ev_M × Int32} (h : fPH_start s = some q) : fr F_PH_start s q.1 := by
  have g : fr F_PH_start s s := fr.rf
  refine fr_if h (fun h => ?_) fun h => ?_
  · cases h; exact g
  · refine fr_bd1 h fun s10 hc h => ?_
    have gs10 := g.tr ((fr_fPH_clearHouse hc).mono (F := F_PH_start) (by decide +kernel))
    refine fr_bd1 h fun s11 hc h => ?_
    have gs11 := gs10.tr ((fr_fLog_beginAgain hc).mono (F := F_PH_start) (by decide +kernel))
    exact gs11.tr ((fr_fPH_start_h26 1048576 h))
def F_M_next : List (Nat × (Nat × Nat)) := [(549, 549, 22)]
theorem fr_fM_next {s : ev_M} {q : ev_M × Int32} (h : fM_next s = some q) : fr F_M_next s q.1 := by
  have g : fr F_M_next s s := fr.rf
  refine fr_ltM h (Q := fr F_M_next s) (g.wI rfl) fun s1 gs1 h => ?_
  refine fr_gd h fun c0 h => ?_
  cases h; exact gs1
def F_M_isRecord : List (Nat × (Nat × Nat)) := [(549, 549, 14), (549, 549, 17), (549, 549, 22), (553, 553, 0), (554, 554, 0)]
theorem fr_fM_isRecord_h194 : ∀ (n : Nat) {s : ev_M} {x1 : Int32} {q : ev_M × Int32} , fM_isRecord_h194 n s x1 = some q → fr F_M_isRecord s q.1 := by
  intro n
  induction n with
  | zero => intro s x1 q h; cases h
  | succ n ih =>
    intro s x1 q h
    have g : fr F_M_isRecord s s := fr.rf
    refine fr_if h (fun h => ?_) fun h => ?_
    · refine fr_bd2 h fun s1 v2 hc h => ?_
      have gs1 : fr F_M_isRecord s s1 := g.tr ((fr_fM_next hc).mono (F := F_M_isRecord) (by decide +kernel))
      refine fr_gd h fun c0 h => ?_
      refine fr_ltM h (Q := fr F_M_isRecord s) (gs1.wI rfl) fun s3 gs3 h => ?_
      exact gs3.tr ((ih h))
    · cases h; exact g
theorem fr_fM_isRecord_b123 {s : ev_M} {q : ev_M × Int32} (h : fM_isRecord_b123 s = some q) : fr F_M_isRecord s q.1 := by
  have g : fr F_M_isRecord s s := fr.rf
  refine fr_bd1 h fun v4 hc h => ?_
  refine fr_if h (fun h => ?_) fun h => ?_
  · cases h; exact g
  · refine fr_bd1 h fun v5 hc h => ?_
    refine fr_if h (fun h => ?_) fun h => ?_
    · refine fr_bd2 h fun s6 v7 hc h => ?_
      have gs6 : fr F_M_isRecord s s6 := g.tr ((fr_fM_next hc).mono (F := F_M_isRecord) (by decide +kernel))
      refine fr_ltM h (Q := fr F_M_isRecord s) (gs6.wI rfl) fun s8 gs8 h => ?_
      refine fr_bd2 h fun s9 v10 hc h => ?_
      have gs9 : fr F_M_isRecord s s9 := gs8.tr ((fr_fM_next hc).mono (F := F_M_isRecord) (by decide +kernel))
      refine fr_ltM h (Q := fr F_M_isRecord s) (gs9.wI rfl) fun s11 gs11 h => ?_
      refine fr_if h (fun h => ?_) fun h => ?_
      · refine fr_bd1 h fun v12 hc h => ?_
        refine fr_if h (fun h => ?_) fun h => ?_
        · exact gs11.tr ((fr_fM_isRecord_h194 1048576 h))
        · cases h; exact gs11
      · cases h; exact gs11
    · cases h; exact g
theorem fr_fM_isRecord_h41 : ∀ (n : Nat) {s : ev_M} {x1 : Int32} {q : ev_M × Int32} , fM_isRecord_h41 n s x1 = some q → fr F_M_isRecord s q.1 := by
  intro n
  induction n with
  | zero => intro s x1 q h; cases h
  | succ n ih =>
    intro s x1 q h
    have g : fr F_M_isRecord s s := fr.rf
    refine fr_bd1 h fun v13 hc h => ?_
    refine fr_if h (fun h => ?_) fun h => ?_
    · refine fr_bd2 h fun s14 v15 hc h => ?_
      have gs14 : fr F_M_isRecord s s14 := g.tr ((fr_fM_next hc).mono (F := F_M_isRecord) (by decide +kernel))
      refine fr_ltI h fun v16 h => ?_
      refine fr_bd2 h fun s17 v18 hc h => ?_
      have gs17 : fr F_M_isRecord s s17 := gs14.tr ((fr_fM_next hc).mono (F := F_M_isRecord) (by decide +kernel))
      refine fr_ltI h fun v19 h => ?_
      refine fr_bd2 h fun s20 v21 hc h => ?_
      have gs20 : fr F_M_isRecord s s20 := gs17.tr ((fr_fM_next hc).mono (F := F_M_isRecord) (by decide +kernel))
      refine fr_ltI h fun v22 h => ?_
      refine fr_bd2 h fun s23 v24 hc h => ?_
      have gs23 : fr F_M_isRecord s s23 := gs20.tr ((fr_fM_next hc).mono (F := F_M_isRecord) (by decide +kernel))
      refine fr_gd h fun c0 h => ?_
      refine fr_ltM h (Q := fr F_M_isRecord s) (gs23.wI rfl) fun s25 gs25 h => ?_
      exact gs25.tr ((ih h))
    · refine fr_if h (fun h => ?_) fun h => ?_
      · refine fr_bd1 h fun v26 hc h => ?_
        refine fr_if h (fun h => ?_) fun h => ?_
        · cases h; exact g
        · exact g.tr ((fr_fM_isRecord_b123 h))
      · exact g.tr ((fr_fM_isRecord_b123 h))
theorem fr_fM_isRecord {s : ev_M} {q : ev_M × Int32} (h : fM_isRecord s = some q) : fr F_M_isRecord s q.1 := by
  have g : fr F_M_isRecord s s := fr.rf
  refine fr_bd2 h fun s27 v28 hc h => ?_
  have gs27 : fr F_M_isRecord s s27 := g.tr ((fr_fM_next hc).mono (F := F_M_isRecord) (by decide +kernel))
  refine fr_ltM h (Q := fr F_M_isRecord s) (gs27.wI rfl) fun s29 gs29 h => ?_
  refine fr_bd1 h fun v30 hc h => ?_
  refine fr_if h (fun h => ?_) fun h => ?_
  · cases h; exact gs29
  · refine fr_bd1 h fun v31 hc h => ?_
    refine fr_bd1 h fun v32 hc h => ?_
    refine fr_if h (fun h => ?_) fun h => ?_
    · exact gs29.tr ((fr_fM_isRecord_h41 1048576 h))
    · cases h; exact gs29
def F_M_again : List (Nat × (Nat × Nat)) := [(549, 549, 14), (549, 549, 16), (549, 549, 17), (549, 549, 22), (549, 549, 23), (549, 549, 24), (549, 549, 25), (549, 549, 28), (549, 549, 34), (549, 549, 39), (549, 549, 44), (549, 549, 49), (549, 549, 50), (549, 549, 51), (549, 549, 52), (549, 549, 59), (549, 549, 84), (549, 549, 85), (549, 549, 86), (549, 549, 87), (549, 549, 88), (549, 549, 92), (549, 549, 94), (549, 549, 102), (549, 549, 108), (549, 549, 112), (549, 549, 115), (549, 549, 120), (549, 549, 126), (549, 549, 130), (549, 549, 135), (549, 549, 140), (549, 549, 141), (549, 549, 142), (549, 549, 147), (549, 549, 153), (549, 549, 154), (549, 549, 167), (553, 553, 0), (554, 554, 0), (558, 558, 0), (559, 559, 0), (560, 560, 0), (561, 561, 0), (562, 562, 0), (563, 563, 0), (564, 564, 0), (565, 565, 0), (566, 566, 0), (567, 567, 0), (568, 568, 0), (569, 569, 0), (570, 570, 0), (571, 571, 0), (572, 572, 0), (573, 573, 0), (574, 574, 0), (575, 575, 0), (576, 576, 0), (577, 577, 0), (578, 578, 0), (579, 579, 0), (580, 580, 0), (581, 581, 0), (582, 582, 0), (583, 583, 0), (584, 584, 0), (585, 585, 0), (586, 586, 0), (587, 587, 0), (588, 588, 0), (589, 589, 0), (590, 590, 0), (591, 591, 0), (592, 592, 0), (593, 593, 0), (594, 594, 0), (595, 595, 0), (596, 596, 0), (597, 597, 0), (598, 598, 0), (599, 599, 0), (600, 600, 0), (601, 601, 0), (602, 602, 0), (603, 603, 0), (604, 604, 0), (605, 605, 0), (606, 606, 0), (607, 607, 0), (608, 608, 0), (609, 609, 0), (610, 610, 0), (611, 611, 0), (612, 612, 0), (613, 613, 0), (614, 614, 0), (615, 615, 0), (616, 616, 0), (617, 617, 0), (618, 618, 0), (619, 619, 0), (620, 620, 0), (621, 621, 0), (622, 622, 0), (623, 623, 0), (624, 624, 0), (625, 625, 0), (626, 626, 0), (627, 627, 0), (628, 628, 0), (629, 629, 0), (630, 630, 0), (631, 631, 0), (632, 632, 0), (633, 633, 0), (634, 634, 0), (635, 635, 0), (636, 636, 0), (637, 637, 0), (638, 638, 0), (639, 639, 0), (640, 640, 0), (641, 641, 0), (642, 642, 0), (643, 643, 0), (644, 644, 0), (645, 645, 0), (646, 646, 0), (647, 647, 0), (648, 648, 0), (649, 649, 0), (650, 650, 0), (651, 651, 0), (652, 652, 0), (653, 653, 0), (654, 654, 0), (655, 655, 0), (656, 656, 0), (658, 658, 0), (659, 659, 0), (664, 664, 0), (665, 665, 0), (666, 666, 0), (667, 667, 0), (668, 668, 0), (669, 669, 0), (670, 670, 0), (671, 671, 0), (672, 672, 0), (673, 673, 0), (674, 674, 0), (675, 675, 0), (676, 676, 0), (677, 677, 0), (678, 678, 0), (679, 679, 0), (680, 680, 0)]
theorem fr_fM_again_b49 {k7 : ev_M → Int32 → Option (ev_M × Int32)} (hk7 : ∀ {s : ev_M} {z1 : Int32} {q : ev_M × Int32} , k7 s z1 = some q → fr F_M_again s q.1) {s : ev_M} {y0 : Int32} {q : ev_M × Int32} (h : fM_again_b49 k7 s y0 = some q) : fr F_M_again s q.1 := by
  have g : fr F_M_again s s := fr.rf
  exact g.tr ((hk7 h))
theorem fr_fM_again_h7 : ∀ (n : Nat) {s : ev_M} {x1 : Int32} {q : ev_M × Int32} , fM_again_h7 n s x1 = some q → fr F_M_again s q.1 := by
  intro n
  induction n with
  | zero => intro s x1 q h; cases h
  | succ n ih =>
    intro s x1 q h
    have g : fr F_M_again s s := fr.rf
    refine fr_if h (fun h => ?_) fun h => ?_
    · refine fr_bd2 h fun s1 v2 hc h => ?_
      have gs1 : fr F_M_again s s1 := g.tr ((fr_fM_isRecord hc).mono (F := F_M_again) (by decide +kernel))
      refine fr_if h (fun h => ?_) fun h => ?_
      · cases h; exact gs1
      · refine fr_ltM h (Q := fr F_M_again s) (gs1.wI rfl) fun s3 gs3 h => ?_
        refine fr_bd2 h fun s4 v5 hc h => ?_
        have gs4 : fr F_M_again s s4 := gs3.tr ((fr_fM_act hc).mono (F := F_M_again) (by decide +kernel))
        refine fr_if h (fun h => ?_) fun h => ?_
        · exact gs4.tr ((fr_fM_again_b49 ih h))
        · exact gs4.tr ((fr_fM_again_b49 ih h))
    · cases h; exact g
theorem fr_fM_again {s : ev_M} {q : ev_M × Int32} (h : fM_again s = some q) : fr F_M_again s q.1 := by
  have g : fr F_M_again s s := fr.rf
  refine fr_ltM h (Q := fr F_M_again s) (g.wI rfl) fun s6 gs6 h => ?_
  exact gs6.tr ((fr_fM_again_h7 1048576 h))
def F_M_empty : List (Nat × (Nat × Nat)) := [(549, 549, 23), (549, 549, 24), (549, 549, 25), (549, 549, 28), (549, 549, 34), (549, 549, 39), (549, 549, 44), (549, 549, 49), (549, 549, 50), (549, 549, 51), (549, 549, 52), (549, 549, 59), (549, 549, 84), (549, 549, 85), (549, 549, 86), (549, 549, 87), (549, 549, 88), (549, 549, 92), (549, 549, 94), (549, 549, 102), (549, 549, 108), (549, 549, 112), (549, 549, 115), (549, 549, 120), (549, 549, 126), (549, 549, 130), (549, 549, 135), (610, 610, 0), (647, 647, 0)]
theorem fr_fM_empty_h162 : ∀ (n : Nat) {s : ev_M} {x1 : Int32} {q : ev_M} , fM_empty_h162 n s x1 = some q → fr F_M_empty s q := by
  intro n
  induction n with
  | zero => intro s x1 q h; cases h
  | succ n ih =>
    intro s x1 q h
    have g : fr F_M_empty s s := fr.rf
    refine fr_if h (fun h => ?_) fun h => ?_
    · refine fr_gd h fun c0 h => ?_
      refine fr_ltM h (Q := fr F_M_empty s) (g.wI rfl) fun s1 gs1 h => ?_
      exact gs1.tr ((ih h))
    · cases h; exact g
theorem fr_fM_empty_h140 : ∀ (n : Nat) {s : ev_M} {x1 : Int32} {q : ev_M} , fM_empty_h140 n s x1 = some q → fr F_M_empty s q := by
  intro n
  induction n with
  | zero => intro s x1 q h; cases h
  | succ n ih =>
    intro s x1 q h
    have g : fr F_M_empty s s := fr.rf
    refine fr_if h (fun h => ?_) fun h => ?_
    · refine fr_gd h fun c0 h => ?_
      refine fr_ltM h (Q := fr F_M_empty s) (g.wI rfl) fun s2 gs2 h => ?_
      exact gs2.tr ((ih h))
    · exact g.tr ((fr_fM_empty_h162 1048576 h))
theorem fr_fM_empty {s : ev_M} {q : ev_M} (h : fM_empty s = some q) : fr F_M_empty s q := by
  have g : fr F_M_empty s s := fr.rf
  refine fr_ltM h (Q := fr F_M_empty s) (g.wI rfl) fun s3 gs3 h => ?_
  refine fr_ltM h (Q := fr F_M_empty s) (gs3.wI rfl) fun s4 gs4 h => ?_
  refine fr_ltM h (Q := fr F_M_empty s) (gs4.wI rfl) fun s5 gs5 h => ?_
  refine fr_ltM h (Q := fr F_M_empty s) (gs5.wI rfl) fun s6 gs6 h => ?_
  refine fr_ltM h (Q := fr F_M_empty s) (gs6.wI rfl) fun s7 gs7 h => ?_
  refine fr_ltM h (Q := fr F_M_empty s) (gs7.wI rfl) fun s8 gs8 h => ?_
  refine fr_ltM h (Q := fr F_M_empty s) (gs8.wI rfl) fun s9 gs9 h => ?_
  refine fr_ltM h (Q := fr F_M_empty s) (gs9.wI rfl) fun s10 gs10 h => ?_
  refine fr_ltM h (Q := fr F_M_empty s) (gs10.wI rfl) fun s11 gs11 h => ?_
  refine fr_ltM h (Q := fr F_M_empty s) (gs11.wI rfl) fun s12 gs12 h => ?_
  refine fr_ltM h (Q := fr F_M_empty s) (gs12.wI rfl) fun s13 gs13 h => ?_
  refine fr_ltM h (Q := fr F_M_empty s) (gs13.wI rfl) fun s14 gs14 h => ?_
  refine fr_ltM h (Q := fr F_M_empty s) (gs14.wI rfl) fun s15 gs15 h => ?_
  refine fr_ltM h (Q := fr F_M_empty s) (gs15.wI rfl) fun s16 gs16 h => ?_
  refine fr_ltM h (Q := fr F_M_empty s) (gs16.wI rfl) fun s17 gs17 h => ?_
  refine fr_ltM h (Q := fr F_M_empty s) (gs17.wI rfl) fun s18 gs18 h => ?_
  refine fr_ltM h (Q := fr F_M_empty s) (gs18.wI rfl) fun s19 gs19 h => ?_
  refine fr_ltM h (Q := fr F_M_empty s) (gs19.wI rfl) fun s20 gs20 h => ?_
  refine fr_ltM h (Q := fr F_M_empty s) (gs20.wI rfl) fun s21 gs21 h => ?_
  refine fr_ltM h (Q := fr F_M_empty s) (gs21.wI rfl) fun s22 gs22 h => ?_
  refine fr_ltM h (Q := fr F_M_empty s) (gs22.wI rfl) fun s23 gs23 h => ?_
  refine fr_ltM h (Q := fr F_M_empty s) (gs23.wI rfl) fun s24 gs24 h => ?_
  refine fr_ltM h (Q := fr F_M_empty s) (gs24.wI rfl) fun s25 gs25 h => ?_
  refine fr_ltM h (Q := fr F_M_empty s) (gs25.wI rfl) fun s26 gs26 h => ?_
  refine fr_ltM h (Q := fr F_M_empty s) (gs26.wI rfl) fun s27 gs27 h => ?_
  refine fr_ltM h (Q := fr F_M_empty s) (gs27.wI rfl) fun s28 gs28 h => ?_
  refine fr_ltM h (Q := fr F_M_empty s) (gs28.wI rfl) fun s29 gs29 h => ?_
  exact gs29.tr ((fr_fM_empty_h140 1048576 h))
def F_M_start : List (Nat × (Nat × Nat)) := [(549, 549, 1), (549, 549, 5), (549, 549, 6), (549, 549, 7), (549, 549, 10), (549, 549, 11), (549, 549, 14), (549, 549, 15), (549, 549, 16), (549, 549, 17), (549, 549, 21), (549, 549, 22), (549, 549, 23), (549, 549, 24), (549, 549, 25), (549, 549, 28), (549, 549, 34), (549, 549, 39), (549, 549, 44), (549, 549, 49), (549, 549, 50), (549, 549, 51), (549, 549, 52), (549, 549, 59), (549, 549, 84), (549, 549, 85), (549, 549, 86), (549, 549, 87), (549, 549, 88), (549, 549, 92), (549, 549, 94), (549, 549, 102), (549, 549, 108), (549, 549, 112), (549, 549, 115), (549, 549, 120), (549, 549, 126), (549, 549, 130), (549, 549, 135), (549, 549, 140), (549, 549, 141), (549, 549, 142), (549, 549, 147), (549, 549, 153), (549, 549, 154), (549, 549, 167), (553, 553, 0), (554, 554, 0), (557, 557, 0), (558, 558, 0), (559, 559, 0), (560, 560, 0), (561, 561, 0), (562, 562, 0), (563, 563, 0), (564, 564, 0), (565, 565, 0), (566, 566, 0), (567, 567, 0), (568, 568, 0), (569, 569, 0), (570, 570, 0), (571, 571, 0), (572, 572, 0), (573, 573, 0), (574, 574, 0), (575, 575, 0), (576, 576, 0), (577, 577, 0), (578, 578, 0), (579, 579, 0), (580, 580, 0), (581, 581, 0), (582, 582, 0), (583, 583, 0), (584, 584, 0), (585, 585, 0), (586, 586, 0), (587, 587, 0), (588, 588, 0), (589, 589, 0), (590, 590, 0), (591, 591, 0), (592, 592, 0), (593, 593, 0), (594, 594, 0), (595, 595, 0), (596, 596, 0), (597, 597, 0), (598, 598, 0), (599, 599, 0), (600, 600, 0), (601, 601, 0), (602, 602, 0), (603, 603, 0), (604, 604, 0), (605, 605, 0), (606, 606, 0), (607, 607, 0), (608, 608, 0), (609, 609, 0), (610, 610, 0), (611, 611, 0), (612, 612, 0), (613, 613, 0), (614, 614, 0), (615, 615, 0), (616, 616, 0), (617, 617, 0), (618, 618, 0), (619, 619, 0), (620, 620, 0), (621, 621, 0), (622, 622, 0), (623, 623, 0), (624, 624, 0), (625, 625, 0), (626, 626, 0), (627, 627, 0), (628, 628, 0), (629, 629, 0), (630, 630, 0), (631, 631, 0), (632, 632, 0), (633, 633, 0), (634, 634, 0), (635, 635, 0), (636, 636, 0), (637, 637, 0), (638, 638, 0), (639, 639, 0), (640, 640, 0), (641, 641, 0), (642, 642, 0), (643, 643, 0), (644, 644, 0), (645, 645, 0), (646, 646, 0), (647, 647, 0), (648, 648, 0), (649, 649, 0), (650, 650, 0), (651, 651, 0), (652, 652, 0), (653, 653, 0), (654, 654, 0), (655, 655, 0), (656, 656, 0), (658, 658, 0), (659, 659, 0), (664, 664, 0), (665, 665, 0), (666, 666, 0), (667, 667, 0), (668, 668, 0), (669, 669, 0), (670, 670, 0), (671, 671, 0), (672, 672, 0), (673, 673, 0), (674, 674, 0), (675, 675, 0), (676, 676, 0), (677, 677, 0), (678, 678, 0), (679, 679, 0), (680, 680, 0)]
theorem fr_fM_start_b56 {k22 : ev_M → Int32 → Option (ev_M × Int32)} (hk22 : ∀ {s : ev_M} {z1 : Int32} {q : ev_M × Int32} , k22 s z1 = some q → fr F_M_start s q.1) {s : ev_M} {x1 : Int32} {y1 : Int32} {q : ev_M × Int32} (h : fM_start_b56 k22 s x1 y1 = some q) : fr F_M_start s q.1 := by
  have g : fr F_M_start s s := fr.rf
  refine fr_ltM h (Q := fr F_M_start s) (g.wI rfl) fun s1 gs1 h => ?_
  exact gs1.tr ((hk22 h))
theorem fr_fM_start_b184 {k103 : ev_M → Int32 → Int32 → Option (ev_M × Int32)} (hk103 : ∀ {s : ev_M} {z1 : Int32} {z2 : Int32} {q : ev_M × Int32} , k103 s z1 z2 = some q → fr F_M_start s q.1) {s : ev_M} {x1 : Int32} {x2 : Int32} {q : ev_M × Int32} (h : fM_start_b184 k103 s x1 x2 = some q) : fr F_M_start s q.1 := by
  have g : fr F_M_start s s := fr.rf
  exact g.tr ((hk103 h))
theorem fr_fM_start_h113 {k103 : ev_M → Int32 → Int32 → Option (ev_M × Int32)} (hk103 : ∀ {s : ev_M} {z1 : Int32} {z2 : Int32} {q : ev_M × Int32} , k103 s z1 z2 = some q → fr F_M_start s q.1) : ∀ (n : Nat) {s : ev_M} {x1 : Int32} {x2 : Int32} {x3 : Int32} {q : ev_M × Int32} , fM_start_h113 k103 n s x1 x2 x3 = some q → fr F_M_start s q.1 := by
  intro n
  induction n with
  | zero => intro s x1 x2 x3 q h; cases h
  | succ n ih =>
    intro s x1 x2 x3 q h
    have g : fr F_M_start s s := fr.rf
    refine fr_bd1 h fun v2 hc h => ?_
    refine fr_if h (fun h => ?_) fun h => ?_
    · refine fr_gd h fun c0 h => ?_
      refine fr_gd h fun c1 h => ?_
      refine fr_ltM h (Q := fr F_M_start s) (g.wI rfl) fun s3 gs3 h => ?_
      refine fr_ltM h (Q := fr F_M_start s) (gs3.wI rfl) fun s4 gs4 h => ?_
      exact gs4.tr ((ih h))
    · refine fr_bd1 h fun v5 hc h => ?_
      refine fr_if h (fun h => ?_) fun h => ?_
      · refine fr_bd2 h fun s6 v7 hc h => ?_
        have gs6 : fr F_M_start s s6 := g.tr ((fr_fM_again hc).mono (F := F_M_start) (by decide +kernel))
        refine fr_ltI h fun v8 h => ?_
        refine fr_ltM h (Q := fr F_M_start s) (gs6.wI rfl) fun s9 gs9 h => ?_
        exact gs9.tr ((fr_fM_start_b184 hk103 h))
      · exact g.tr ((fr_fM_start_b184 hk103 h))
theorem fr_fM_start_h103 : ∀ (n : Nat) {s : ev_M} {x1 : Int32} {x2 : Int32} {q : ev_M × Int32} , fM_start_h103 n s x1 x2 = some q → fr F_M_start s q.1 := by
  intro n
  induction n with
  | zero => intro s x1 x2 q h; cases h
  | succ n ih =>
    intro s x1 x2 q h
    have g : fr F_M_start s s := fr.rf
    refine fr_if h (fun h => ?_) fun h => ?_
    · exact g.tr ((fr_fM_start_h113 ih 1048576 h))
    · cases h; exact g
theorem fr_fM_start_b65 {s : ev_M} {q : ev_M × Int32} (h : fM_start_b65 s = some q) : fr F_M_start s q.1 := by
  have g : fr F_M_start s s := fr.rf
  refine fr_ltM h (Q := fr F_M_start s) (g.wI rfl) fun s10 gs10 h => ?_
  refine fr_ltM h (Q := fr F_M_start s) (gs10.wI rfl) fun s11 gs11 h => ?_
  refine fr_ltM h (Q := fr F_M_start s) (gs11.wI rfl) fun s12 gs12 h => ?_
  refine fr_ltM h (Q := fr F_M_start s) (gs12.wI rfl) fun s13 gs13 h => ?_
  refine fr_bd1 h fun s14 hc h => ?_
  have gs14 := gs13.tr ((fr_fM_empty hc).mono (F := F_M_start) (by decide +kernel))
  refine fr_ltM h (Q := fr F_M_start s) (gs14.wI rfl) fun s15 gs15 h => ?_
  refine fr_ltM h (Q := fr F_M_start s) (gs15.wI rfl) fun s16 gs16 h => ?_
  exact gs16.tr ((fr_fM_start_h103 1048576 h))
theorem fr_fM_start_h22 : ∀ (n : Nat) {s : ev_M} {x1 : Int32} {q : ev_M × Int32} , fM_start_h22 n s x1 = some q → fr F_M_start s q.1 := by
  intro n
  induction n with
  | zero => intro s x1 q h; cases h
  | succ n ih =>
    intro s x1 q h
    have g : fr F_M_start s s := fr.rf
    refine fr_if h (fun h => ?_) fun h => ?_
    · refine fr_bd1 h fun v17 hc h => ?_
      refine fr_if h (fun h => ?_) fun h => ?_
      · exact g.tr ((fr_fM_start_b65 h))
      · refine fr_bd1 h fun v18 hc h => ?_
        refine fr_if h (fun h => ?_) fun h => ?_
        · exact g.tr ((fr_fM_start_b56 ih h))
        · exact g.tr ((fr_fM_start_b56 ih h))
    · exact g.tr ((fr_fM_start_b65 h))
theorem fr_fM_start {s : ev_M} {q : ev_M × Int32} (h : fM_start s = some q) : fr F_M_start s q.1 := by
  have g : fr F_M_start s s := fr.rf
  refine fr_ltM h (Q := fr F_M_start s) (g.wI rfl) fun s19 gs19 h => ?_
  refine fr_if h (fun h => ?_) fun h => ?_
  · cases h; exact gs19
  · refine fr_ltM h (Q := fr F_M_start s) (gs19.wI rfl) fun s20 gs20 h => ?_
    exact gs20.tr ((fr_fM_start_h22 1048576 h))
def F_M_verify : List (Nat × (Nat × Nat)) := [(549, 549, 1)]
theorem fr_fM_verify_b39 {s : ev_M} {x1 : Int32} {q : ev_M × Int32} (h : fM_verify_b39 s x1 = some q) : fr F_M_verify s q.1 := by
  have g : fr F_M_verify s s := fr.rf
  refine fr_if h (fun h => ?_) fun h => ?_
  · cases h; exact g
  · cases h; exact g
theorem fr_fM_verify_h17 : ∀ (n : Nat) {s : ev_M} {x1 : Int32} {q : ev_M × Int32} , fM_verify_h17 n s x1 = some q → fr F_M_verify s q.1 := by
  intro n
  induction n with
  | zero => intro s x1 q h; cases h
  | succ n ih =>
    intro s x1 q h
    have g : fr F_M_verify s s := fr.rf
    refine fr_if h (fun h => ?_) fun h => ?_
    · refine fr_bd1 h fun v1 hc h => ?_
      refine fr_if h (fun h => ?_) fun h => ?_
      · exact g.tr ((fr_fM_verify_b39 h))
      · exact g.tr ((ih h))
    · exact g.tr ((fr_fM_verify_b39 h))
theorem fr_fM_verify {s : ev_M} {q : ev_M × Int32} (h : fM_verify s = some q) : fr F_M_verify s q.1 := by
  have g : fr F_M_verify s s := fr.rf
  refine fr_ltM h (Q := fr F_M_verify s) (g.wI rfl) fun s2 gs2 h => ?_
  refine fr_if h (fun h => ?_) fun h => ?_
  · exact gs2.tr ((fr_fM_verify_h17 1048576 h))
  · cases h; exact gs2
def F_M_octet : List (Nat × (Nat × Nat)) := [(549, 549, 1)]
theorem fr_fM_octet_b28 {s : ev_M} {x1 : Int32} {x2 : Int32} {y1 : Int32} {q : ev_M × Int32} (h : fM_octet_b28 s x1 x2 y1 = some q) : fr F_M_octet s q.1 := by
  have g : fr F_M_octet s s := fr.rf
  refine fr_ltM h (Q := fr F_M_octet s) (g.wI rfl) fun s1 gs1 h => ?_
  refine fr_if h (fun h => ?_) fun h => ?_
  · refine fr_bd1 h fun v2 hc h => ?_
    cases h; exact gs1
  · cases h; exact gs1
theorem fr_fM_octet_b27 {s : ev_M} {x1 : Int32} {x2 : Int32} {q : ev_M × Int32} (h : fM_octet_b27 s x1 x2 = some q) : fr F_M_octet s q.1 := by
  have g : fr F_M_octet s s := fr.rf
  exact g.tr ((fr_fM_octet_b28 h))
theorem fr_fM_octet {s : ev_M} {a1 : Int32} {a2 : Int32} {q : ev_M × Int32} (h : fM_octet s a1 a2 = some q) : fr F_M_octet s q.1 := by
  have g : fr F_M_octet s s := fr.rf
  refine fr_bd1 h fun v3 hc h => ?_
  refine fr_if h (fun h => ?_) fun h => ?_
  · exact g.tr ((fr_fM_octet_b27 h))
  · refine fr_bd1 h fun v4 hc h => ?_
    refine fr_if h (fun h => ?_) fun h => ?_
    · exact g.tr ((fr_fM_octet_b27 h))
    · exact g.tr ((fr_fM_octet_b28 h))
def F_M_poke : List (Nat × (Nat × Nat)) := [(549, 549, 1), (551, 551, 0)]
theorem fr_fM_poke_b28 {s : ev_M} {x1 : Int32} {x2 : Int32} {x3 : Int32} {y1 : Int32} {q : ev_M × Int32} (h : fM_poke_b28 s x1 x2 x3 y1 = some q) : fr F_M_poke s q.1 := by
  have g : fr F_M_poke s s := fr.rf
  refine fr_ltM h (Q := fr F_M_poke s) (g.wI rfl) fun s1 gs1 h => ?_
  refine fr_if h (fun h => ?_) fun h => ?_
  · refine fr_gd h fun c0 h => ?_
    refine fr_gd h fun c1 h => ?_
    refine fr_ltM h (Q := fr F_M_poke s) (gs1.wI rfl) fun s2 gs2 h => ?_
    refine fr_bd1 h fun v3 hc h => ?_
    cases h; exact gs2
  · cases h; exact gs1
theorem fr_fM_poke_b27 {s : ev_M} {x1 : Int32} {x2 : Int32} {x3 : Int32} {q : ev_M × Int32} (h : fM_poke_b27 s x1 x2 x3 = some q) : fr F_M_poke s q.1 := by
  have g : fr F_M_poke s s := fr.rf
  exact g.tr ((fr_fM_poke_b28 h))
theorem fr_fM_poke {s : ev_M} {a1 : Int32} {a2 : Int32} {a3 : Int32} {q : ev_M × Int32} (h : fM_poke s a1 a2 a3 = some q) : fr F_M_poke s q.1 := by
  have g : fr F_M_poke s s := fr.rf
  refine fr_bd1 h fun v4 hc h => ?_
  refine fr_if h (fun h => ?_) fun h => ?_
  · exact g.tr ((fr_fM_poke_b27 h))
  · refine fr_bd1 h fun v5 hc h => ?_
    refine fr_if h (fun h => ?_) fun h => ?_
    · exact g.tr ((fr_fM_poke_b27 h))
    · exact g.tr ((fr_fM_poke_b28 h))
def F_M_count : List (Nat × (Nat × Nat)) := [(549, 549, 1)]
theorem fr_fM_count {s : ev_M} {a1 : Int32} {q : ev_M × Int32} (h : fM_count s a1 = some q) : fr F_M_count s q.1 := by
  have g : fr F_M_count s s := fr.rf
  refine fr_ltM h (Q := fr F_M_count s) (g.wI rfl) fun s1 gs1 h => ?_
  refine fr_if h (fun h => ?_) fun h => ?_
  · refine fr_if h (fun h => ?_) fun h => ?_
    · cases h; exact gs1
    · refine fr_if h (fun h => ?_) fun h => ?_
      · cases h; exact gs1
      · refine fr_if h (fun h => ?_) fun h => ?_
        · cases h; exact gs1
        · refine fr_if h (fun h => ?_) fun h => ?_
          · cases h; exact gs1
          · refine fr_if h (fun h => ?_) fun h => ?_
            · cases h; exact gs1
            · refine fr_if h (fun h => ?_) fun h => ?_
              · cases h; exact gs1
              · refine fr_if h (fun h => ?_) fun h => ?_
                · cases h; exact gs1
                · refine fr_if h (fun h => ?_) fun h => ?_
                  · cases h; exact gs1
                  · refine fr_if h (fun h => ?_) fun h => ?_
                    · cases h; exact gs1
                    · refine fr_if h (fun h => ?_) fun h => ?_
                      · cases h; exact gs1
                      · refine fr_if h (fun h => ?_) fun h => ?_
                        · cases h; exact gs1
                        · refine fr_if h (fun h => ?_) fun h => ?_
                          · cases h; exact gs1
                          · refine fr_if h (fun h => ?_) fun h => ?_
                            · cases h; exact gs1
                            · refine fr_if h (fun h => ?_) fun h => ?_
                              · cases h; exact gs1
                              · refine fr_if h (fun h => ?_) fun h => ?_
                                · cases h; exact gs1
                                · refine fr_if h (fun h => ?_) fun h => ?_
                                  · cases h; exact gs1
                                  · refine fr_if h (fun h => ?_) fun h => ?_
                                    · cases h; exact gs1
                                    · refine fr_if h (fun h => ?_) fun h => ?_
                                      · cases h; exact gs1
                                      · cases h; exact gs1
  · cases h; exact gs1
def F_PH_book : List (Nat × (Nat × Nat)) := [(1, 1, 2), (1, 1, 3), (1, 1, 5), (1, 1, 6), (3, 3, 0), (9, 9, 7), (9, 9, 8), (9, 9, 14), (9, 9, 15), (13, 13, 0), (14, 14, 0), (15, 15, 2), (15, 15, 3), (15, 15, 8), (17, 17, 0), (18, 18, 0), (19, 19, 0), (20, 20, 0), (21, 21, 0), (22, 22, 0), (24, 24, 0), (25, 25, 0), (26, 26, 0), (27, 27, 0), (28, 28, 0), (29, 29, 0), (30, 30, 3), (30, 30, 5), (30, 30, 8), (30, 30, 10), (30, 30, 12), (30, 30, 15), (30, 30, 16), (31, 31, 0), (33, 33, 0), (34, 34, 0), (35, 35, 0), (36, 36, 0), (37, 37, 0), (39, 39, 0), (40, 40, 0), (41, 41, 0), (42, 42, 0), (44, 44, 0), (45, 45, 0), (47, 47, 0), (48, 48, 0), (49, 49, 0), (50, 50, 0), (51, 51, 0), (52, 52, 3), (52, 52, 4), (52, 52, 5), (52, 52, 6), (52, 52, 9), (52, 52, 10), (52, 52, 14), (53, 53, 0), (54, 54, 0), (56, 56, 0), (57, 57, 0), (58, 58, 0), (59, 59, 0), (60, 60, 0), (61, 61, 0), (63, 63, 0), (64, 64, 0), (65, 65, 0), (66, 66, 0), (68, 75, 0), (72, 72, 0), (73, 73, 0), (74, 74, 0), (76, 76, 0), (77, 77, 0), (78, 78, 4), (78, 78, 7), (78, 78, 9), (78, 78, 10), (78, 78, 12), (78, 78, 14), (79, 79, 0), (80, 80, 0), (82, 82, 0), (83, 83, 0), (84, 84, 0), (85, 85, 0), (87, 87, 0), (88, 88, 0), (89, 89, 0), (90, 90, 0), (91, 91, 0), (93, 95, 0), (97, 97, 0), (98, 98, 0), (99, 99, 0), (100, 100, 6), (100, 100, 7), (102, 102, 0), (102, 123, 0), (103, 103, 0), (104, 104, 0), (105, 105, 0), (106, 106, 0), (107, 107, 0), (108, 108, 0), (109, 109, 0), (110, 110, 0), (111, 111, 0), (112, 112, 0), (113, 113, 0), (115, 115, 0), (116, 116, 0), (117, 117, 0), (119, 119, 0), (120, 120, 0), (121, 121, 0), (125, 125, 4), (126, 126, 0), (127, 127, 0), (128, 128, 0), (130, 137, 0), (138, 138, 4), (138, 138, 10), (138, 138, 11), (138, 138, 13), (140, 140, 0), (141, 141, 0), (142, 142, 0), (143, 143, 0), (144, 144, 0), (146, 157, 0), (158, 158, 0), (160, 171, 0), (172, 172, 0), (173, 173, 0), (174, 174, 0), (175, 175, 0), (177, 177, 0), (177, 179, 0), (178, 178, 0), (179, 179, 0), (180, 180, 0), (181, 181, 0), (183, 191, 0), (193, 448, 0), (449, 449, 5), (449, 449, 7), (451, 451, 0), (452, 452, 0), (453, 453, 0), (454, 454, 0), (455, 455, 0), (456, 456, 0), (457, 457, 0), (459, 459, 0), (460, 460, 0), (461, 461, 0), (462, 462, 0), (463, 463, 0), (464, 464, 0), (466, 545, 0), (546, 546, 0), (547, 547, 0), (548, 548, 0)]
theorem fr_fPH_book {s : ev_M} {q : ev_M × Int32} (h : fPH_book s = some q) : fr F_PH_book s q.1 := by
  have g : fr F_PH_book s s := fr.rf
  refine fr_bd2 h fun s1 v2 hc h => ?_
  have gs1 : fr F_PH_book s s1 := g.tr ((fr_fLog_stages hc).mono (F := F_PH_book) (by decide +kernel))
  refine fr_if h (fun h => ?_) fun h => ?_
  · cases h; exact gs1
  · refine fr_bd2 h fun s3 v4 hc h => ?_
    have gs3 : fr F_PH_book s s3 := gs1.tr ((fr_fPH_act_1 hc).mono (F := F_PH_book) (by decide +kernel))
    refine fr_ltM h (Q := fr F_PH_book s) (gs3.wI rfl) fun s5 gs5 h => ?_
    cases h; exact gs5
def F_M_book : List (Nat × (Nat × Nat)) := [(549, 549, 1), (549, 549, 3), (549, 549, 10), (549, 549, 11), (549, 549, 14), (549, 549, 15), (549, 549, 16), (549, 549, 17), (549, 549, 23), (549, 549, 24), (549, 549, 25), (549, 549, 28), (549, 549, 34), (549, 549, 39), (549, 549, 44), (549, 549, 49), (549, 549, 50), (549, 549, 51), (549, 549, 52), (549, 549, 59), (549, 549, 84), (549, 549, 85), (549, 549, 86), (549, 549, 87), (549, 549, 88), (549, 549, 92), (549, 549, 94), (549, 549, 102), (549, 549, 108), (549, 549, 112), (549, 549, 115), (549, 549, 120), (549, 549, 126), (549, 549, 130), (549, 549, 135), (549, 549, 140), (549, 549, 141), (549, 549, 142), (549, 549, 147), (549, 549, 153), (549, 549, 154), (549, 549, 167), (552, 552, 0), (554, 554, 0), (558, 558, 0), (559, 559, 0), (560, 560, 0), (561, 561, 0), (562, 562, 0), (563, 563, 0), (564, 564, 0), (565, 565, 0), (566, 566, 0), (567, 567, 0), (568, 568, 0), (569, 569, 0), (570, 570, 0), (571, 571, 0), (572, 572, 0), (573, 573, 0), (574, 574, 0), (575, 575, 0), (576, 576, 0), (577, 577, 0), (578, 578, 0), (579, 579, 0), (580, 580, 0), (581, 581, 0), (582, 582, 0), (583, 583, 0), (584, 584, 0), (585, 585, 0), (586, 586, 0), (587, 587, 0), (588, 588, 0), (589, 589, 0), (590, 590, 0), (591, 591, 0), (592, 592, 0), (593, 593, 0), (594, 594, 0), (595, 595, 0), (596, 596, 0), (597, 597, 0), (598, 598, 0), (599, 599, 0), (600, 600, 0), (601, 601, 0), (602, 602, 0), (603, 603, 0), (604, 604, 0), (605, 605, 0), (606, 606, 0), (607, 607, 0), (608, 608, 0), (609, 609, 0), (610, 610, 0), (611, 611, 0), (612, 612, 0), (613, 613, 0), (614, 614, 0), (615, 615, 0), (616, 616, 0), (617, 617, 0), (618, 618, 0), (619, 619, 0), (620, 620, 0), (621, 621, 0), (622, 622, 0), (623, 623, 0), (624, 624, 0), (625, 625, 0), (626, 626, 0), (627, 627, 0), (628, 628, 0), (629, 629, 0), (630, 630, 0), (631, 631, 0), (632, 632, 0), (633, 633, 0), (634, 634, 0), (635, 635, 0), (636, 636, 0), (637, 637, 0), (638, 638, 0), (639, 639, 0), (640, 640, 0), (641, 641, 0), (642, 642, 0), (643, 643, 0), (644, 644, 0), (645, 645, 0), (646, 646, 0), (647, 647, 0), (648, 648, 0), (649, 649, 0), (650, 650, 0), (651, 651, 0), (652, 652, 0), (653, 653, 0), (654, 654, 0), (655, 655, 0), (656, 656, 0), (658, 658, 0), (659, 659, 0), (664, 664, 0), (665, 665, 0), (666, 666, 0), (667, 667, 0), (668, 668, 0), (669, 669, 0), (670, 670, 0), (671, 671, 0), (672, 672, 0), (673, 673, 0), (674, 674, 0), (675, 675, 0), (676, 676, 0), (677, 677, 0), (678, 678, 0), (679, 679, 0), (680, 680, 0)]
theorem fr_fM_book {s : ev_M} {q : ev_M × Int32} (h : fM_book s = some q) : fr F_M_book s q.1 := by
  have g : fr F_M_book s s := fr.rf
  refine fr_bd2 h fun s1 v2 hc h => ?_
  have gs1 : fr F_M_book s s1 := g.tr ((fr_fM_call hc).mono (F := F_M_book) (by decide +kernel))
  cases h; exact gs1
def F_PH_forward : List (Nat × (Nat × Nat)) := [(1, 1, 3), (1, 1, 5), (1, 1, 6), (3, 3, 0), (9, 9, 7), (9, 9, 8), (9, 9, 14), (9, 9, 15), (13, 13, 0), (14, 14, 0), (15, 15, 2), (15, 15, 3), (15, 15, 8), (17, 17, 0), (18, 18, 0), (19, 19, 0), (20, 20, 0), (21, 21, 0), (22, 22, 0), (24, 24, 0), (25, 25, 0), (26, 26, 0), (27, 27, 0), (28, 28, 0), (29, 29, 0), (30, 30, 3), (30, 30, 5), (30, 30, 8), (30, 30, 10), (30, 30, 12), (30, 30, 15), (30, 30, 16), (31, 31, 0), (33, 33, 0), (34, 34, 0), (35, 35, 0), (36, 36, 0), (37, 37, 0), (39, 39, 0), (40, 40, 0), (41, 41, 0), (42, 42, 0), (44, 44, 0), (45, 45, 0), (47, 47, 0), (48, 48, 0), (49, 49, 0), (50, 50, 0), (51, 51, 0), (52, 52, 3), (52, 52, 4), (52, 52, 5), (52, 52, 6), (52, 52, 9), (52, 52, 10), (52, 52, 14), (53, 53, 0), (54, 54, 0), (56, 56, 0), (57, 57, 0), (58, 58, 0), (59, 59, 0), (60, 60, 0), (61, 61, 0), (63, 63, 0), (64, 64, 0), (65, 65, 0), (66, 66, 0), (68, 75, 0), (72, 72, 0), (73, 73, 0), (74, 74, 0), (76, 76, 0), (77, 77, 0), (78, 78, 4), (78, 78, 7), (78, 78, 9), (78, 78, 10), (78, 78, 12), (78, 78, 14), (79, 79, 0), (80, 80, 0), (82, 82, 0), (83, 83, 0), (84, 84, 0), (85, 85, 0), (87, 87, 0), (88, 88, 0), (89, 89, 0), (90, 90, 0), (91, 91, 0), (93, 95, 0), (97, 97, 0), (98, 98, 0), (99, 99, 0), (100, 100, 6), (100, 100, 7), (102, 102, 0), (102, 123, 0), (103, 103, 0), (104, 104, 0), (105, 105, 0), (106, 106, 0), (107, 107, 0), (108, 108, 0), (109, 109, 0), (110, 110, 0), (111, 111, 0), (112, 112, 0), (113, 113, 0), (115, 115, 0), (116, 116, 0), (117, 117, 0), (119, 119, 0), (120, 120, 0), (121, 121, 0), (125, 125, 4), (126, 126, 0), (127, 127, 0), (128, 128, 0), (130, 137, 0), (138, 138, 4), (138, 138, 10), (138, 138, 11), (138, 138, 13), (140, 140, 0), (141, 141, 0), (142, 142, 0), (143, 143, 0), (144, 144, 0), (146, 157, 0), (158, 158, 0), (160, 171, 0), (172, 172, 0), (173, 173, 0), (174, 174, 0), (175, 175, 0), (177, 177, 0), (177, 179, 0), (178, 178, 0), (179, 179, 0), (180, 180, 0), (181, 181, 0), (183, 191, 0), (193, 448, 0), (449, 449, 5), (449, 449, 7), (451, 451, 0), (452, 452, 0), (453, 453, 0), (454, 454, 0), (455, 455, 0), (456, 456, 0), (457, 457, 0), (459, 459, 0), (460, 460, 0), (461, 461, 0), (462, 462, 0), (463, 463, 0), (464, 464, 0), (466, 545, 0), (546, 546, 0), (547, 547, 0), (548, 548, 0)]
theorem fr_fPH_forward {s : ev_M} {a1 : Int32} {a2 : Int32} {a3 : Int32} {a4 : Int32} {q : ev_M × Int32} (h : fPH_forward s a1 a2 a3 a4 = some q) : fr F_PH_forward s q.1 := by
  have g : fr F_PH_forward s s := fr.rf
  refine fr_bd2 h fun s1 v2 hc h => ?_
  have gs1 : fr F_PH_forward s s1 := g.tr ((fr_fLog_stages hc).mono (F := F_PH_forward) (by decide +kernel))
  refine fr_if h (fun h => ?_) fun h => ?_
  · cases h; exact gs1
  · refine fr_bd2 h fun s3 v4 hc h => ?_
    have gs3 : fr F_PH_forward s s3 := gs1.tr ((fr_fPH_act_1 hc).mono (F := F_PH_forward) (by decide +kernel))
    cases h; exact gs3
def F_M_call4 : List (Nat × (Nat × Nat)) := [(549, 549, 1), (549, 549, 3), (549, 549, 10), (549, 549, 11), (549, 549, 14), (549, 549, 15), (549, 549, 16), (549, 549, 17), (549, 549, 23), (549, 549, 24), (549, 549, 25), (549, 549, 28), (549, 549, 34), (549, 549, 39), (549, 549, 44), (549, 549, 49), (549, 549, 50), (549, 549, 51), (549, 549, 52), (549, 549, 59), (549, 549, 84), (549, 549, 85), (549, 549, 86), (549, 549, 87), (549, 549, 88), (549, 549, 92), (549, 549, 94), (549, 549, 102), (549, 549, 108), (549, 549, 112), (549, 549, 115), (549, 549, 120), (549, 549, 126), (549, 549, 130), (549, 549, 135), (549, 549, 140), (549, 549, 141), (549, 549, 142), (549, 549, 147), (549, 549, 153), (549, 549, 154), (549, 549, 167), (552, 552, 0), (553, 553, 0), (554, 554, 0), (558, 558, 0), (559, 559, 0), (560, 560, 0), (561, 561, 0), (562, 562, 0), (563, 563, 0), (564, 564, 0), (565, 565, 0), (566, 566, 0), (567, 567, 0), (568, 568, 0), (569, 569, 0), (570, 570, 0), (571, 571, 0), (572, 572, 0), (573, 573, 0), (574, 574, 0), (575, 575, 0), (576, 576, 0), (577, 577, 0), (578, 578, 0), (579, 579, 0), (580, 580, 0), (581, 581, 0), (582, 582, 0), (583, 583, 0), (584, 584, 0), (585, 585, 0), (586, 586, 0), (587, 587, 0), (588, 588, 0), (589, 589, 0), (590, 590, 0), (591, 591, 0), (592, 592, 0), (593, 593, 0), (594, 594, 0), (595, 595, 0), (596, 596, 0), (597, 597, 0), (598, 598, 0), (599, 599, 0), (600, 600, 0), (601, 601, 0), (602, 602, 0), (603, 603, 0), (604, 604, 0), (605, 605, 0), (606, 606, 0), (607, 607, 0), (608, 608, 0), (609, 609, 0), (610, 610, 0), (611, 611, 0), (612, 612, 0), (613, 613, 0), (614, 614, 0), (615, 615, 0), (616, 616, 0), (617, 617, 0), (618, 618, 0), (619, 619, 0), (620, 620, 0), (621, 621, 0), (622, 622, 0), (623, 623, 0), (624, 624, 0), (625, 625, 0), (626, 626, 0), (627, 627, 0), (628, 628, 0), (629, 629, 0), (630, 630, 0), (631, 631, 0), (632, 632, 0), (633, 633, 0), (634, 634, 0), (635, 635, 0), (636, 636, 0), (637, 637, 0), (638, 638, 0), (639, 639, 0), (640, 640, 0), (641, 641, 0), (642, 642, 0), (643, 643, 0), (644, 644, 0), (645, 645, 0), (646, 646, 0), (647, 647, 0), (648, 648, 0), (649, 649, 0), (650, 650, 0), (651, 651, 0), (652, 652, 0), (653, 653, 0), (654, 654, 0), (655, 655, 0), (656, 656, 0), (658, 658, 0), (659, 659, 0), (664, 664, 0), (665, 665, 0), (666, 666, 0), (667, 667, 0), (668, 668, 0), (669, 669, 0), (670, 670, 0), (671, 671, 0), (672, 672, 0), (673, 673, 0), (674, 674, 0), (675, 675, 0), (676, 676, 0), (677, 677, 0), (678, 678, 0), (679, 679, 0), (680, 680, 0)]
theorem fr_fM_call4 {s : ev_M} {a1 : Int32} {a2 : Int32} {a3 : Int32} {a4 : Int32} {a5 : Int32} {q : ev_M × Int32} (h : fM_call4 s a1 a2 a3 a4 a5 = some q) : fr F_M_call4 s q.1 := by
  have g : fr F_M_call4 s s := fr.rf
  refine fr_ltM h (Q := fr F_M_call4 s) (g.wI rfl) fun s1 gs1 h => ?_
  refine fr_bd2 h fun s2 v3 hc h => ?_
  have gs2 : fr F_M_call4 s s2 := gs1.tr ((fr_fM_call3 hc).mono (F := F_M_call4) (by decide +kernel))
  cases h; exact gs2
def F_M_forward : List (Nat × (Nat × Nat)) := [(549, 549, 1), (549, 549, 3), (549, 549, 10), (549, 549, 11), (549, 549, 14), (549, 549, 15), (549, 549, 16), (549, 549, 17), (549, 549, 23), (549, 549, 24), (549, 549, 25), (549, 549, 28), (549, 549, 34), (549, 549, 39), (549, 549, 44), (549, 549, 49), (549, 549, 50), (549, 549, 51), (549, 549, 52), (549, 549, 59), (549, 549, 84), (549, 549, 85), (549, 549, 86), (549, 549, 87), (549, 549, 88), (549, 549, 92), (549, 549, 94), (549, 549, 102), (549, 549, 108), (549, 549, 112), (549, 549, 115), (549, 549, 120), (549, 549, 126), (549, 549, 130), (549, 549, 135), (549, 549, 140), (549, 549, 141), (549, 549, 142), (549, 549, 147), (549, 549, 153), (549, 549, 154), (549, 549, 167), (552, 552, 0), (553, 553, 0), (554, 554, 0), (558, 558, 0), (559, 559, 0), (560, 560, 0), (561, 561, 0), (562, 562, 0), (563, 563, 0), (564, 564, 0), (565, 565, 0), (566, 566, 0), (567, 567, 0), (568, 568, 0), (569, 569, 0), (570, 570, 0), (571, 571, 0), (572, 572, 0), (573, 573, 0), (574, 574, 0), (575, 575, 0), (576, 576, 0), (577, 577, 0), (578, 578, 0), (579, 579, 0), (580, 580, 0), (581, 581, 0), (582, 582, 0), (583, 583, 0), (584, 584, 0), (585, 585, 0), (586, 586, 0), (587, 587, 0), (588, 588, 0), (589, 589, 0), (590, 590, 0), (591, 591, 0), (592, 592, 0), (593, 593, 0), (594, 594, 0), (595, 595, 0), (596, 596, 0), (597, 597, 0), (598, 598, 0), (599, 599, 0), (600, 600, 0), (601, 601, 0), (602, 602, 0), (603, 603, 0), (604, 604, 0), (605, 605, 0), (606, 606, 0), (607, 607, 0), (608, 608, 0), (609, 609, 0), (610, 610, 0), (611, 611, 0), (612, 612, 0), (613, 613, 0), (614, 614, 0), (615, 615, 0), (616, 616, 0), (617, 617, 0), (618, 618, 0), (619, 619, 0), (620, 620, 0), (621, 621, 0), (622, 622, 0), (623, 623, 0), (624, 624, 0), (625, 625, 0), (626, 626, 0), (627, 627, 0), (628, 628, 0), (629, 629, 0), (630, 630, 0), (631, 631, 0), (632, 632, 0), (633, 633, 0), (634, 634, 0), (635, 635, 0), (636, 636, 0), (637, 637, 0), (638, 638, 0), (639, 639, 0), (640, 640, 0), (641, 641, 0), (642, 642, 0), (643, 643, 0), (644, 644, 0), (645, 645, 0), (646, 646, 0), (647, 647, 0), (648, 648, 0), (649, 649, 0), (650, 650, 0), (651, 651, 0), (652, 652, 0), (653, 653, 0), (654, 654, 0), (655, 655, 0), (656, 656, 0), (658, 658, 0), (659, 659, 0), (664, 664, 0), (665, 665, 0), (666, 666, 0), (667, 667, 0), (668, 668, 0), (669, 669, 0), (670, 670, 0), (671, 671, 0), (672, 672, 0), (673, 673, 0), (674, 674, 0), (675, 675, 0), (676, 676, 0), (677, 677, 0), (678, 678, 0), (679, 679, 0), (680, 680, 0)]
theorem fr_fM_forward {s : ev_M} {a1 : Int32} {a2 : Int32} {a3 : Int32} {a4 : Int32} {q : ev_M × Int32} (h : fM_forward s a1 a2 a3 a4 = some q) : fr F_M_forward s q.1 := by
  have g : fr F_M_forward s s := fr.rf
  refine fr_bd2 h fun s1 v2 hc h => ?_
  have gs1 : fr F_M_forward s s1 := g.tr ((fr_fM_call4 hc).mono (F := F_M_forward) (by decide +kernel))
  cases h; exact gs1
def F_PH_hold : List (Nat × (Nat × Nat)) := [(1, 1, 3), (1, 1, 5), (1, 1, 6), (3, 3, 0), (9, 9, 7), (9, 9, 8), (9, 9, 14), (9, 9, 15), (13, 13, 0), (14, 14, 0), (15, 15, 2), (15, 15, 3), (15, 15, 8), (17, 17, 0), (18, 18, 0), (19, 19, 0), (20, 20, 0), (21, 21, 0), (22, 22, 0), (24, 24, 0), (25, 25, 0), (26, 26, 0), (27, 27, 0), (28, 28, 0), (29, 29, 0), (30, 30, 3), (30, 30, 5), (30, 30, 8), (30, 30, 10), (30, 30, 12), (30, 30, 15), (30, 30, 16), (31, 31, 0), (33, 33, 0), (34, 34, 0), (35, 35, 0), (36, 36, 0), (37, 37, 0), (39, 39, 0), (40, 40, 0), (41, 41, 0), (42, 42, 0), (44, 44, 0), (45, 45, 0), (47, 47, 0), (48, 48, 0), (49, 49, 0), (50, 50, 0), (51, 51, 0), (52, 52, 3), (52, 52, 4), (52, 52, 5), (52, 52, 6), (52, 52, 9), (52, 52, 10), (52, 52, 14), (53, 53, 0), (54, 54, 0), (56, 56, 0), (57, 57, 0), (58, 58, 0), (59, 59, 0), (60, 60, 0), (61, 61, 0), (63, 63, 0), (64, 64, 0), (65, 65, 0), (66, 66, 0), (68, 75, 0), (72, 72, 0), (73, 73, 0), (74, 74, 0), (76, 76, 0), (77, 77, 0), (78, 78, 4), (78, 78, 7), (78, 78, 9), (78, 78, 10), (78, 78, 12), (78, 78, 14), (79, 79, 0), (80, 80, 0), (82, 82, 0), (83, 83, 0), (84, 84, 0), (85, 85, 0), (87, 87, 0), (88, 88, 0), (89, 89, 0), (90, 90, 0), (91, 91, 0), (93, 95, 0), (97, 97, 0), (98, 98, 0), (99, 99, 0), (100, 100, 6), (100, 100, 7), (102, 102, 0), (102, 123, 0), (103, 103, 0), (104, 104, 0), (105, 105, 0), (106, 106, 0), (107, 107, 0), (108, 108, 0), (109, 109, 0), (110, 110, 0), (111, 111, 0), (112, 112, 0), (113, 113, 0), (115, 115, 0), (116, 116, 0), (117, 117, 0), (119, 119, 0), (120, 120, 0), (121, 121, 0), (125, 125, 4), (126, 126, 0), (127, 127, 0), (128, 128, 0), (130, 137, 0), (138, 138, 4), (138, 138, 10), (138, 138, 11), (138, 138, 13), (140, 140, 0), (141, 141, 0), (142, 142, 0), (143, 143, 0), (144, 144, 0), (146, 157, 0), (158, 158, 0), (160, 171, 0), (172, 172, 0), (173, 173, 0), (174, 174, 0), (175, 175, 0), (177, 177, 0), (177, 179, 0), (178, 178, 0), (179, 179, 0), (180, 180, 0), (181, 181, 0), (183, 191, 0), (193, 448, 0), (449, 449, 5), (449, 449, 7), (451, 451, 0), (452, 452, 0), (453, 453, 0), (454, 454, 0), (455, 455, 0), (456, 456, 0), (457, 457, 0), (459, 459, 0), (460, 460, 0), (461, 461, 0), (462, 462, 0), (463, 463, 0), (464, 464, 0), (466, 545, 0), (546, 546, 0), (547, 547, 0), (548, 548, 0)]
theorem fr_fPH_hold {s : ev_M} {a1 : Int32} {a2 : Int32} {a3 : Int32} {q : ev_M × Int32} (h : fPH_hold s a1 a2 a3 = some q) : fr F_PH_hold s q.1 := by
  have g : fr F_PH_hold s s := fr.rf
  refine fr_bd2 h fun s1 v2 hc h => ?_
  have gs1 : fr F_PH_hold s s1 := g.tr ((fr_fLog_stages hc).mono (F := F_PH_hold) (by decide +kernel))
  refine fr_if h (fun h => ?_) fun h => ?_
  · cases h; exact gs1
  · refine fr_bd2 h fun s3 v4 hc h => ?_
    have gs3 : fr F_PH_hold s s3 := gs1.tr ((fr_fPH_act_1 hc).mono (F := F_PH_hold) (by decide +kernel))
    cases h; exact gs3
def F_M_hold : List (Nat × (Nat × Nat)) := [(549, 549, 1), (549, 549, 3), (549, 549, 10), (549, 549, 11), (549, 549, 14), (549, 549, 15), (549, 549, 16), (549, 549, 17), (549, 549, 23), (549, 549, 24), (549, 549, 25), (549, 549, 28), (549, 549, 34), (549, 549, 39), (549, 549, 44), (549, 549, 49), (549, 549, 50), (549, 549, 51), (549, 549, 52), (549, 549, 59), (549, 549, 84), (549, 549, 85), (549, 549, 86), (549, 549, 87), (549, 549, 88), (549, 549, 92), (549, 549, 94), (549, 549, 102), (549, 549, 108), (549, 549, 112), (549, 549, 115), (549, 549, 120), (549, 549, 126), (549, 549, 130), (549, 549, 135), (549, 549, 140), (549, 549, 141), (549, 549, 142), (549, 549, 147), (549, 549, 153), (549, 549, 154), (549, 549, 167), (552, 552, 0), (553, 553, 0), (554, 554, 0), (558, 558, 0), (559, 559, 0), (560, 560, 0), (561, 561, 0), (562, 562, 0), (563, 563, 0), (564, 564, 0), (565, 565, 0), (566, 566, 0), (567, 567, 0), (568, 568, 0), (569, 569, 0), (570, 570, 0), (571, 571, 0), (572, 572, 0), (573, 573, 0), (574, 574, 0), (575, 575, 0), (576, 576, 0), (577, 577, 0), (578, 578, 0), (579, 579, 0), (580, 580, 0), (581, 581, 0), (582, 582, 0), (583, 583, 0), (584, 584, 0), (585, 585, 0), (586, 586, 0), (587, 587, 0), (588, 588, 0), (589, 589, 0), (590, 590, 0), (591, 591, 0), (592, 592, 0), (593, 593, 0), (594, 594, 0), (595, 595, 0), (596, 596, 0), (597, 597, 0), (598, 598, 0), (599, 599, 0), (600, 600, 0), (601, 601, 0), (602, 602, 0), (603, 603, 0), (604, 604, 0), (605, 605, 0), (606, 606, 0), (607, 607, 0), (608, 608, 0), (609, 609, 0), (610, 610, 0), (611, 611, 0), (612, 612, 0), (613, 613, 0), (614, 614, 0), (615, 615, 0), (616, 616, 0), (617, 617, 0), (618, 618, 0), (619, 619, 0), (620, 620, 0), (621, 621, 0), (622, 622, 0), (623, 623, 0), (624, 624, 0), (625, 625, 0), (626, 626, 0), (627, 627, 0), (628, 628, 0), (629, 629, 0), (630, 630, 0), (631, 631, 0), (632, 632, 0), (633, 633, 0), (634, 634, 0), (635, 635, 0), (636, 636, 0), (637, 637, 0), (638, 638, 0), (639, 639, 0), (640, 640, 0), (641, 641, 0), (642, 642, 0), (643, 643, 0), (644, 644, 0), (645, 645, 0), (646, 646, 0), (647, 647, 0), (648, 648, 0), (649, 649, 0), (650, 650, 0), (651, 651, 0), (652, 652, 0), (653, 653, 0), (654, 654, 0), (655, 655, 0), (656, 656, 0), (658, 658, 0), (659, 659, 0), (664, 664, 0), (665, 665, 0), (666, 666, 0), (667, 667, 0), (668, 668, 0), (669, 669, 0), (670, 670, 0), (671, 671, 0), (672, 672, 0), (673, 673, 0), (674, 674, 0), (675, 675, 0), (676, 676, 0), (677, 677, 0), (678, 678, 0), (679, 679, 0), (680, 680, 0)]
theorem fr_fM_hold {s : ev_M} {a1 : Int32} {a2 : Int32} {a3 : Int32} {q : ev_M × Int32} (h : fM_hold s a1 a2 a3 = some q) : fr F_M_hold s q.1 := by
  have g : fr F_M_hold s s := fr.rf
  refine fr_bd2 h fun s1 v2 hc h => ?_
  have gs1 : fr F_M_hold s s1 := g.tr ((fr_fM_call3 hc).mono (F := F_M_hold) (by decide +kernel))
  cases h; exact gs1
def F_Book_askedGoal : List (Nat × (Nat × Nat)) := [(30, 30, 15), (30, 30, 16), (51, 51, 0)]
theorem fr_fBook_askedGoal {s : ev_M} {a1 : Int32} {a2 : Int32} {q : ev_M × Int32} (h : fBook_askedGoal s a1 a2 = some q) : fr F_Book_askedGoal s q.1 := by
  have g : fr F_Book_askedGoal s s := fr.rf
  refine fr_bd1 h fun v1 hc h => ?_
  refine fr_if h (fun h => ?_) fun h => ?_
  · cases h; exact g
  · refine fr_bd1 h fun v2 hc h => ?_
    refine fr_if h (fun h => ?_) fun h => ?_
    · refine fr_bd2 h fun s3 v4 hc h => ?_
      have gs3 : fr F_Book_askedGoal s s3 := g.tr ((fr_fBook_goalFor hc).mono (F := F_Book_askedGoal) (by decide +kernel))
      cases h; exact gs3
    · cases h; exact g
def F_PH_effective : List (Nat × (Nat × Nat)) := [(30, 30, 15), (30, 30, 16), (51, 51, 0)]
theorem fr_fPH_effective {s : ev_M} {a1 : Int32} {a2 : Int32} {q : ev_M × Int32} (h : fPH_effective s a1 a2 = some q) : fr F_PH_effective s q.1 := by
  have g : fr F_PH_effective s s := fr.rf
  refine fr_if h (fun h => ?_) fun h => ?_
  · refine fr_bd2 h fun s1 v2 hc h => ?_
    have gs1 : fr F_PH_effective s s1 := g.tr ((fr_fBook_askedGoal hc).mono (F := F_PH_effective) (by decide +kernel))
    cases h; exact gs1
  · cases h; exact g
def F_M_ask : List (Nat × (Nat × Nat)) := [(549, 549, 1), (549, 549, 142), (648, 648, 0)]
theorem fr_fM_ask {s : ev_M} {a1 : Int32} {a2 : Int32} {a3 : Int32} {q : ev_M × Int32} (h : fM_ask s a1 a2 a3 = some q) : fr F_M_ask s q.1 := by
  have g : fr F_M_ask s s := fr.rf
  refine fr_ltM h (Q := fr F_M_ask s) (g.wI rfl) fun s1 gs1 h => ?_
  refine fr_if h (fun h => ?_) fun h => ?_
  · refine fr_bd1 h fun v2 hc h => ?_
    refine fr_if h (fun h => ?_) fun h => ?_
    · cases h; exact gs1
    · refine fr_bd1 h fun v3 hc h => ?_
      refine fr_if h (fun h => ?_) fun h => ?_
      · cases h; exact gs1
      · refine fr_bd2 h fun s4 v5 hc h => ?_
        have gs4 : fr F_M_ask s s4 := gs1.tr ((fr_fM_effectiveOf hc).mono (F := F_M_ask) (by decide +kernel))
        refine fr_if h (fun h => ?_) fun h => ?_
        · cases h; exact gs4
        · cases h; exact gs4
  · cases h; exact gs1
def F_M_effective : List (Nat × (Nat × Nat)) := [(549, 549, 1), (549, 549, 142), (648, 648, 0)]
theorem fr_fM_effective {s : ev_M} {a1 : Int32} {a2 : Int32} {q : ev_M × Int32} (h : fM_effective s a1 a2 = some q) : fr F_M_effective s q.1 := by
  have g : fr F_M_effective s s := fr.rf
  refine fr_bd2 h fun s1 v2 hc h => ?_
  have gs1 : fr F_M_effective s s1 := g.tr ((fr_fM_ask hc).mono (F := F_M_effective) (by decide +kernel))
  cases h; exact gs1
def F_PH_lastPoint : List (Nat × (Nat × Nat)) := [(30, 30, 15), (30, 30, 16), (51, 51, 0)]
theorem fr_fPH_lastPoint_b35 {s : ev_M} {x3 : Int32} {q : ev_M × Int32} (h : fPH_lastPoint_b35 s x3 = some q) : fr F_PH_lastPoint s q.1 := by
  have g : fr F_PH_lastPoint s s := fr.rf
  cases h; exact g
theorem fr_fPH_lastPoint {s : ev_M} {a1 : Int32} {a2 : Int32} {q : ev_M × Int32} (h : fPH_lastPoint s a1 a2 = some q) : fr F_PH_lastPoint s q.1 := by
  have g : fr F_PH_lastPoint s s := fr.rf
  refine fr_if h (fun h => ?_) fun h => ?_
  · refine fr_bd2 h fun s1 v2 hc h => ?_
    have gs1 : fr F_PH_lastPoint s s1 := g.tr ((fr_fBook_askedGoal hc).mono (F := F_PH_lastPoint) (by decide +kernel))
    refine fr_if h (fun h => ?_) fun h => ?_
    · exact gs1.tr ((fr_fPH_lastPoint_b35 h))
    · refine fr_if h (fun h => ?_) fun h => ?_
      · exact gs1.tr ((fr_fPH_lastPoint_b35 h))
      · cases h; exact gs1
  · cases h; exact g
def F_M_lastPoint : List (Nat × (Nat × Nat)) := [(549, 549, 1), (549, 549, 142), (648, 648, 0)]
theorem fr_fM_lastPoint {s : ev_M} {a1 : Int32} {a2 : Int32} {q : ev_M × Int32} (h : fM_lastPoint s a1 a2 = some q) : fr F_M_lastPoint s q.1 := by
  have g : fr F_M_lastPoint s s := fr.rf
  refine fr_bd2 h fun s1 v2 hc h => ?_
  have gs1 : fr F_M_lastPoint s s1 := g.tr ((fr_fM_ask hc).mono (F := F_M_lastPoint) (by decide +kernel))
  cases h; exact gs1
def F_M_find : List (Nat × (Nat × Nat)) := [(549, 549, 1)]
theorem fr_fM_find {s : ev_M} {a1 : Int32} {q : ev_M × Int32} (h : fM_find s a1 = some q) : fr F_M_find s q.1 := by
  have g : fr F_M_find s s := fr.rf
  refine fr_ltM h (Q := fr F_M_find s) (g.wI rfl) fun s1 gs1 h => ?_
  refine fr_if h (fun h => ?_) fun h => ?_
  · refine fr_bd1 h fun v2 hc h => ?_
    cases h; exact gs1
  · cases h; exact gs1
def F_M_pointAt : List (Nat × (Nat × Nat)) := [(549, 549, 1)]
theorem fr_fM_pointAt {s : ev_M} {a1 : Int32} {a2 : Int32} {q : ev_M × Int32} (h : fM_pointAt s a1 a2 = some q) : fr F_M_pointAt s q.1 := by
  have g : fr F_M_pointAt s s := fr.rf
  refine fr_ltM h (Q := fr F_M_pointAt s) (g.wI rfl) fun s1 gs1 h => ?_
  refine fr_if h (fun h => ?_) fun h => ?_
  · refine fr_bd1 h fun v2 hc h => ?_
    refine fr_if h (fun h => ?_) fun h => ?_
    · cases h; exact gs1
    · refine fr_if h (fun h => ?_) fun h => ?_
      · refine fr_gd h fun c0 h => ?_
        cases h; exact gs1
      · refine fr_if h (fun h => ?_) fun h => ?_
        · refine fr_gd h fun c0 h => ?_
          cases h; exact gs1
        · refine fr_if h (fun h => ?_) fun h => ?_
          · refine fr_bd1 h fun v3 hc h => ?_
            cases h; exact gs1
          · refine fr_if h (fun h => ?_) fun h => ?_
            · refine fr_bd1 h fun v4 hc h => ?_
              cases h; exact gs1
            · refine fr_if h (fun h => ?_) fun h => ?_
              · refine fr_bd1 h fun v5 hc h => ?_
                cases h; exact gs1
              · refine fr_if h (fun h => ?_) fun h => ?_
                · refine fr_gd h fun c0 h => ?_
                  cases h; exact gs1
                · cases h; exact gs1
  · cases h; exact gs1
def F_PH_sheet : List (Nat × (Nat × Nat)) := [(1, 1, 2), (1, 1, 3), (1, 1, 5), (1, 1, 6), (3, 3, 0), (9, 9, 7), (9, 9, 8), (9, 9, 14), (9, 9, 15), (13, 13, 0), (14, 14, 0), (15, 15, 2), (15, 15, 3), (15, 15, 8), (17, 17, 0), (18, 18, 0), (19, 19, 0), (20, 20, 0), (21, 21, 0), (22, 22, 0), (24, 24, 0), (25, 25, 0), (26, 26, 0), (27, 27, 0), (28, 28, 0), (29, 29, 0), (30, 30, 3), (30, 30, 5), (30, 30, 8), (30, 30, 10), (30, 30, 12), (30, 30, 15), (30, 30, 16), (31, 31, 0), (33, 33, 0), (34, 34, 0), (35, 35, 0), (36, 36, 0), (37, 37, 0), (39, 39, 0), (40, 40, 0), (41, 41, 0), (42, 42, 0), (44, 44, 0), (45, 45, 0), (47, 47, 0), (48, 48, 0), (49, 49, 0), (50, 50, 0), (51, 51, 0), (52, 52, 3), (52, 52, 4), (52, 52, 5), (52, 52, 6), (52, 52, 9), (52, 52, 10), (52, 52, 14), (53, 53, 0), (54, 54, 0), (56, 56, 0), (57, 57, 0), (58, 58, 0), (59, 59, 0), (60, 60, 0), (61, 61, 0), (63, 63, 0), (64, 64, 0), (65, 65, 0), (66, 66, 0), (68, 75, 0), (72, 72, 0), (73, 73, 0), (74, 74, 0), (76, 76, 0), (77, 77, 0), (78, 78, 4), (78, 78, 7), (78, 78, 9), (78, 78, 10), (78, 78, 12), (78, 78, 14), (79, 79, 0), (80, 80, 0), (82, 82, 0), (83, 83, 0), (84, 84, 0), (85, 85, 0), (87, 87, 0), (88, 88, 0), (89, 89, 0), (90, 90, 0), (91, 91, 0), (93, 95, 0), (97, 97, 0), (98, 98, 0), (99, 99, 0), (100, 100, 6), (100, 100, 7), (102, 102, 0), (102, 123, 0), (103, 103, 0), (104, 104, 0), (105, 105, 0), (106, 106, 0), (107, 107, 0), (108, 108, 0), (109, 109, 0), (110, 110, 0), (111, 111, 0), (112, 112, 0), (113, 113, 0), (115, 115, 0), (116, 116, 0), (117, 117, 0), (119, 119, 0), (120, 120, 0), (121, 121, 0), (125, 125, 4), (126, 126, 0), (127, 127, 0), (128, 128, 0), (130, 137, 0), (138, 138, 4), (138, 138, 10), (138, 138, 11), (138, 138, 13), (140, 140, 0), (141, 141, 0), (142, 142, 0), (143, 143, 0), (144, 144, 0), (146, 157, 0), (158, 158, 0), (160, 171, 0), (172, 172, 0), (173, 173, 0), (174, 174, 0), (175, 175, 0), (177, 177, 0), (177, 179, 0), (178, 178, 0), (179, 179, 0), (180, 180, 0), (181, 181, 0), (183, 191, 0), (193, 448, 0), (449, 449, 5), (449, 449, 7), (451, 451, 0), (452, 452, 0), (453, 453, 0), (454, 454, 0), (455, 455, 0), (456, 456, 0), (457, 457, 0), (459, 459, 0), (460, 460, 0), (461, 461, 0), (462, 462, 0), (463, 463, 0), (464, 464, 0), (466, 545, 0), (546, 546, 0), (547, 547, 0), (548, 548, 0)]
theorem fr_fPH_sheet {s : ev_M} {a1 : Int32} {q : ev_M × Int32} (h : fPH_sheet s a1 = some q) : fr F_PH_sheet s q.1 := by
  have g : fr F_PH_sheet s s := fr.rf
  refine fr_bd2 h fun s1 v2 hc h => ?_
  have gs1 : fr F_PH_sheet s s1 := g.tr ((fr_fLog_stages hc).mono (F := F_PH_sheet) (by decide +kernel))
  refine fr_if h (fun h => ?_) fun h => ?_
  · cases h; exact gs1
  · refine fr_bd2 h fun s3 v4 hc h => ?_
    have gs3 : fr F_PH_sheet s s3 := gs1.tr ((fr_fPH_act_1 hc).mono (F := F_PH_sheet) (by decide +kernel))
    refine fr_ltM h (Q := fr F_PH_sheet s) (gs3.wI rfl) fun s5 gs5 h => ?_
    cases h; exact gs5
def F_M_sheet : List (Nat × (Nat × Nat)) := [(549, 549, 1), (549, 549, 3), (549, 549, 10), (549, 549, 11), (549, 549, 14), (549, 549, 15), (549, 549, 16), (549, 549, 17), (549, 549, 23), (549, 549, 24), (549, 549, 25), (549, 549, 28), (549, 549, 34), (549, 549, 39), (549, 549, 44), (549, 549, 49), (549, 549, 50), (549, 549, 51), (549, 549, 52), (549, 549, 59), (549, 549, 84), (549, 549, 85), (549, 549, 86), (549, 549, 87), (549, 549, 88), (549, 549, 92), (549, 549, 94), (549, 549, 102), (549, 549, 108), (549, 549, 112), (549, 549, 115), (549, 549, 120), (549, 549, 126), (549, 549, 130), (549, 549, 135), (549, 549, 140), (549, 549, 141), (549, 549, 142), (549, 549, 147), (549, 549, 153), (549, 549, 154), (549, 549, 167), (552, 552, 0), (553, 553, 0), (554, 554, 0), (558, 558, 0), (559, 559, 0), (560, 560, 0), (561, 561, 0), (562, 562, 0), (563, 563, 0), (564, 564, 0), (565, 565, 0), (566, 566, 0), (567, 567, 0), (568, 568, 0), (569, 569, 0), (570, 570, 0), (571, 571, 0), (572, 572, 0), (573, 573, 0), (574, 574, 0), (575, 575, 0), (576, 576, 0), (577, 577, 0), (578, 578, 0), (579, 579, 0), (580, 580, 0), (581, 581, 0), (582, 582, 0), (583, 583, 0), (584, 584, 0), (585, 585, 0), (586, 586, 0), (587, 587, 0), (588, 588, 0), (589, 589, 0), (590, 590, 0), (591, 591, 0), (592, 592, 0), (593, 593, 0), (594, 594, 0), (595, 595, 0), (596, 596, 0), (597, 597, 0), (598, 598, 0), (599, 599, 0), (600, 600, 0), (601, 601, 0), (602, 602, 0), (603, 603, 0), (604, 604, 0), (605, 605, 0), (606, 606, 0), (607, 607, 0), (608, 608, 0), (609, 609, 0), (610, 610, 0), (611, 611, 0), (612, 612, 0), (613, 613, 0), (614, 614, 0), (615, 615, 0), (616, 616, 0), (617, 617, 0), (618, 618, 0), (619, 619, 0), (620, 620, 0), (621, 621, 0), (622, 622, 0), (623, 623, 0), (624, 624, 0), (625, 625, 0), (626, 626, 0), (627, 627, 0), (628, 628, 0), (629, 629, 0), (630, 630, 0), (631, 631, 0), (632, 632, 0), (633, 633, 0), (634, 634, 0), (635, 635, 0), (636, 636, 0), (637, 637, 0), (638, 638, 0), (639, 639, 0), (640, 640, 0), (641, 641, 0), (642, 642, 0), (643, 643, 0), (644, 644, 0), (645, 645, 0), (646, 646, 0), (647, 647, 0), (648, 648, 0), (649, 649, 0), (650, 650, 0), (651, 651, 0), (652, 652, 0), (653, 653, 0), (654, 654, 0), (655, 655, 0), (656, 656, 0), (658, 658, 0), (659, 659, 0), (664, 664, 0), (665, 665, 0), (666, 666, 0), (667, 667, 0), (668, 668, 0), (669, 669, 0), (670, 670, 0), (671, 671, 0), (672, 672, 0), (673, 673, 0), (674, 674, 0), (675, 675, 0), (676, 676, 0), (677, 677, 0), (678, 678, 0), (679, 679, 0), (680, 680, 0)]
theorem fr_fM_sheet {s : ev_M} {a1 : Int32} {q : ev_M × Int32} (h : fM_sheet s a1 = some q) : fr F_M_sheet s q.1 := by
  have g : fr F_M_sheet s s := fr.rf
  refine fr_bd2 h fun s1 v2 hc h => ?_
  have gs1 : fr F_M_sheet s s1 := g.tr ((fr_fM_call1 hc).mono (F := F_M_sheet) (by decide +kernel))
  cases h; exact gs1
def F_M_read : List (Nat × (Nat × Nat)) := [(549, 549, 1)]
theorem fr_fM_read {s : ev_M} {q : ev_M × Int32} (h : fM_read s = some q) : fr F_M_read s q.1 := by
  have g : fr F_M_read s s := fr.rf
  refine fr_ltM h (Q := fr F_M_read s) (g.wI rfl) fun s1 gs1 h => ?_
  refine fr_if h (fun h => ?_) fun h => ?_
  · refine fr_if h (fun h => ?_) fun h => ?_
    · cases h; exact gs1
    · cases h; exact gs1
  · cases h; exact gs1
def F_M_textLine : List (Nat × (Nat × Nat)) := [(549, 549, 1)]
theorem fr_fM_textLine_b120 {k60 : ev_M → Int32 → Int32 → Int32 → Int32 → Int32 → Option (ev_M × Int32)} (hk60 : ∀ {s : ev_M} {z1 : Int32} {z2 : Int32} {z3 : Int32} {z4 : Int32} {z5 : Int32} {q : ev_M × Int32} , k60 s z1 z2 z3 z4 z5 = some q → fr F_M_textLine s q.1) {s : ev_M} {x1 : Int32} {x2 : Int32} {x3 : Int32} {x5 : Int32} {y0 : Int32} {q : ev_M × Int32} (h : fM_textLine_b120 k60 s x1 x2 x3 x5 y0 = some q) : fr F_M_textLine s q.1 := by
  have g : fr F_M_textLine s s := fr.rf
  exact g.tr ((hk60 h))
theorem fr_fM_textLine_b95 {k60 : ev_M → Int32 → Int32 → Int32 → Int32 → Int32 → Option (ev_M × Int32)} (hk60 : ∀ {s : ev_M} {z1 : Int32} {z2 : Int32} {z3 : Int32} {z4 : Int32} {z5 : Int32} {q : ev_M × Int32} , k60 s z1 z2 z3 z4 z5 = some q → fr F_M_textLine s q.1) {s : ev_M} {x1 : Int32} {x2 : Int32} {x4 : Int32} {x5 : Int32} {y0 : Int32} {q : ev_M × Int32} (h : fM_textLine_b95 k60 s x1 x2 x4 x5 y0 = some q) : fr F_M_textLine s q.1 := by
  have g : fr F_M_textLine s s := fr.rf
  refine fr_gd h fun c0 h => ?_
  refine fr_if h (fun h => ?_) fun h => ?_
  · refine fr_gd h fun c1 h => ?_
    exact g.tr ((fr_fM_textLine_b120 hk60 h))
  · exact g.tr ((fr_fM_textLine_b120 hk60 h))
theorem fr_fM_textLine_h60 : ∀ (n : Nat) {s : ev_M} {x1 : Int32} {x2 : Int32} {x3 : Int32} {x4 : Int32} {x5 : Int32} {q : ev_M × Int32} , fM_textLine_h60 n s x1 x2 x3 x4 x5 = some q → fr F_M_textLine s q.1 := by
  intro n
  induction n with
  | zero => intro s x1 x2 x3 x4 x5 q h; cases h
  | succ n ih =>
    intro s x1 x2 x3 x4 x5 q h
    have g : fr F_M_textLine s s := fr.rf
    refine fr_gd h fun c0 h => ?_
    refine fr_if h (fun h => ?_) fun h => ?_
    · refine fr_gd h fun c1 h => ?_
      refine fr_if h (fun h => ?_) fun h => ?_
      · refine fr_gd h fun c2 h => ?_
        exact g.tr ((fr_fM_textLine_b95 ih h))
      · exact g.tr ((fr_fM_textLine_b95 ih h))
    · refine fr_if h (fun h => ?_) fun h => ?_
      · refine fr_gd h fun c1 h => ?_
        refine fr_gd h fun c2 h => ?_
        cases h; exact g
      · refine fr_if h (fun h => ?_) fun h => ?_
        · cases h; exact g
        · cases h; exact g
theorem fr_fM_textLine {s : ev_M} {a1 : Int32} {a2 : Int32} {q : ev_M × Int32} (h : fM_textLine s a1 a2 = some q) : fr F_M_textLine s q.1 := by
  have g : fr F_M_textLine s s := fr.rf
  refine fr_ltM h (Q := fr F_M_textLine s) (g.wI rfl) fun s1 gs1 h => ?_
  refine fr_if h (fun h => ?_) fun h => ?_
  · refine fr_bd1 h fun v2 hc h => ?_
    refine fr_if h (fun h => ?_) fun h => ?_
    · cases h; exact gs1
    · refine fr_bd1 h fun v3 hc h => ?_
      refine fr_if h (fun h => ?_) fun h => ?_
      · cases h; exact gs1
      · refine fr_gd h fun c0 h => ?_
        refine fr_ltI h fun v4 h => ?_
        exact gs1.tr ((fr_fM_textLine_h60 1048576 h))
  · cases h; exact gs1
def F_M_sign : List (Nat × (Nat × Nat)) := [(549, 549, 1)]
theorem fr_fM_sign {s : ev_M} {a1 : Int32} {a2 : Int32} {a3 : Int32} {q : ev_M × Int32} (h : fM_sign s a1 a2 a3 = some q) : fr F_M_sign s q.1 := by
  have g : fr F_M_sign s s := fr.rf
  refine fr_ltM h (Q := fr F_M_sign s) (g.wI rfl) fun s1 gs1 h => ?_
  refine fr_if h (fun h => ?_) fun h => ?_
  · refine fr_bd1 h fun v2 hc h => ?_
    refine fr_if h (fun h => ?_) fun h => ?_
    · cases h; exact gs1
    · refine fr_bd1 h fun v3 hc h => ?_
      refine fr_if h (fun h => ?_) fun h => ?_
      · cases h; exact gs1
      · refine fr_gd h fun c0 h => ?_
        refine fr_gd h fun c1 h => ?_
        refine fr_bd1 h fun v4 hc h => ?_
        refine fr_if h (fun h => ?_) fun h => ?_
        · cases h; exact gs1
        · refine fr_gd h fun c2 h => ?_
          refine fr_ltI h fun v5 h => ?_
          refine fr_if h (fun h => ?_) fun h => ?_
          · refine fr_gd h fun c3 h => ?_
            cases h; exact gs1
          · refine fr_if h (fun h => ?_) fun h => ?_
            · refine fr_gd h fun c3 h => ?_
              cases h; exact gs1
            · refine fr_if h (fun h => ?_) fun h => ?_
              · refine fr_gd h fun c3 h => ?_
                cases h; exact gs1
              · refine fr_if h (fun h => ?_) fun h => ?_
                · refine fr_gd h fun c3 h => ?_
                  cases h; exact gs1
                · refine fr_if h (fun h => ?_) fun h => ?_
                  · refine fr_gd h fun c3 h => ?_
                    cases h; exact gs1
                  · refine fr_if h (fun h => ?_) fun h => ?_
                    · refine fr_gd h fun c3 h => ?_
                      refine fr_bd1 h fun v6 hc h => ?_
                      cases h; exact gs1
                    · refine fr_if h (fun h => ?_) fun h => ?_
                      · refine fr_gd h fun c3 h => ?_
                        refine fr_bd1 h fun v7 hc h => ?_
                        cases h; exact gs1
                      · refine fr_gd h fun c3 h => ?_
                        refine fr_bd1 h fun v8 hc h => ?_
                        refine fr_if h (fun h => ?_) fun h => ?_
                        · cases h; exact gs1
                        · cases h; exact gs1
  · cases h; exact gs1
def F_PH_item : List (Nat × (Nat × Nat)) := [(1, 1, 3), (1, 1, 5), (1, 1, 6), (3, 3, 0), (9, 9, 7), (9, 9, 8), (9, 9, 14), (9, 9, 15), (13, 13, 0), (14, 14, 0), (15, 15, 2), (15, 15, 3), (15, 15, 8), (17, 17, 0), (18, 18, 0), (19, 19, 0), (20, 20, 0), (21, 21, 0), (22, 22, 0), (24, 24, 0), (25, 25, 0), (26, 26, 0), (27, 27, 0), (28, 28, 0), (29, 29, 0), (30, 30, 3), (30, 30, 5), (30, 30, 8), (30, 30, 10), (30, 30, 12), (30, 30, 15), (30, 30, 16), (31, 31, 0), (33, 33, 0), (34, 34, 0), (35, 35, 0), (36, 36, 0), (37, 37, 0), (39, 39, 0), (40, 40, 0), (41, 41, 0), (42, 42, 0), (44, 44, 0), (45, 45, 0), (47, 47, 0), (48, 48, 0), (49, 49, 0), (50, 50, 0), (51, 51, 0), (52, 52, 3), (52, 52, 4), (52, 52, 5), (52, 52, 6), (52, 52, 9), (52, 52, 10), (52, 52, 14), (53, 53, 0), (54, 54, 0), (56, 56, 0), (57, 57, 0), (58, 58, 0), (59, 59, 0), (60, 60, 0), (61, 61, 0), (63, 63, 0), (64, 64, 0), (65, 65, 0), (66, 66, 0), (68, 75, 0), (72, 72, 0), (73, 73, 0), (74, 74, 0), (76, 76, 0), (77, 77, 0), (78, 78, 4), (78, 78, 7), (78, 78, 9), (78, 78, 10), (78, 78, 12), (78, 78, 14), (79, 79, 0), (80, 80, 0), (82, 82, 0), (83, 83, 0), (84, 84, 0), (85, 85, 0), (87, 87, 0), (88, 88, 0), (89, 89, 0), (90, 90, 0), (91, 91, 0), (93, 95, 0), (97, 97, 0), (98, 98, 0), (99, 99, 0), (100, 100, 6), (100, 100, 7), (102, 102, 0), (102, 123, 0), (103, 103, 0), (104, 104, 0), (105, 105, 0), (106, 106, 0), (107, 107, 0), (108, 108, 0), (109, 109, 0), (110, 110, 0), (111, 111, 0), (112, 112, 0), (113, 113, 0), (115, 115, 0), (116, 116, 0), (117, 117, 0), (119, 119, 0), (120, 120, 0), (121, 121, 0), (125, 125, 4), (126, 126, 0), (127, 127, 0), (128, 128, 0), (130, 137, 0), (138, 138, 4), (138, 138, 10), (138, 138, 11), (138, 138, 13), (140, 140, 0), (141, 141, 0), (142, 142, 0), (143, 143, 0), (144, 144, 0), (146, 157, 0), (158, 158, 0), (160, 171, 0), (172, 172, 0), (173, 173, 0), (174, 174, 0), (175, 175, 0), (177, 177, 0), (177, 179, 0), (178, 178, 0), (179, 179, 0), (180, 180, 0), (181, 181, 0), (183, 191, 0), (193, 448, 0), (449, 449, 5), (449, 449, 7), (451, 451, 0), (452, 452, 0), (453, 453, 0), (454, 454, 0), (455, 455, 0), (456, 456, 0), (457, 457, 0), (459, 459, 0), (460, 460, 0), (461, 461, 0), (462, 462, 0), (463, 463, 0), (464, 464, 0), (466, 545, 0), (546, 546, 0), (547, 547, 0), (548, 548, 0)]
theorem fr_fPH_item {s : ev_M} {a1 : Int32} {a2 : Int32} {a3 : Int32} {a4 : Int32} {a5 : Int32} {a6 : Int32} {q : ev_M × Int32} (h : fPH_item s a1 a2 a3 a4 a5 a6 = some q) : fr F_PH_item s q.1 := by
  have g : fr F_PH_item s s := fr.rf
  refine fr_bd2 h fun s1 v2 hc h => ?_
  have gs1 : fr F_PH_item s s1 := g.tr ((fr_fLog_stages hc).mono (F := F_PH_item) (by decide +kernel))
  refine fr_if h (fun h => ?_) fun h => ?_
  · cases h; exact gs1
  · refine fr_bd2 h fun s3 v4 hc h => ?_
    have gs3 : fr F_PH_item s s3 := gs1.tr ((fr_fPH_act_1 hc).mono (F := F_PH_item) (by decide +kernel))
    cases h; exact gs3
def F_M_item : List (Nat × (Nat × Nat)) := [(549, 549, 1), (549, 549, 3), (549, 549, 10), (549, 549, 11), (549, 549, 14), (549, 549, 15), (549, 549, 16), (549, 549, 17), (549, 549, 23), (549, 549, 24), (549, 549, 25), (549, 549, 28), (549, 549, 34), (549, 549, 39), (549, 549, 44), (549, 549, 49), (549, 549, 50), (549, 549, 51), (549, 549, 52), (549, 549, 59), (549, 549, 84), (549, 549, 85), (549, 549, 86), (549, 549, 87), (549, 549, 88), (549, 549, 92), (549, 549, 94), (549, 549, 102), (549, 549, 108), (549, 549, 112), (549, 549, 115), (549, 549, 120), (549, 549, 126), (549, 549, 130), (549, 549, 135), (549, 549, 140), (549, 549, 141), (549, 549, 142), (549, 549, 147), (549, 549, 153), (549, 549, 154), (549, 549, 167), (552, 552, 0), (553, 553, 0), (554, 554, 0), (558, 558, 0), (559, 559, 0), (560, 560, 0), (561, 561, 0), (562, 562, 0), (563, 563, 0), (564, 564, 0), (565, 565, 0), (566, 566, 0), (567, 567, 0), (568, 568, 0), (569, 569, 0), (570, 570, 0), (571, 571, 0), (572, 572, 0), (573, 573, 0), (574, 574, 0), (575, 575, 0), (576, 576, 0), (577, 577, 0), (578, 578, 0), (579, 579, 0), (580, 580, 0), (581, 581, 0), (582, 582, 0), (583, 583, 0), (584, 584, 0), (585, 585, 0), (586, 586, 0), (587, 587, 0), (588, 588, 0), (589, 589, 0), (590, 590, 0), (591, 591, 0), (592, 592, 0), (593, 593, 0), (594, 594, 0), (595, 595, 0), (596, 596, 0), (597, 597, 0), (598, 598, 0), (599, 599, 0), (600, 600, 0), (601, 601, 0), (602, 602, 0), (603, 603, 0), (604, 604, 0), (605, 605, 0), (606, 606, 0), (607, 607, 0), (608, 608, 0), (609, 609, 0), (610, 610, 0), (611, 611, 0), (612, 612, 0), (613, 613, 0), (614, 614, 0), (615, 615, 0), (616, 616, 0), (617, 617, 0), (618, 618, 0), (619, 619, 0), (620, 620, 0), (621, 621, 0), (622, 622, 0), (623, 623, 0), (624, 624, 0), (625, 625, 0), (626, 626, 0), (627, 627, 0), (628, 628, 0), (629, 629, 0), (630, 630, 0), (631, 631, 0), (632, 632, 0), (633, 633, 0), (634, 634, 0), (635, 635, 0), (636, 636, 0), (637, 637, 0), (638, 638, 0), (639, 639, 0), (640, 640, 0), (641, 641, 0), (642, 642, 0), (643, 643, 0), (644, 644, 0), (645, 645, 0), (646, 646, 0), (647, 647, 0), (648, 648, 0), (649, 649, 0), (650, 650, 0), (651, 651, 0), (652, 652, 0), (653, 653, 0), (654, 654, 0), (655, 655, 0), (656, 656, 0), (658, 658, 0), (659, 659, 0), (664, 664, 0), (665, 665, 0), (666, 666, 0), (667, 667, 0), (668, 668, 0), (669, 669, 0), (670, 670, 0), (671, 671, 0), (672, 672, 0), (673, 673, 0), (674, 674, 0), (675, 675, 0), (676, 676, 0), (677, 677, 0), (678, 678, 0), (679, 679, 0), (680, 680, 0)]
theorem fr_fM_item {s : ev_M} {a1 : Int32} {a2 : Int32} {a3 : Int32} {a4 : Int32} {a5 : Int32} {a6 : Int32} {q : ev_M × Int32} (h : fM_item s a1 a2 a3 a4 a5 a6 = some q) : fr F_M_item s q.1 := by
  have g : fr F_M_item s s := fr.rf
  refine fr_ltM h (Q := fr F_M_item s) (g.wI rfl) fun s1 gs1 h => ?_
  refine fr_ltM h (Q := fr F_M_item s) (gs1.wI rfl) fun s2 gs2 h => ?_
  refine fr_bd2 h fun s3 v4 hc h => ?_
  have gs3 : fr F_M_item s s3 := gs2.tr ((fr_fM_call4 hc).mono (F := F_M_item) (by decide +kernel))
  cases h; exact gs3
def F_PH_address : List (Nat × (Nat × Nat)) := [(1, 1, 3), (1, 1, 5), (1, 1, 6), (3, 3, 0), (9, 9, 7), (9, 9, 8), (9, 9, 14), (9, 9, 15), (13, 13, 0), (14, 14, 0), (15, 15, 2), (15, 15, 3), (15, 15, 8), (17, 17, 0), (18, 18, 0), (19, 19, 0), (20, 20, 0), (21, 21, 0), (22, 22, 0), (24, 24, 0), (25, 25, 0), (26, 26, 0), (27, 27, 0), (28, 28, 0), (29, 29, 0), (30, 30, 3), (30, 30, 5), (30, 30, 8), (30, 30, 10), (30, 30, 12), (30, 30, 15), (30, 30, 16), (31, 31, 0), (33, 33, 0), (34, 34, 0), (35, 35, 0), (36, 36, 0), (37, 37, 0), (39, 39, 0), (40, 40, 0), (41, 41, 0), (42, 42, 0), (44, 44, 0), (45, 45, 0), (47, 47, 0), (48, 48, 0), (49, 49, 0), (50, 50, 0), (51, 51, 0), (52, 52, 3), (52, 52, 4), (52, 52, 5), (52, 52, 6), (52, 52, 9), (52, 52, 10), (52, 52, 14), (53, 53, 0), (54, 54, 0), (56, 56, 0), (57, 57, 0), (58, 58, 0), (59, 59, 0), (60, 60, 0), (61, 61, 0), (63, 63, 0), (64, 64, 0), (65, 65, 0), (66, 66, 0), (68, 75, 0), (72, 72, 0), (73, 73, 0), (74, 74, 0), (76, 76, 0), (77, 77, 0), (78, 78, 4), (78, 78, 7), (78, 78, 9), (78, 78, 10), (78, 78, 12), (78, 78, 14), (79, 79, 0), (80, 80, 0), (82, 82, 0), (83, 83, 0), (84, 84, 0), (85, 85, 0), (87, 87, 0), (88, 88, 0), (89, 89, 0), (90, 90, 0), (91, 91, 0), (93, 95, 0), (97, 97, 0), (98, 98, 0), (99, 99, 0), (100, 100, 6), (100, 100, 7), (102, 102, 0), (102, 123, 0), (103, 103, 0), (104, 104, 0), (105, 105, 0), (106, 106, 0), (107, 107, 0), (108, 108, 0), (109, 109, 0), (110, 110, 0), (111, 111, 0), (112, 112, 0), (113, 113, 0), (115, 115, 0), (116, 116, 0), (117, 117, 0), (119, 119, 0), (120, 120, 0), (121, 121, 0), (125, 125, 4), (126, 126, 0), (127, 127, 0), (128, 128, 0), (130, 137, 0), (138, 138, 4), (138, 138, 10), (138, 138, 11), (138, 138, 13), (140, 140, 0), (141, 141, 0), (142, 142, 0), (143, 143, 0), (144, 144, 0), (146, 157, 0), (158, 158, 0), (160, 171, 0), (172, 172, 0), (173, 173, 0), (174, 174, 0), (175, 175, 0), (177, 177, 0), (177, 179, 0), (178, 178, 0), (179, 179, 0), (180, 180, 0), (181, 181, 0), (183, 191, 0), (193, 448, 0), (449, 449, 5), (449, 449, 7), (451, 451, 0), (452, 452, 0), (453, 453, 0), (454, 454, 0), (455, 455, 0), (456, 456, 0), (457, 457, 0), (459, 459, 0), (460, 460, 0), (461, 461, 0), (462, 462, 0), (463, 463, 0), (464, 464, 0), (466, 545, 0), (546, 546, 0), (547, 547, 0), (548, 548, 0)]
theorem fr_fPH_address {s : ev_M} {a1 : Int32} {a2 : Int32} {q : ev_M × Int32} (h : fPH_address s a1 a2 = some q) : fr F_PH_address s q.1 := by
  have g : fr F_PH_address s s := fr.rf
  refine fr_bd2 h fun s1 v2 hc h => ?_
  have gs1 : fr F_PH_address s s1 := g.tr ((fr_fLog_stages hc).mono (F := F_PH_address) (by decide +kernel))
  refine fr_if h (fun h => ?_) fun h => ?_
  · cases h; exact gs1
  · refine fr_bd2 h fun s3 v4 hc h => ?_
    have gs3 : fr F_PH_address s s3 := gs1.tr ((fr_fPH_act_1 hc).mono (F := F_PH_address) (by decide +kernel))
    cases h; exact gs3
def F_M_address : List (Nat × (Nat × Nat)) := [(549, 549, 1), (549, 549, 3), (549, 549, 10), (549, 549, 11), (549, 549, 14), (549, 549, 15), (549, 549, 16), (549, 549, 17), (549, 549, 23), (549, 549, 24), (549, 549, 25), (549, 549, 28), (549, 549, 34), (549, 549, 39), (549, 549, 44), (549, 549, 49), (549, 549, 50), (549, 549, 51), (549, 549, 52), (549, 549, 59), (549, 549, 84), (549, 549, 85), (549, 549, 86), (549, 549, 87), (549, 549, 88), (549, 549, 92), (549, 549, 94), (549, 549, 102), (549, 549, 108), (549, 549, 112), (549, 549, 115), (549, 549, 120), (549, 549, 126), (549, 549, 130), (549, 549, 135), (549, 549, 140), (549, 549, 141), (549, 549, 142), (549, 549, 147), (549, 549, 153), (549, 549, 154), (549, 549, 167), (552, 552, 0), (553, 553, 0), (554, 554, 0), (558, 558, 0), (559, 559, 0), (560, 560, 0), (561, 561, 0), (562, 562, 0), (563, 563, 0), (564, 564, 0), (565, 565, 0), (566, 566, 0), (567, 567, 0), (568, 568, 0), (569, 569, 0), (570, 570, 0), (571, 571, 0), (572, 572, 0), (573, 573, 0), (574, 574, 0), (575, 575, 0), (576, 576, 0), (577, 577, 0), (578, 578, 0), (579, 579, 0), (580, 580, 0), (581, 581, 0), (582, 582, 0), (583, 583, 0), (584, 584, 0), (585, 585, 0), (586, 586, 0), (587, 587, 0), (588, 588, 0), (589, 589, 0), (590, 590, 0), (591, 591, 0), (592, 592, 0), (593, 593, 0), (594, 594, 0), (595, 595, 0), (596, 596, 0), (597, 597, 0), (598, 598, 0), (599, 599, 0), (600, 600, 0), (601, 601, 0), (602, 602, 0), (603, 603, 0), (604, 604, 0), (605, 605, 0), (606, 606, 0), (607, 607, 0), (608, 608, 0), (609, 609, 0), (610, 610, 0), (611, 611, 0), (612, 612, 0), (613, 613, 0), (614, 614, 0), (615, 615, 0), (616, 616, 0), (617, 617, 0), (618, 618, 0), (619, 619, 0), (620, 620, 0), (621, 621, 0), (622, 622, 0), (623, 623, 0), (624, 624, 0), (625, 625, 0), (626, 626, 0), (627, 627, 0), (628, 628, 0), (629, 629, 0), (630, 630, 0), (631, 631, 0), (632, 632, 0), (633, 633, 0), (634, 634, 0), (635, 635, 0), (636, 636, 0), (637, 637, 0), (638, 638, 0), (639, 639, 0), (640, 640, 0), (641, 641, 0), (642, 642, 0), (643, 643, 0), (644, 644, 0), (645, 645, 0), (646, 646, 0), (647, 647, 0), (648, 648, 0), (649, 649, 0), (650, 650, 0), (651, 651, 0), (652, 652, 0), (653, 653, 0), (654, 654, 0), (655, 655, 0), (656, 656, 0), (658, 658, 0), (659, 659, 0), (664, 664, 0), (665, 665, 0), (666, 666, 0), (667, 667, 0), (668, 668, 0), (669, 669, 0), (670, 670, 0), (671, 671, 0), (672, 672, 0), (673, 673, 0), (674, 674, 0), (675, 675, 0), (676, 676, 0), (677, 677, 0), (678, 678, 0), (679, 679, 0), (680, 680, 0)]
theorem fr_fM_address {s : ev_M} {a1 : Int32} {a2 : Int32} {q : ev_M × Int32} (h : fM_address s a1 a2 = some q) : fr F_M_address s q.1 := by
  have g : fr F_M_address s s := fr.rf
  refine fr_bd2 h fun s1 v2 hc h => ?_
  have gs1 : fr F_M_address s s1 := g.tr ((fr_fM_call2 hc).mono (F := F_M_address) (by decide +kernel))
  cases h; exact gs1
def F_PH_take : List (Nat × (Nat × Nat)) := [(1, 1, 3), (1, 1, 5), (1, 1, 6), (3, 3, 0), (9, 9, 7), (9, 9, 8), (9, 9, 14), (9, 9, 15), (13, 13, 0), (14, 14, 0), (15, 15, 2), (15, 15, 3), (15, 15, 8), (17, 17, 0), (18, 18, 0), (19, 19, 0), (20, 20, 0), (21, 21, 0), (22, 22, 0), (24, 24, 0), (25, 25, 0), (26, 26, 0), (27, 27, 0), (28, 28, 0), (29, 29, 0), (30, 30, 3), (30, 30, 5), (30, 30, 8), (30, 30, 10), (30, 30, 12), (30, 30, 15), (30, 30, 16), (31, 31, 0), (33, 33, 0), (34, 34, 0), (35, 35, 0), (36, 36, 0), (37, 37, 0), (39, 39, 0), (40, 40, 0), (41, 41, 0), (42, 42, 0), (44, 44, 0), (45, 45, 0), (47, 47, 0), (48, 48, 0), (49, 49, 0), (50, 50, 0), (51, 51, 0), (52, 52, 3), (52, 52, 4), (52, 52, 5), (52, 52, 6), (52, 52, 9), (52, 52, 10), (52, 52, 14), (53, 53, 0), (54, 54, 0), (56, 56, 0), (57, 57, 0), (58, 58, 0), (59, 59, 0), (60, 60, 0), (61, 61, 0), (63, 63, 0), (64, 64, 0), (65, 65, 0), (66, 66, 0), (68, 75, 0), (72, 72, 0), (73, 73, 0), (74, 74, 0), (76, 76, 0), (77, 77, 0), (78, 78, 4), (78, 78, 7), (78, 78, 9), (78, 78, 10), (78, 78, 12), (78, 78, 14), (79, 79, 0), (80, 80, 0), (82, 82, 0), (83, 83, 0), (84, 84, 0), (85, 85, 0), (87, 87, 0), (88, 88, 0), (89, 89, 0), (90, 90, 0), (91, 91, 0), (93, 95, 0), (97, 97, 0), (98, 98, 0), (99, 99, 0), (100, 100, 6), (100, 100, 7), (102, 102, 0), (102, 123, 0), (103, 103, 0), (104, 104, 0), (105, 105, 0), (106, 106, 0), (107, 107, 0), (108, 108, 0), (109, 109, 0), (110, 110, 0), (111, 111, 0), (112, 112, 0), (113, 113, 0), (115, 115, 0), (116, 116, 0), (117, 117, 0), (119, 119, 0), (120, 120, 0), (121, 121, 0), (125, 125, 4), (126, 126, 0), (127, 127, 0), (128, 128, 0), (130, 137, 0), (138, 138, 4), (138, 138, 10), (138, 138, 11), (138, 138, 13), (140, 140, 0), (141, 141, 0), (142, 142, 0), (143, 143, 0), (144, 144, 0), (146, 157, 0), (158, 158, 0), (160, 171, 0), (172, 172, 0), (173, 173, 0), (174, 174, 0), (175, 175, 0), (177, 177, 0), (177, 179, 0), (178, 178, 0), (179, 179, 0), (180, 180, 0), (181, 181, 0), (183, 191, 0), (193, 448, 0), (449, 449, 5), (449, 449, 7), (451, 451, 0), (452, 452, 0), (453, 453, 0), (454, 454, 0), (455, 455, 0), (456, 456, 0), (457, 457, 0), (459, 459, 0), (460, 460, 0), (461, 461, 0), (462, 462, 0), (463, 463, 0), (464, 464, 0), (466, 545, 0), (546, 546, 0), (547, 547, 0), (548, 548, 0)]
theorem fr_fPH_take {s : ev_M} {a1 : Int32} {q : ev_M × Int32} (h : fPH_take s a1 = some q) : fr F_PH_take s q.1 := by
  have g : fr F_PH_take s s := fr.rf
  refine fr_bd2 h fun s1 v2 hc h => ?_
  have gs1 : fr F_PH_take s s1 := g.tr ((fr_fLog_stages hc).mono (F := F_PH_take) (by decide +kernel))
  refine fr_if h (fun h => ?_) fun h => ?_
  · cases h; exact gs1
  · refine fr_bd2 h fun s3 v4 hc h => ?_
    have gs3 : fr F_PH_take s s3 := gs1.tr ((fr_fPH_act_1 hc).mono (F := F_PH_take) (by decide +kernel))
    cases h; exact gs3
def F_M_take : List (Nat × (Nat × Nat)) := [(549, 549, 1), (549, 549, 3), (549, 549, 10), (549, 549, 11), (549, 549, 14), (549, 549, 15), (549, 549, 16), (549, 549, 17), (549, 549, 23), (549, 549, 24), (549, 549, 25), (549, 549, 28), (549, 549, 34), (549, 549, 39), (549, 549, 44), (549, 549, 49), (549, 549, 50), (549, 549, 51), (549, 549, 52), (549, 549, 59), (549, 549, 84), (549, 549, 85), (549, 549, 86), (549, 549, 87), (549, 549, 88), (549, 549, 92), (549, 549, 94), (549, 549, 102), (549, 549, 108), (549, 549, 112), (549, 549, 115), (549, 549, 120), (549, 549, 126), (549, 549, 130), (549, 549, 135), (549, 549, 140), (549, 549, 141), (549, 549, 142), (549, 549, 147), (549, 549, 153), (549, 549, 154), (549, 549, 167), (552, 552, 0), (553, 553, 0), (554, 554, 0), (558, 558, 0), (559, 559, 0), (560, 560, 0), (561, 561, 0), (562, 562, 0), (563, 563, 0), (564, 564, 0), (565, 565, 0), (566, 566, 0), (567, 567, 0), (568, 568, 0), (569, 569, 0), (570, 570, 0), (571, 571, 0), (572, 572, 0), (573, 573, 0), (574, 574, 0), (575, 575, 0), (576, 576, 0), (577, 577, 0), (578, 578, 0), (579, 579, 0), (580, 580, 0), (581, 581, 0), (582, 582, 0), (583, 583, 0), (584, 584, 0), (585, 585, 0), (586, 586, 0), (587, 587, 0), (588, 588, 0), (589, 589, 0), (590, 590, 0), (591, 591, 0), (592, 592, 0), (593, 593, 0), (594, 594, 0), (595, 595, 0), (596, 596, 0), (597, 597, 0), (598, 598, 0), (599, 599, 0), (600, 600, 0), (601, 601, 0), (602, 602, 0), (603, 603, 0), (604, 604, 0), (605, 605, 0), (606, 606, 0), (607, 607, 0), (608, 608, 0), (609, 609, 0), (610, 610, 0), (611, 611, 0), (612, 612, 0), (613, 613, 0), (614, 614, 0), (615, 615, 0), (616, 616, 0), (617, 617, 0), (618, 618, 0), (619, 619, 0), (620, 620, 0), (621, 621, 0), (622, 622, 0), (623, 623, 0), (624, 624, 0), (625, 625, 0), (626, 626, 0), (627, 627, 0), (628, 628, 0), (629, 629, 0), (630, 630, 0), (631, 631, 0), (632, 632, 0), (633, 633, 0), (634, 634, 0), (635, 635, 0), (636, 636, 0), (637, 637, 0), (638, 638, 0), (639, 639, 0), (640, 640, 0), (641, 641, 0), (642, 642, 0), (643, 643, 0), (644, 644, 0), (645, 645, 0), (646, 646, 0), (647, 647, 0), (648, 648, 0), (649, 649, 0), (650, 650, 0), (651, 651, 0), (652, 652, 0), (653, 653, 0), (654, 654, 0), (655, 655, 0), (656, 656, 0), (658, 658, 0), (659, 659, 0), (664, 664, 0), (665, 665, 0), (666, 666, 0), (667, 667, 0), (668, 668, 0), (669, 669, 0), (670, 670, 0), (671, 671, 0), (672, 672, 0), (673, 673, 0), (674, 674, 0), (675, 675, 0), (676, 676, 0), (677, 677, 0), (678, 678, 0), (679, 679, 0), (680, 680, 0)]
theorem fr_fM_take {s : ev_M} {a1 : Int32} {q : ev_M × Int32} (h : fM_take s a1 = some q) : fr F_M_take s q.1 := by
  have g : fr F_M_take s s := fr.rf
  refine fr_bd2 h fun s1 v2 hc h => ?_
  have gs1 : fr F_M_take s s1 := g.tr ((fr_fM_call1 hc).mono (F := F_M_take) (by decide +kernel))
  cases h; exact gs1
def F_PH_clerk : List (Nat × (Nat × Nat)) := [(1, 1, 3), (1, 1, 5), (1, 1, 6), (3, 3, 0), (9, 9, 7), (9, 9, 8), (9, 9, 14), (9, 9, 15), (13, 13, 0), (14, 14, 0), (15, 15, 2), (15, 15, 3), (15, 15, 8), (17, 17, 0), (18, 18, 0), (19, 19, 0), (20, 20, 0), (21, 21, 0), (22, 22, 0), (24, 24, 0), (25, 25, 0), (26, 26, 0), (27, 27, 0), (28, 28, 0), (29, 29, 0), (30, 30, 3), (30, 30, 5), (30, 30, 8), (30, 30, 10), (30, 30, 12), (30, 30, 15), (30, 30, 16), (31, 31, 0), (33, 33, 0), (34, 34, 0), (35, 35, 0), (36, 36, 0), (37, 37, 0), (39, 39, 0), (40, 40, 0), (41, 41, 0), (42, 42, 0), (44, 44, 0), (45, 45, 0), (47, 47, 0), (48, 48, 0), (49, 49, 0), (50, 50, 0), (51, 51, 0), (52, 52, 3), (52, 52, 4), (52, 52, 5), (52, 52, 6), (52, 52, 9), (52, 52, 10), (52, 52, 14), (53, 53, 0), (54, 54, 0), (56, 56, 0), (57, 57, 0), (58, 58, 0), (59, 59, 0), (60, 60, 0), (61, 61, 0), (63, 63, 0), (64, 64, 0), (65, 65, 0), (66, 66, 0), (68, 75, 0), (72, 72, 0), (73, 73, 0), (74, 74, 0), (76, 76, 0), (77, 77, 0), (78, 78, 4), (78, 78, 7), (78, 78, 9), (78, 78, 10), (78, 78, 12), (78, 78, 14), (79, 79, 0), (80, 80, 0), (82, 82, 0), (83, 83, 0), (84, 84, 0), (85, 85, 0), (87, 87, 0), (88, 88, 0), (89, 89, 0), (90, 90, 0), (91, 91, 0), (93, 95, 0), (97, 97, 0), (98, 98, 0), (99, 99, 0), (100, 100, 6), (100, 100, 7), (102, 102, 0), (102, 123, 0), (103, 103, 0), (104, 104, 0), (105, 105, 0), (106, 106, 0), (107, 107, 0), (108, 108, 0), (109, 109, 0), (110, 110, 0), (111, 111, 0), (112, 112, 0), (113, 113, 0), (115, 115, 0), (116, 116, 0), (117, 117, 0), (119, 119, 0), (120, 120, 0), (121, 121, 0), (125, 125, 4), (126, 126, 0), (127, 127, 0), (128, 128, 0), (130, 137, 0), (138, 138, 4), (138, 138, 10), (138, 138, 11), (138, 138, 13), (140, 140, 0), (141, 141, 0), (142, 142, 0), (143, 143, 0), (144, 144, 0), (146, 157, 0), (158, 158, 0), (160, 171, 0), (172, 172, 0), (173, 173, 0), (174, 174, 0), (175, 175, 0), (177, 177, 0), (177, 179, 0), (178, 178, 0), (179, 179, 0), (180, 180, 0), (181, 181, 0), (183, 191, 0), (193, 448, 0), (449, 449, 5), (449, 449, 7), (451, 451, 0), (452, 452, 0), (453, 453, 0), (454, 454, 0), (455, 455, 0), (456, 456, 0), (457, 457, 0), (459, 459, 0), (460, 460, 0), (461, 461, 0), (462, 462, 0), (463, 463, 0), (464, 464, 0), (466, 545, 0), (546, 546, 0), (547, 547, 0), (548, 548, 0)]
theorem fr_fPH_clerk {s : ev_M} {a1 : Int32} {a2 : Int32} {a3 : Int32} {q : ev_M × Int32} (h : fPH_clerk s a1 a2 a3 = some q) : fr F_PH_clerk s q.1 := by
  have g : fr F_PH_clerk s s := fr.rf
  refine fr_bd2 h fun s1 v2 hc h => ?_
  have gs1 : fr F_PH_clerk s s1 := g.tr ((fr_fLog_stages hc).mono (F := F_PH_clerk) (by decide +kernel))
  refine fr_if h (fun h => ?_) fun h => ?_
  · cases h; exact gs1
  · refine fr_bd2 h fun s3 v4 hc h => ?_
    have gs3 : fr F_PH_clerk s s3 := gs1.tr ((fr_fPH_act_1 hc).mono (F := F_PH_clerk) (by decide +kernel))
    cases h; exact gs3
def F_M_clerk : List (Nat × (Nat × Nat)) := [(549, 549, 1), (549, 549, 3), (549, 549, 10), (549, 549, 11), (549, 549, 14), (549, 549, 15), (549, 549, 16), (549, 549, 17), (549, 549, 23), (549, 549, 24), (549, 549, 25), (549, 549, 28), (549, 549, 34), (549, 549, 39), (549, 549, 44), (549, 549, 49), (549, 549, 50), (549, 549, 51), (549, 549, 52), (549, 549, 59), (549, 549, 84), (549, 549, 85), (549, 549, 86), (549, 549, 87), (549, 549, 88), (549, 549, 92), (549, 549, 94), (549, 549, 102), (549, 549, 108), (549, 549, 112), (549, 549, 115), (549, 549, 120), (549, 549, 126), (549, 549, 130), (549, 549, 135), (549, 549, 140), (549, 549, 141), (549, 549, 142), (549, 549, 147), (549, 549, 153), (549, 549, 154), (549, 549, 167), (552, 552, 0), (553, 553, 0), (554, 554, 0), (558, 558, 0), (559, 559, 0), (560, 560, 0), (561, 561, 0), (562, 562, 0), (563, 563, 0), (564, 564, 0), (565, 565, 0), (566, 566, 0), (567, 567, 0), (568, 568, 0), (569, 569, 0), (570, 570, 0), (571, 571, 0), (572, 572, 0), (573, 573, 0), (574, 574, 0), (575, 575, 0), (576, 576, 0), (577, 577, 0), (578, 578, 0), (579, 579, 0), (580, 580, 0), (581, 581, 0), (582, 582, 0), (583, 583, 0), (584, 584, 0), (585, 585, 0), (586, 586, 0), (587, 587, 0), (588, 588, 0), (589, 589, 0), (590, 590, 0), (591, 591, 0), (592, 592, 0), (593, 593, 0), (594, 594, 0), (595, 595, 0), (596, 596, 0), (597, 597, 0), (598, 598, 0), (599, 599, 0), (600, 600, 0), (601, 601, 0), (602, 602, 0), (603, 603, 0), (604, 604, 0), (605, 605, 0), (606, 606, 0), (607, 607, 0), (608, 608, 0), (609, 609, 0), (610, 610, 0), (611, 611, 0), (612, 612, 0), (613, 613, 0), (614, 614, 0), (615, 615, 0), (616, 616, 0), (617, 617, 0), (618, 618, 0), (619, 619, 0), (620, 620, 0), (621, 621, 0), (622, 622, 0), (623, 623, 0), (624, 624, 0), (625, 625, 0), (626, 626, 0), (627, 627, 0), (628, 628, 0), (629, 629, 0), (630, 630, 0), (631, 631, 0), (632, 632, 0), (633, 633, 0), (634, 634, 0), (635, 635, 0), (636, 636, 0), (637, 637, 0), (638, 638, 0), (639, 639, 0), (640, 640, 0), (641, 641, 0), (642, 642, 0), (643, 643, 0), (644, 644, 0), (645, 645, 0), (646, 646, 0), (647, 647, 0), (648, 648, 0), (649, 649, 0), (650, 650, 0), (651, 651, 0), (652, 652, 0), (653, 653, 0), (654, 654, 0), (655, 655, 0), (656, 656, 0), (658, 658, 0), (659, 659, 0), (664, 664, 0), (665, 665, 0), (666, 666, 0), (667, 667, 0), (668, 668, 0), (669, 669, 0), (670, 670, 0), (671, 671, 0), (672, 672, 0), (673, 673, 0), (674, 674, 0), (675, 675, 0), (676, 676, 0), (677, 677, 0), (678, 678, 0), (679, 679, 0), (680, 680, 0)]
theorem fr_fM_clerk {s : ev_M} {a1 : Int32} {a2 : Int32} {a3 : Int32} {q : ev_M × Int32} (h : fM_clerk s a1 a2 a3 = some q) : fr F_M_clerk s q.1 := by
  have g : fr F_M_clerk s s := fr.rf
  refine fr_bd2 h fun s1 v2 hc h => ?_
  have gs1 : fr F_M_clerk s s1 := g.tr ((fr_fM_call3 hc).mono (F := F_M_clerk) (by decide +kernel))
  cases h; exact gs1
def F_PH_post : List (Nat × (Nat × Nat)) := [(1, 1, 3), (1, 1, 5), (1, 1, 6), (3, 3, 0), (9, 9, 7), (9, 9, 8), (9, 9, 14), (9, 9, 15), (13, 13, 0), (14, 14, 0), (15, 15, 2), (15, 15, 3), (15, 15, 8), (17, 17, 0), (18, 18, 0), (19, 19, 0), (20, 20, 0), (21, 21, 0), (22, 22, 0), (24, 24, 0), (25, 25, 0), (26, 26, 0), (27, 27, 0), (28, 28, 0), (29, 29, 0), (30, 30, 3), (30, 30, 5), (30, 30, 8), (30, 30, 10), (30, 30, 12), (30, 30, 15), (30, 30, 16), (31, 31, 0), (33, 33, 0), (34, 34, 0), (35, 35, 0), (36, 36, 0), (37, 37, 0), (39, 39, 0), (40, 40, 0), (41, 41, 0), (42, 42, 0), (44, 44, 0), (45, 45, 0), (47, 47, 0), (48, 48, 0), (49, 49, 0), (50, 50, 0), (51, 51, 0), (52, 52, 3), (52, 52, 4), (52, 52, 5), (52, 52, 6), (52, 52, 9), (52, 52, 10), (52, 52, 14), (53, 53, 0), (54, 54, 0), (56, 56, 0), (57, 57, 0), (58, 58, 0), (59, 59, 0), (60, 60, 0), (61, 61, 0), (63, 63, 0), (64, 64, 0), (65, 65, 0), (66, 66, 0), (68, 75, 0), (72, 72, 0), (73, 73, 0), (74, 74, 0), (76, 76, 0), (77, 77, 0), (78, 78, 4), (78, 78, 7), (78, 78, 9), (78, 78, 10), (78, 78, 12), (78, 78, 14), (79, 79, 0), (80, 80, 0), (82, 82, 0), (83, 83, 0), (84, 84, 0), (85, 85, 0), (87, 87, 0), (88, 88, 0), (89, 89, 0), (90, 90, 0), (91, 91, 0), (93, 95, 0), (97, 97, 0), (98, 98, 0), (99, 99, 0), (100, 100, 6), (100, 100, 7), (102, 102, 0), (102, 123, 0), (103, 103, 0), (104, 104, 0), (105, 105, 0), (106, 106, 0), (107, 107, 0), (108, 108, 0), (109, 109, 0), (110, 110, 0), (111, 111, 0), (112, 112, 0), (113, 113, 0), (115, 115, 0), (116, 116, 0), (117, 117, 0), (119, 119, 0), (120, 120, 0), (121, 121, 0), (125, 125, 4), (126, 126, 0), (127, 127, 0), (128, 128, 0), (130, 137, 0), (138, 138, 4), (138, 138, 10), (138, 138, 11), (138, 138, 13), (140, 140, 0), (141, 141, 0), (142, 142, 0), (143, 143, 0), (144, 144, 0), (146, 157, 0), (158, 158, 0), (160, 171, 0), (172, 172, 0), (173, 173, 0), (174, 174, 0), (175, 175, 0), (177, 177, 0), (177, 179, 0), (178, 178, 0), (179, 179, 0), (180, 180, 0), (181, 181, 0), (183, 191, 0), (193, 448, 0), (449, 449, 5), (449, 449, 7), (451, 451, 0), (452, 452, 0), (453, 453, 0), (454, 454, 0), (455, 455, 0), (456, 456, 0), (457, 457, 0), (459, 459, 0), (460, 460, 0), (461, 461, 0), (462, 462, 0), (463, 463, 0), (464, 464, 0), (466, 545, 0), (546, 546, 0), (547, 547, 0), (548, 548, 0)]
theorem fr_fPH_post {s : ev_M} {a1 : Int32} {a2 : Int32} {q : ev_M × Int32} (h : fPH_post s a1 a2 = some q) : fr F_PH_post s q.1 := by
  have g : fr F_PH_post s s := fr.rf
  refine fr_bd2 h fun s1 v2 hc h => ?_
  have gs1 : fr F_PH_post s s1 := g.tr ((fr_fLog_stages hc).mono (F := F_PH_post) (by decide +kernel))
  refine fr_if h (fun h => ?_) fun h => ?_
  · cases h; exact gs1
  · refine fr_bd2 h fun s3 v4 hc h => ?_
    have gs3 : fr F_PH_post s s3 := gs1.tr ((fr_fPH_act_1 hc).mono (F := F_PH_post) (by decide +kernel))
    cases h; exact gs3
def F_M_post : List (Nat × (Nat × Nat)) := [(549, 549, 1), (549, 549, 3), (549, 549, 10), (549, 549, 11), (549, 549, 14), (549, 549, 15), (549, 549, 16), (549, 549, 17), (549, 549, 23), (549, 549, 24), (549, 549, 25), (549, 549, 28), (549, 549, 34), (549, 549, 39), (549, 549, 44), (549, 549, 49), (549, 549, 50), (549, 549, 51), (549, 549, 52), (549, 549, 59), (549, 549, 84), (549, 549, 85), (549, 549, 86), (549, 549, 87), (549, 549, 88), (549, 549, 92), (549, 549, 94), (549, 549, 102), (549, 549, 108), (549, 549, 112), (549, 549, 115), (549, 549, 120), (549, 549, 126), (549, 549, 130), (549, 549, 135), (549, 549, 140), (549, 549, 141), (549, 549, 142), (549, 549, 147), (549, 549, 153), (549, 549, 154), (549, 549, 167), (552, 552, 0), (553, 553, 0), (554, 554, 0), (558, 558, 0), (559, 559, 0), (560, 560, 0), (561, 561, 0), (562, 562, 0), (563, 563, 0), (564, 564, 0), (565, 565, 0), (566, 566, 0), (567, 567, 0), (568, 568, 0), (569, 569, 0), (570, 570, 0), (571, 571, 0), (572, 572, 0), (573, 573, 0), (574, 574, 0), (575, 575, 0), (576, 576, 0), (577, 577, 0), (578, 578, 0), (579, 579, 0), (580, 580, 0), (581, 581, 0), (582, 582, 0), (583, 583, 0), (584, 584, 0), (585, 585, 0), (586, 586, 0), (587, 587, 0), (588, 588, 0), (589, 589, 0), (590, 590, 0), (591, 591, 0), (592, 592, 0), (593, 593, 0), (594, 594, 0), (595, 595, 0), (596, 596, 0), (597, 597, 0), (598, 598, 0), (599, 599, 0), (600, 600, 0), (601, 601, 0), (602, 602, 0), (603, 603, 0), (604, 604, 0), (605, 605, 0), (606, 606, 0), (607, 607, 0), (608, 608, 0), (609, 609, 0), (610, 610, 0), (611, 611, 0), (612, 612, 0), (613, 613, 0), (614, 614, 0), (615, 615, 0), (616, 616, 0), (617, 617, 0), (618, 618, 0), (619, 619, 0), (620, 620, 0), (621, 621, 0), (622, 622, 0), (623, 623, 0), (624, 624, 0), (625, 625, 0), (626, 626, 0), (627, 627, 0), (628, 628, 0), (629, 629, 0), (630, 630, 0), (631, 631, 0), (632, 632, 0), (633, 633, 0), (634, 634, 0), (635, 635, 0), (636, 636, 0), (637, 637, 0), (638, 638, 0), (639, 639, 0), (640, 640, 0), (641, 641, 0), (642, 642, 0), (643, 643, 0), (644, 644, 0), (645, 645, 0), (646, 646, 0), (647, 647, 0), (648, 648, 0), (649, 649, 0), (650, 650, 0), (651, 651, 0), (652, 652, 0), (653, 653, 0), (654, 654, 0), (655, 655, 0), (656, 656, 0), (658, 658, 0), (659, 659, 0), (664, 664, 0), (665, 665, 0), (666, 666, 0), (667, 667, 0), (668, 668, 0), (669, 669, 0), (670, 670, 0), (671, 671, 0), (672, 672, 0), (673, 673, 0), (674, 674, 0), (675, 675, 0), (676, 676, 0), (677, 677, 0), (678, 678, 0), (679, 679, 0), (680, 680, 0)]
theorem fr_fM_post {s : ev_M} {a1 : Int32} {a2 : Int32} {q : ev_M × Int32} (h : fM_post s a1 a2 = some q) : fr F_M_post s q.1 := by
  have g : fr F_M_post s s := fr.rf
  refine fr_bd2 h fun s1 v2 hc h => ?_
  have gs1 : fr F_M_post s s1 := g.tr ((fr_fM_call2 hc).mono (F := F_M_post) (by decide +kernel))
  cases h; exact gs1
def F_Items_tellAbout : List (Nat × (Nat × Nat)) := [(30, 30, 15), (30, 30, 16), (51, 51, 0)]
theorem fr_fItems_tellAbout {s : ev_M} {a1 : Int32} {a2 : Int32} {q : ev_M × Int32} (h : fItems_tellAbout s a1 a2 = some q) : fr F_Items_tellAbout s q.1 := by
  have g : fr F_Items_tellAbout s s := fr.rf
  refine fr_bd1 h fun v1 hc h => ?_
  refine fr_if h (fun h => ?_) fun h => ?_
  · refine fr_if h (fun h => ?_) fun h => ?_
    · refine fr_bd2 h fun s2 v3 hc h => ?_
      have gs2 : fr F_Items_tellAbout s s2 := g.tr ((fr_fItems_goalOf hc).mono (F := F_Items_tellAbout) (by decide +kernel))
      cases h; exact gs2
    · refine fr_if h (fun h => ?_) fun h => ?_
      · refine fr_bd1 h fun v4 hc h => ?_
        refine fr_bd1 h fun v5 hc h => ?_
        cases h; exact g
      · refine fr_gd h fun c0 h => ?_
        refine fr_gd h fun c1 h => ?_
        cases h; exact g
  · cases h; exact g
def F_PH_about : List (Nat × (Nat × Nat)) := [(30, 30, 15), (30, 30, 16), (51, 51, 0)]
theorem fr_fPH_about {s : ev_M} {a1 : Int32} {a2 : Int32} {q : ev_M × Int32} (h : fPH_about s a1 a2 = some q) : fr F_PH_about s q.1 := by
  have g : fr F_PH_about s s := fr.rf
  refine fr_if h (fun h => ?_) fun h => ?_
  · refine fr_bd1 h fun v1 hc h => ?_
    refine fr_if h (fun h => ?_) fun h => ?_
    · cases h; exact g
    · refine fr_bd2 h fun s2 v3 hc h => ?_
      have gs2 : fr F_PH_about s s2 := g.tr ((fr_fItems_tellAbout hc).mono (F := F_PH_about) (by decide +kernel))
      cases h; exact gs2
  · cases h; exact g
def F_M_about : List (Nat × (Nat × Nat)) := [(549, 549, 1), (549, 549, 142), (648, 648, 0)]
theorem fr_fM_about {s : ev_M} {a1 : Int32} {a2 : Int32} {q : ev_M × Int32} (h : fM_about s a1 a2 = some q) : fr F_M_about s q.1 := by
  have g : fr F_M_about s s := fr.rf
  refine fr_ltM h (Q := fr F_M_about s) (g.wI rfl) fun s1 gs1 h => ?_
  refine fr_if h (fun h => ?_) fun h => ?_
  · refine fr_bd1 h fun v2 hc h => ?_
    refine fr_if h (fun h => ?_) fun h => ?_
    · cases h; exact gs1
    · refine fr_if h (fun h => ?_) fun h => ?_
      · refine fr_gd h fun c0 h => ?_
        cases h; exact gs1
      · refine fr_if h (fun h => ?_) fun h => ?_
        · refine fr_gd h fun c0 h => ?_
          cases h; exact gs1
        · refine fr_if h (fun h => ?_) fun h => ?_
          · refine fr_gd h fun c0 h => ?_
            cases h; exact gs1
          · refine fr_if h (fun h => ?_) fun h => ?_
            · refine fr_gd h fun c0 h => ?_
              cases h; exact gs1
            · refine fr_if h (fun h => ?_) fun h => ?_
              · refine fr_gd h fun c0 h => ?_
                cases h; exact gs1
              · refine fr_if h (fun h => ?_) fun h => ?_
                · refine fr_gd h fun c0 h => ?_
                  cases h; exact gs1
                · refine fr_if h (fun h => ?_) fun h => ?_
                  · refine fr_gd h fun c0 h => ?_
                    cases h; exact gs1
                  · refine fr_if h (fun h => ?_) fun h => ?_
                    · refine fr_gd h fun c0 h => ?_
                      cases h; exact gs1
                    · refine fr_if h (fun h => ?_) fun h => ?_
                      · refine fr_gd h fun c0 h => ?_
                        cases h; exact gs1
                      · refine fr_if h (fun h => ?_) fun h => ?_
                        · refine fr_gd h fun c0 h => ?_
                          cases h; exact gs1
                        · refine fr_if h (fun h => ?_) fun h => ?_
                          · refine fr_gd h fun c0 h => ?_
                            refine fr_if h (fun h => ?_) fun h => ?_
                            · cases h; exact gs1
                            · cases h; exact gs1
                          · refine fr_if h (fun h => ?_) fun h => ?_
                            · refine fr_gd h fun c0 h => ?_
                              cases h; exact gs1
                            · refine fr_if h (fun h => ?_) fun h => ?_
                              · refine fr_bd2 h fun s3 v4 hc h => ?_
                                have gs3 : fr F_M_about s s3 := gs1.tr ((fr_fM_goalOf hc).mono (F := F_M_about) (by decide +kernel))
                                cases h; exact gs3
                              · refine fr_if h (fun h => ?_) fun h => ?_
                                · refine fr_gd h fun c0 h => ?_
                                  cases h; exact gs1
                                · refine fr_if h (fun h => ?_) fun h => ?_
                                  · refine fr_gd h fun c0 h => ?_
                                    cases h; exact gs1
                                  · refine fr_if h (fun h => ?_) fun h => ?_
                                    · refine fr_gd h fun c0 h => ?_
                                      cases h; exact gs1
                                    · refine fr_if h (fun h => ?_) fun h => ?_
                                      · refine fr_bd1 h fun v5 hc h => ?_
                                        refine fr_bd1 h fun v6 hc h => ?_
                                        cases h; exact gs1
                                      · cases h; exact gs1
  · cases h; exact gs1
def F_Bars_set : List (Nat × (Nat × Nat)) := [(8, 8, 0)]
theorem fr_fBars_set_h5 : ∀ (n : Nat) {s : ev_M} {x1 : Int32} {x3 : Int32} {x4 : Int32} {q : ev_M} , fBars_set_h5 n s x1 x3 x4 = some q → fr F_Bars_set s q := by
  intro n
  induction n with
  | zero => intro s x1 x3 x4 q h; cases h
  | succ n ih =>
    intro s x1 x3 x4 q h
    have g : fr F_Bars_set s s := fr.rf
    refine fr_if h (fun h => ?_) fun h => ?_
    · cases h; exact g
    · refine fr_if h (fun h => ?_) fun h => ?_
      · refine fr_gd h fun c0 h => ?_
        refine fr_ltM h (Q := fr F_Bars_set s) (g.wI rfl) fun s1 gs1 h => ?_
        refine fr_ltI h fun v2 h => ?_
        exact gs1.tr ((ih h))
      · cases h; exact g
theorem fr_fBars_set {s : ev_M} {a1 : Int32} {a2 : Int32} {a3 : Int32} {q : ev_M} (h : fBars_set s a1 a2 a3 = some q) : fr F_Bars_set s q := by
  have g : fr F_Bars_set s s := fr.rf
  refine fr_ltI h fun v3 h => ?_
  exact g.tr ((fr_fBars_set_h5 1048576 h))
def F_Bars_close : List (Nat × (Nat × Nat)) := [(8, 8, 0)]
theorem fr_fBars_close_b80 {k24 : ev_M → Int32 → Option ev_M} {k47 : ev_M → Int32 → Int32 → Int32 → Option ev_M} (hk24 : ∀ {s : ev_M} {z1 : Int32} {q : ev_M} , k24 s z1 = some q → fr F_Bars_close s q) (hk47 : ∀ {s : ev_M} {z1 : Int32} {z2 : Int32} {z3 : Int32} {q : ev_M} , k47 s z1 z2 z3 = some q → fr F_Bars_close s q) {s : ev_M} {x1 : Int32} {x2 : Int32} {x3 : Int32} {y0 : Int32} {q : ev_M} (h : fBars_close_b80 k24 k47 s x1 x2 x3 y0 = some q) : fr F_Bars_close s q := by
  have g : fr F_Bars_close s s := fr.rf
  refine fr_gd h fun c0 h => ?_
  refine fr_bd1 h fun v1 hc h => ?_
  refine fr_gd h fun c1 h => ?_
  refine fr_ltM h (Q := fr F_Bars_close s) (g.wI rfl) fun s2 gs2 h => ?_
  exact gs2.tr ((hk47 h))
theorem fr_fBars_close_h47 {k24 : ev_M → Int32 → Option ev_M} (hk24 : ∀ {s : ev_M} {z1 : Int32} {q : ev_M} , k24 s z1 = some q → fr F_Bars_close s q) : ∀ (n : Nat) {s : ev_M} {x1 : Int32} {x2 : Int32} {x3 : Int32} {q : ev_M} , fBars_close_h47 k24 n s x1 x2 x3 = some q → fr F_Bars_close s q := by
  intro n
  induction n with
  | zero => intro s x1 x2 x3 q h; cases h
  | succ n ih =>
    intro s x1 x2 x3 q h
    have g : fr F_Bars_close s s := fr.rf
    refine fr_if h (fun h => ?_) fun h => ?_
    · refine fr_if h (fun h => ?_) fun h => ?_
      · refine fr_gd h fun c0 h => ?_
        exact g.tr ((fr_fBars_close_b80 hk24 ih h))
      · exact g.tr ((fr_fBars_close_b80 hk24 ih h))
    · exact g.tr ((hk24 h))
theorem fr_fBars_close_h24 : ∀ (n : Nat) {s : ev_M} {x1 : Int32} {q : ev_M} , fBars_close_h24 n s x1 = some q → fr F_Bars_close s q := by
  intro n
  induction n with
  | zero => intro s x1 q h; cases h
  | succ n ih =>
    intro s x1 q h
    have g : fr F_Bars_close s s := fr.rf
    refine fr_if h (fun h => ?_) fun h => ?_
    · refine fr_gd h fun c0 h => ?_
      refine fr_ltI h fun v3 h => ?_
      exact g.tr ((fr_fBars_close_h47 ih 1048576 h))
    · cases h; exact g
theorem fr_fBars_close_h3 : ∀ (n : Nat) {s : ev_M} {x1 : Int32} {q : ev_M} , fBars_close_h3 n s x1 = some q → fr F_Bars_close s q := by
  intro n
  induction n with
  | zero => intro s x1 q h; cases h
  | succ n ih =>
    intro s x1 q h
    have g : fr F_Bars_close s s := fr.rf
    refine fr_if h (fun h => ?_) fun h => ?_
    · refine fr_gd h fun c0 h => ?_
      refine fr_ltM h (Q := fr F_Bars_close s) (g.wI rfl) fun s4 gs4 h => ?_
      exact gs4.tr ((ih h))
    · exact g.tr ((fr_fBars_close_h24 1048576 h))
theorem fr_fBars_close {s : ev_M} {q : ev_M} (h : fBars_close s = some q) : fr F_Bars_close s q := by
  have g : fr F_Bars_close s s := fr.rf
  exact g.tr ((fr_fBars_close_h3 1048576 h))
def F_Items_drawBars_7 : List (Nat × (Nat × Nat)) := [(8, 8, 0)]
theorem fr_fItems_drawBars_7 {s : ev_M} {a1 : Int32} {q : ev_M} (h : fItems_drawBars_7 s a1 = some q) : fr F_Items_drawBars_7 s q := by
  have g : fr F_Items_drawBars_7 s s := fr.rf
  refine fr_bd1 h fun s1 hc h => ?_
  have gs1 := g.tr ((fr_fBars_set hc).mono (F := F_Items_drawBars_7) (by decide +kernel))
  refine fr_gd h fun c0 h => ?_
  refine fr_bd1 h fun s2 hc h => ?_
  have gs2 := gs1.tr ((fr_fBars_set hc).mono (F := F_Items_drawBars_7) (by decide +kernel))
  refine fr_gd h fun c1 h => ?_
  refine fr_bd1 h fun s3 hc h => ?_
  have gs3 := gs2.tr ((fr_fBars_set hc).mono (F := F_Items_drawBars_7) (by decide +kernel))
  refine fr_gd h fun c2 h => ?_
  refine fr_bd1 h fun s4 hc h => ?_
  have gs4 := gs3.tr ((fr_fBars_set hc).mono (F := F_Items_drawBars_7) (by decide +kernel))
  refine fr_gd h fun c3 h => ?_
  refine fr_bd1 h fun s5 hc h => ?_
  have gs5 := gs4.tr ((fr_fBars_set hc).mono (F := F_Items_drawBars_7) (by decide +kernel))
  refine fr_bd1 h fun s6 hc h => ?_
  have gs6 := gs5.tr ((fr_fBars_close hc).mono (F := F_Items_drawBars_7) (by decide +kernel))
  cases h; exact gs6
def F_PH_bar : List (Nat × (Nat × Nat)) := [(8, 8, 0)]
theorem fr_fPH_bar {s : ev_M} {a1 : Int32} {a2 : Int32} {q : ev_M × Int32} (h : fPH_bar s a1 a2 = some q) : fr F_PH_bar s q.1 := by
  have g : fr F_PH_bar s s := fr.rf
  refine fr_if h (fun h => ?_) fun h => ?_
  · refine fr_bd1 h fun v1 hc h => ?_
    refine fr_if h (fun h => ?_) fun h => ?_
    · cases h; exact g
    · refine fr_bd1 h fun v2 hc h => ?_
      refine fr_if h (fun h => ?_) fun h => ?_
      · refine fr_bd1 h fun s3 hc h => ?_
        have gs3 := g.tr ((fr_fItems_drawBars_7 hc).mono (F := F_PH_bar) (by decide +kernel))
        refine fr_gd h fun c0 h => ?_
        cases h; exact gs3
      · cases h; exact g
  · cases h; exact g
def F_M_bars : List (Nat × (Nat × Nat)) := [(660, 660, 0)]
theorem fr_fM_bars_h162 : ∀ (n : Nat) {s : ev_M} {x4 : Int32} {x5 : Int32} {x6 : Int32} {x7 : Int32} {x8 : Int32} {q : ev_M} , fM_bars_h162 n s x4 x5 x6 x7 x8 = some q → fr F_M_bars s q := by
  intro n
  induction n with
  | zero => intro s x4 x5 x6 x7 x8 q h; cases h
  | succ n ih =>
    intro s x4 x5 x6 x7 x8 q h
    have g : fr F_M_bars s s := fr.rf
    refine fr_if h (fun h => ?_) fun h => ?_
    · refine fr_gd h fun c0 h => ?_
      refine fr_ltI h fun v1 h => ?_
      refine fr_bd1 h fun v2 hc h => ?_
      refine fr_ltI h fun v3 h => ?_
      refine fr_bd1 h fun v4 hc h => ?_
      refine fr_ltI h fun v5 h => ?_
      refine fr_bd1 h fun v6 hc h => ?_
      refine fr_ltI h fun v7 h => ?_
      refine fr_bd1 h fun v8 hc h => ?_
      exact g.tr ((ih h))
    · refine fr_ltM h (Q := fr F_M_bars s) (g.wI rfl) fun s9 gs9 h => ?_
      refine fr_ltM h (Q := fr F_M_bars s) (gs9.wI rfl) fun s10 gs10 h => ?_
      refine fr_ltM h (Q := fr F_M_bars s) (gs10.wI rfl) fun s11 gs11 h => ?_
      refine fr_ltM h (Q := fr F_M_bars s) (gs11.wI rfl) fun s12 gs12 h => ?_
      cases h; exact gs12
theorem fr_fM_bars_h126 : ∀ (n : Nat) {s : ev_M} {x4 : Int32} {q : ev_M} , fM_bars_h126 n s x4 = some q → fr F_M_bars s q := by
  intro n
  induction n with
  | zero => intro s x4 q h; cases h
  | succ n ih =>
    intro s x4 q h
    have g : fr F_M_bars s s := fr.rf
    refine fr_if h (fun h => ?_) fun h => ?_
    · refine fr_gd h fun c0 h => ?_
      refine fr_ltM h (Q := fr F_M_bars s) (g.wI rfl) fun s13 gs13 h => ?_
      exact gs13.tr ((ih h))
    · exact g.tr ((fr_fM_bars_h162 1048576 h))
theorem fr_fM_bars_h23 : ∀ (n : Nat) {s : ev_M} {x1 : Int32} {x2 : Int32} {x3 : Int32} {x4 : Int32} {q : ev_M} , fM_bars_h23 n s x1 x2 x3 x4 = some q → fr F_M_bars s q := by
  intro n
  induction n with
  | zero => intro s x1 x2 x3 x4 q h; cases h
  | succ n ih =>
    intro s x1 x2 x3 x4 q h
    have g : fr F_M_bars s s := fr.rf
    refine fr_if h (fun h => ?_) fun h => ?_
    · refine fr_gd h fun c0 h => ?_
      refine fr_ltM h (Q := fr F_M_bars s) (g.wI rfl) fun s14 gs14 h => ?_
      refine fr_gd h fun c1 h => ?_
      refine fr_ltM h (Q := fr F_M_bars s) (gs14.wI rfl) fun s15 gs15 h => ?_
      refine fr_gd h fun c2 h => ?_
      refine fr_ltM h (Q := fr F_M_bars s) (gs15.wI rfl) fun s16 gs16 h => ?_
      exact gs16.tr ((ih h))
    · refine fr_gd h fun c0 h => ?_
      refine fr_ltM h (Q := fr F_M_bars s) (g.wI rfl) fun s17 gs17 h => ?_
      refine fr_gd h fun c1 h => ?_
      refine fr_ltM h (Q := fr F_M_bars s) (gs17.wI rfl) fun s18 gs18 h => ?_
      exact gs18.tr ((fr_fM_bars_h126 1048576 h))
theorem fr_fM_bars {s : ev_M} {a1 : Int32} {q : ev_M} (h : fM_bars s a1 = some q) : fr F_M_bars s q := by
  have g : fr F_M_bars s s := fr.rf
  refine fr_gd h fun c0 h => ?_
  refine fr_ltI h fun v19 h => ?_
  refine fr_gd h fun c1 h => ?_
  refine fr_dv h fun h => ?_
  refine fr_ltI h fun v20 h => ?_
  exact g.tr ((fr_fM_bars_h23 1048576 h))
def F_M_bar : List (Nat × (Nat × Nat)) := [(549, 549, 1), (660, 660, 0)]
theorem fr_fM_bar {s : ev_M} {a1 : Int32} {a2 : Int32} {q : ev_M × Int32} (h : fM_bar s a1 a2 = some q) : fr F_M_bar s q.1 := by
  have g : fr F_M_bar s s := fr.rf
  refine fr_ltM h (Q := fr F_M_bar s) (g.wI rfl) fun s1 gs1 h => ?_
  refine fr_if h (fun h => ?_) fun h => ?_
  · refine fr_bd1 h fun v2 hc h => ?_
    refine fr_if h (fun h => ?_) fun h => ?_
    · cases h; exact gs1
    · refine fr_bd1 h fun v3 hc h => ?_
      refine fr_if h (fun h => ?_) fun h => ?_
      · cases h; exact gs1
      · refine fr_bd1 h fun s4 hc h => ?_
        have gs4 := gs1.tr ((fr_fM_bars hc).mono (F := F_M_bar) (by decide +kernel))
        refine fr_gd h fun c0 h => ?_
        cases h; exact gs4
  · cases h; exact gs1
def F_Bars_mendsOne : List (Nat × (Nat × Nat)) := [(8, 8, 0)]
theorem fr_fBars_mendsOne {s : ev_M} {a1 : Int32} {q : ev_M × Int32} (h : fBars_mendsOne s a1 = some q) : fr F_Bars_mendsOne s q.1 := by
  have g : fr F_Bars_mendsOne s s := fr.rf
  refine fr_ltI h fun v1 h => ?_
  refine fr_ltI h fun v2 h => ?_
  refine fr_if h (fun h => ?_) fun h => ?_
  · cases h; exact g
  · refine fr_if h (fun h => ?_) fun h => ?_
    · cases h; exact g
    · refine fr_gd h fun c0 h => ?_
      refine fr_gd h fun c1 h => ?_
      refine fr_bd1 h fun v3 hc h => ?_
      refine fr_gd h fun c2 h => ?_
      refine fr_bd1 h fun v4 hc h => ?_
      refine fr_gd h fun c3 h => ?_
      refine fr_ltI h fun v5 h => ?_
      refine fr_ltI h fun v6 h => ?_
      refine fr_bd1 h fun v7 hc h => ?_
      refine fr_if h (fun h => ?_) fun h => ?_
      · refine fr_gd h fun c4 h => ?_
        refine fr_gd h fun c5 h => ?_
        refine fr_ltM h (Q := fr F_Bars_mendsOne s) (g.wI rfl) fun s8 gs8 h => ?_
        cases h; exact gs8
      · cases h; exact g
def F_Bars_mendsTwo : List (Nat × (Nat × Nat)) := [(8, 8, 0)]
theorem fr_fBars_mendsTwo_h10 {k2 : ev_M → Int32 → Int32 → Option (ev_M × Int32)} (hk2 : ∀ {s : ev_M} {z1 : Int32} {z2 : Int32} {q : ev_M × Int32} , k2 s z1 z2 = some q → fr F_Bars_mendsTwo s q.1) : ∀ (n : Nat) {s : ev_M} {x1 : Int32} {x2 : Int32} {x3 : Int32} {q : ev_M × Int32} , fBars_mendsTwo_h10 k2 n s x1 x2 x3 = some q → fr F_Bars_mendsTwo s q.1 := by
  intro n
  induction n with
  | zero => intro s x1 x2 x3 q h; cases h
  | succ n ih =>
    intro s x1 x2 x3 q h
    have g : fr F_Bars_mendsTwo s s := fr.rf
    refine fr_if h (fun h => ?_) fun h => ?_
    · refine fr_bd1 h fun v1 hc h => ?_
      refine fr_bd2 h fun s2 v3 hc h => ?_
      have gs2 : fr F_Bars_mendsTwo s s2 := g.tr ((fr_fBars_mendsOne hc).mono (F := F_Bars_mendsTwo) (by decide +kernel))
      refine fr_if h (fun h => ?_) fun h => ?_
      · exact gs2.tr ((ih h))
      · refine fr_gd h fun c0 h => ?_
        refine fr_gd h fun c1 h => ?_
        refine fr_ltM h (Q := fr F_Bars_mendsTwo s) (gs2.wI rfl) fun s4 gs4 h => ?_
        cases h; exact gs4
    · exact g.tr ((hk2 h))
theorem fr_fBars_mendsTwo_h2 : ∀ (n : Nat) {s : ev_M} {x1 : Int32} {x2 : Int32} {q : ev_M × Int32} , fBars_mendsTwo_h2 n s x1 x2 = some q → fr F_Bars_mendsTwo s q.1 := by
  intro n
  induction n with
  | zero => intro s x1 x2 q h; cases h
  | succ n ih =>
    intro s x1 x2 q h
    have g : fr F_Bars_mendsTwo s s := fr.rf
    refine fr_if h (fun h => ?_) fun h => ?_
    · exact g.tr ((fr_fBars_mendsTwo_h10 ih 1048576 h))
    · cases h; exact g
theorem fr_fBars_mendsTwo {s : ev_M} {a1 : Int32} {q : ev_M × Int32} (h : fBars_mendsTwo s a1 = some q) : fr F_Bars_mendsTwo s q.1 := by
  have g : fr F_Bars_mendsTwo s s := fr.rf
  exact g.tr ((fr_fBars_mendsTwo_h2 1048576 h))
def F_Bars_mends : List (Nat × (Nat × Nat)) := [(7, 7, 2), (8, 8, 0)]
theorem fr_fBars_mends_b63 {s : ev_M} {y1 : Int32} {q : ev_M × Int32} (h : fBars_mends_b63 s y1 = some q) : fr F_Bars_mends s q.1 := by
  have g : fr F_Bars_mends s s := fr.rf
  refine fr_ltM h (Q := fr F_Bars_mends s) (g.wI rfl) fun s1 gs1 h => ?_
  refine fr_if h (fun h => ?_) fun h => ?_
  · cases h; exact gs1
  · cases h; exact gs1
theorem fr_fBars_mends_h4 : ∀ (n : Nat) {s : ev_M} {x1 : Int32} {x2 : Int32} {q : ev_M × Int32} , fBars_mends_h4 n s x1 x2 = some q → fr F_Bars_mends s q.1 := by
  intro n
  induction n with
  | zero => intro s x1 x2 q h; cases h
  | succ n ih =>
    intro s x1 x2 q h
    have g : fr F_Bars_mends s s := fr.rf
    refine fr_if h (fun h => ?_) fun h => ?_
    · refine fr_gd h fun c0 h => ?_
      refine fr_bd1 h fun v2 hc h => ?_
      refine fr_ltI h fun v3 h => ?_
      exact g.tr ((ih h))
    · refine fr_if h (fun h => ?_) fun h => ?_
      · exact g.tr ((fr_fBars_mends_b63 h))
      · refine fr_bd2 h fun s4 v5 hc h => ?_
        have gs4 : fr F_Bars_mends s s4 := g.tr ((fr_fBars_mendsOne hc).mono (F := F_Bars_mends) (by decide +kernel))
        refine fr_if h (fun h => ?_) fun h => ?_
        · refine fr_bd2 h fun s6 v7 hc h => ?_
          have gs6 : fr F_Bars_mends s s6 := gs4.tr ((fr_fBars_mendsTwo hc).mono (F := F_Bars_mends) (by decide +kernel))
          refine fr_if h (fun h => ?_) fun h => ?_
          · exact gs6.tr ((fr_fBars_mends_b63 h))
          · exact gs6.tr ((fr_fBars_mends_b63 h))
        · exact gs4.tr ((fr_fBars_mends_b63 h))
theorem fr_fBars_mends {s : ev_M} {q : ev_M × Int32} (h : fBars_mends s = some q) : fr F_Bars_mends s q.1 := by
  have g : fr F_Bars_mends s s := fr.rf
  exact g.tr ((fr_fBars_mends_h4 1048576 h))
def F_Bars_takeFrom_1 : List (Nat × (Nat × Nat)) := [(8, 8, 0)]
theorem fr_fBars_takeFrom_1_h2 : ∀ (n : Nat) {s : ev_M} {x2 : Int32} {q : ev_M} , fBars_takeFrom_1_h2 n s x2 = some q → fr F_Bars_takeFrom_1 s q := by
  intro n
  induction n with
  | zero => intro s x2 q h; cases h
  | succ n ih =>
    intro s x2 q h
    have g : fr F_Bars_takeFrom_1 s s := fr.rf
    refine fr_if h (fun h => ?_) fun h => ?_
    · refine fr_bd1 h fun v1 hc h => ?_
      refine fr_gd h fun c0 h => ?_
      refine fr_ltM h (Q := fr F_Bars_takeFrom_1 s) (g.wI rfl) fun s2 gs2 h => ?_
      exact gs2.tr ((ih h))
    · cases h; exact g
theorem fr_fBars_takeFrom_1 {s : ev_M} {q : ev_M} (h : fBars_takeFrom_1 s = some q) : fr F_Bars_takeFrom_1 s q := by
  have g : fr F_Bars_takeFrom_1 s s := fr.rf
  exact g.tr ((fr_fBars_takeFrom_1_h2 1048576 h))
def F_PH_scan : List (Nat × (Nat × Nat)) := [(1, 1, 2), (7, 7, 2), (8, 8, 0)]
theorem fr_fPH_scan_b46 {s : ev_M} {x1 : Int32} {q : ev_M × Int32} (h : fPH_scan_b46 s x1 = some q) : fr F_PH_scan s q.1 := by
  have g : fr F_PH_scan s s := fr.rf
  refine fr_ltM h (Q := fr F_PH_scan s) (g.wI rfl) fun s1 gs1 h => ?_
  refine fr_if h (fun h => ?_) fun h => ?_
  · cases h; exact gs1
  · refine fr_bd2 h fun s2 v3 hc h => ?_
    have gs2 : fr F_PH_scan s s2 := gs1.tr ((fr_fBars_mends hc).mono (F := F_PH_scan) (by decide +kernel))
    refine fr_if h (fun h => ?_) fun h => ?_
    · cases h; exact gs2
    · refine fr_bd1 h fun v4 hc h => ?_
      refine fr_bd1 h fun v5 hc h => ?_
      refine fr_if h (fun h => ?_) fun h => ?_
      · cases h; exact gs2
      · refine fr_bd1 h fun v6 hc h => ?_
        cases h; exact gs2
theorem fr_fPH_scan_b30 {s : ev_M} {y0 : Int32} {q : ev_M × Int32} (h : fPH_scan_b30 s y0 = some q) : fr F_PH_scan s q.1 := by
  have g : fr F_PH_scan s s := fr.rf
  refine fr_if h (fun h => ?_) fun h => ?_
  · exact g.tr ((fr_fPH_scan_b46 h))
  · refine fr_bd1 h fun s7 hc h => ?_
    have gs7 := g.tr ((fr_fBars_takeFrom_1 hc).mono (F := F_PH_scan) (by decide +kernel))
    exact gs7.tr ((fr_fPH_scan_b46 h))
theorem fr_fPH_scan {s : ev_M} {q : ev_M × Int32} (h : fPH_scan s = some q) : fr F_PH_scan s q.1 := by
  have g : fr F_PH_scan s s := fr.rf
  refine fr_if h (fun h => ?_) fun h => ?_
  · refine fr_if h (fun h => ?_) fun h => ?_
    · exact g.tr ((fr_fPH_scan_b30 h))
    · exact g.tr ((fr_fPH_scan_b30 h))
  · cases h; exact g
def F_M_change : List (Nat × (Nat × Nat)) := [(660, 660, 0), (662, 662, 0)]
theorem fr_fM_change_h16 : ∀ (n : Nat) {s : ev_M} {x1 : Int32} {x2 : Int32} {x3 : Int32} {q : ev_M} , fM_change_h16 n s x1 x2 x3 = some q → fr F_M_change s q := by
  intro n
  induction n with
  | zero => intro s x1 x2 x3 q h; cases h
  | succ n ih =>
    intro s x1 x2 x3 q h
    have g : fr F_M_change s s := fr.rf
    refine fr_if h (fun h => ?_) fun h => ?_
    · refine fr_gd h fun c0 h => ?_
      refine fr_gd h fun c1 h => ?_
      refine fr_bd1 h fun v1 hc h => ?_
      refine fr_gd h fun c2 h => ?_
      refine fr_ltM h (Q := fr F_M_change s) (g.wI rfl) fun s2 gs2 h => ?_
      exact gs2.tr ((ih h))
    · cases h; exact g
theorem fr_fM_change {s : ev_M} {a1 : Int32} {a2 : Int32} {q : ev_M} (h : fM_change s a1 a2 = some q) : fr F_M_change s q := by
  have g : fr F_M_change s s := fr.rf
  refine fr_gd h fun c0 h => ?_
  refine fr_gd h fun c1 h => ?_
  refine fr_ltM h (Q := fr F_M_change s) (g.wI rfl) fun s3 gs3 h => ?_
  exact gs3.tr ((fr_fM_change_h16 1048576 h))
def F_M_mendOne : List (Nat × (Nat × Nat)) := [(549, 549, 162), (660, 660, 0), (662, 662, 0)]
theorem fr_fM_mendOne_h11 {k2 : ev_M → Int32 → Int32 → Option (ev_M × Int32)} (hk2 : ∀ {s : ev_M} {z1 : Int32} {z2 : Int32} {q : ev_M × Int32} , k2 s z1 z2 = some q → fr F_M_mendOne s q.1) : ∀ (n : Nat) {s : ev_M} {x2 : Int32} {x3 : Int32} {x4 : Int32} {q : ev_M × Int32} , fM_mendOne_h11 k2 n s x2 x3 x4 = some q → fr F_M_mendOne s q.1 := by
  intro n
  induction n with
  | zero => intro s x2 x3 x4 q h; cases h
  | succ n ih =>
    intro s x2 x3 x4 q h
    have g : fr F_M_mendOne s s := fr.rf
    refine fr_if h (fun h => ?_) fun h => ?_
    · refine fr_bd1 h fun v1 hc h => ?_
      refine fr_if h (fun h => ?_) fun h => ?_
      · exact g.tr ((ih h))
      · refine fr_bd1 h fun s2 hc h => ?_
        have gs2 := g.tr ((fr_fM_change hc).mono (F := F_M_mendOne) (by decide +kernel))
        refine fr_ltM h (Q := fr F_M_mendOne s) (gs2.wI rfl) fun s3 gs3 h => ?_
        cases h; exact gs3
    · exact g.tr ((hk2 h))
theorem fr_fM_mendOne_h2 : ∀ (n : Nat) {s : ev_M} {x2 : Int32} {x3 : Int32} {q : ev_M × Int32} , fM_mendOne_h2 n s x2 x3 = some q → fr F_M_mendOne s q.1 := by
  intro n
  induction n with
  | zero => intro s x2 x3 q h; cases h
  | succ n ih =>
    intro s x2 x3 q h
    have g : fr F_M_mendOne s s := fr.rf
    refine fr_if h (fun h => ?_) fun h => ?_
    · exact g.tr ((fr_fM_mendOne_h11 ih 1048576 h))
    · cases h; exact g
theorem fr_fM_mendOne {s : ev_M} {a1 : Int32} {a2 : Int32} {q : ev_M × Int32} (h : fM_mendOne s a1 a2 = some q) : fr F_M_mendOne s q.1 := by
  have g : fr F_M_mendOne s s := fr.rf
  exact g.tr ((fr_fM_mendOne_h2 1048576 h))
def F_M_mendTwo : List (Nat × (Nat × Nat)) := [(549, 549, 162), (660, 660, 0), (662, 662, 0)]
theorem fr_fM_mendTwo_h10 {k2 : ev_M → Int32 → Option (ev_M × Int32)} (hk2 : ∀ {s : ev_M} {z1 : Int32} {q : ev_M × Int32} , k2 s z1 = some q → fr F_M_mendTwo s q.1) : ∀ (n : Nat) {s : ev_M} {x1 : Int32} {x2 : Int32} {q : ev_M × Int32} , fM_mendTwo_h10 k2 n s x1 x2 = some q → fr F_M_mendTwo s q.1 := by
  intro n
  induction n with
  | zero => intro s x1 x2 q h; cases h
  | succ n ih =>
    intro s x1 x2 q h
    have g : fr F_M_mendTwo s s := fr.rf
    refine fr_if h (fun h => ?_) fun h => ?_
    · refine fr_bd1 h fun s1 hc h => ?_
      have gs1 := g.tr ((fr_fM_change hc).mono (F := F_M_mendTwo) (by decide +kernel))
      refine fr_bd2 h fun s2 v3 hc h => ?_
      have gs2 : fr F_M_mendTwo s s2 := gs1.tr ((fr_fM_mendOne hc).mono (F := F_M_mendTwo) (by decide +kernel))
      refine fr_if h (fun h => ?_) fun h => ?_
      · refine fr_bd1 h fun s4 hc h => ?_
        have gs4 := gs2.tr ((fr_fM_change hc).mono (F := F_M_mendTwo) (by decide +kernel))
        exact gs4.tr ((ih h))
      · cases h; exact gs2
    · exact g.tr ((hk2 h))
theorem fr_fM_mendTwo_h2 : ∀ (n : Nat) {s : ev_M} {x1 : Int32} {q : ev_M × Int32} , fM_mendTwo_h2 n s x1 = some q → fr F_M_mendTwo s q.1 := by
  intro n
  induction n with
  | zero => intro s x1 q h; cases h
  | succ n ih =>
    intro s x1 q h
    have g : fr F_M_mendTwo s s := fr.rf
    refine fr_if h (fun h => ?_) fun h => ?_
    · exact g.tr ((fr_fM_mendTwo_h10 ih 1048576 h))
    · cases h; exact g
theorem fr_fM_mendTwo {s : ev_M} {q : ev_M × Int32} (h : fM_mendTwo s = some q) : fr F_M_mendTwo s q.1 := by
  have g : fr F_M_mendTwo s s := fr.rf
  exact g.tr ((fr_fM_mendTwo_h2 1048576 h))
def F_M_scan : List (Nat × (Nat × Nat)) := [(549, 549, 1), (549, 549, 3), (549, 549, 162), (660, 660, 0), (662, 662, 0)]
theorem fr_fM_scan_b101 {k67 : ev_M → Int32 → Int32 → Option (ev_M × Int32)} (hk67 : ∀ {s : ev_M} {z1 : Int32} {z2 : Int32} {q : ev_M × Int32} , k67 s z1 z2 = some q → fr F_M_scan s q.1) {s : ev_M} {x3 : Int32} {y0 : Int32} {q : ev_M × Int32} (h : fM_scan_b101 k67 s x3 y0 = some q) : fr F_M_scan s q.1 := by
  have g : fr F_M_scan s s := fr.rf
  exact g.tr ((hk67 h))
theorem fr_fM_scan_b100 {k67 : ev_M → Int32 → Int32 → Option (ev_M × Int32)} (hk67 : ∀ {s : ev_M} {z1 : Int32} {z2 : Int32} {q : ev_M × Int32} , k67 s z1 z2 = some q → fr F_M_scan s q.1) {s : ev_M} {x3 : Int32} {q : ev_M × Int32} (h : fM_scan_b100 k67 s x3 = some q) : fr F_M_scan s q.1 := by
  have g : fr F_M_scan s s := fr.rf
  exact g.tr ((fr_fM_scan_b101 hk67 h))
theorem fr_fM_scan_b146 {s : ev_M} {y0 : Int32} {q : ev_M × Int32} (h : fM_scan_b146 s y0 = some q) : fr F_M_scan s q.1 := by
  have g : fr F_M_scan s s := fr.rf
  refine fr_ltI h fun v1 h => ?_
  refine fr_if h (fun h => ?_) fun h => ?_
  · cases h; exact g
  · refine fr_if h (fun h => ?_) fun h => ?_
    · cases h; exact g
    · cases h; exact g
theorem fr_fM_scan_b141 {s : ev_M} {q : ev_M × Int32} (h : fM_scan_b141 s = some q) : fr F_M_scan s q.1 := by
  have g : fr F_M_scan s s := fr.rf
  exact g.tr ((fr_fM_scan_b146 h))
theorem fr_fM_scan_b118 {s : ev_M} {x2 : Int32} {y1 : Int32} {q : ev_M × Int32} (h : fM_scan_b118 s x2 y1 = some q) : fr F_M_scan s q.1 := by
  have g : fr F_M_scan s s := fr.rf
  refine fr_ltM h (Q := fr F_M_scan s) (g.wI rfl) fun s2 gs2 h => ?_
  refine fr_if h (fun h => ?_) fun h => ?_
  · refine fr_bd2 h fun s3 v4 hc h => ?_
    have gs3 : fr F_M_scan s s3 := gs2.tr ((fr_fM_mendOne hc).mono (F := F_M_scan) (by decide +kernel))
    refine fr_if h (fun h => ?_) fun h => ?_
    · refine fr_bd2 h fun s5 v6 hc h => ?_
      have gs5 : fr F_M_scan s s5 := gs3.tr ((fr_fM_mendTwo hc).mono (F := F_M_scan) (by decide +kernel))
      refine fr_if h (fun h => ?_) fun h => ?_
      · exact gs5.tr ((fr_fM_scan_b146 h))
      · exact gs5.tr ((fr_fM_scan_b141 h))
    · exact gs3.tr ((fr_fM_scan_b141 h))
  · exact gs2.tr ((fr_fM_scan_b141 h))
theorem fr_fM_scan_h67 : ∀ (n : Nat) {s : ev_M} {x2 : Int32} {x3 : Int32} {q : ev_M × Int32} , fM_scan_h67 n s x2 x3 = some q → fr F_M_scan s q.1 := by
  intro n
  induction n with
  | zero => intro s x2 x3 q h; cases h
  | succ n ih =>
    intro s x2 x3 q h
    have g : fr F_M_scan s s := fr.rf
    refine fr_if h (fun h => ?_) fun h => ?_
    · refine fr_bd1 h fun v7 hc h => ?_
      refine fr_gd h fun c0 h => ?_
      refine fr_ltM h (Q := fr F_M_scan s) (g.wI rfl) fun s8 gs8 h => ?_
      refine fr_if h (fun h => ?_) fun h => ?_
      · exact gs8.tr ((fr_fM_scan_b100 ih h))
      · refine fr_gd h fun c1 h => ?_
        refine fr_if h (fun h => ?_) fun h => ?_
        · exact gs8.tr ((fr_fM_scan_b101 ih h))
        · exact gs8.tr ((fr_fM_scan_b100 ih h))
    · refine fr_if h (fun h => ?_) fun h => ?_
      · exact g.tr ((fr_fM_scan_b118 h))
      · exact g.tr ((fr_fM_scan_b118 h))
theorem fr_fM_scan_h36 : ∀ (n : Nat) {s : ev_M} {x2 : Int32} {q : ev_M × Int32} , fM_scan_h36 n s x2 = some q → fr F_M_scan s q.1 := by
  intro n
  induction n with
  | zero => intro s x2 q h; cases h
  | succ n ih =>
    intro s x2 q h
    have g : fr F_M_scan s s := fr.rf
    refine fr_if h (fun h => ?_) fun h => ?_
    · refine fr_gd h fun c0 h => ?_
      refine fr_gd h fun c1 h => ?_
      refine fr_ltM h (Q := fr F_M_scan s) (g.wI rfl) fun s9 gs9 h => ?_
      exact gs9.tr ((ih h))
    · exact g.tr ((fr_fM_scan_h67 1048576 h))
theorem fr_fM_scan {s : ev_M} {q : ev_M × Int32} (h : fM_scan s = some q) : fr F_M_scan s q.1 := by
  have g : fr F_M_scan s s := fr.rf
  refine fr_ltM h (Q := fr F_M_scan s) (g.wI rfl) fun s10 gs10 h => ?_
  refine fr_if h (fun h => ?_) fun h => ?_
  · refine fr_ltI h fun v11 h => ?_
    refine fr_ltM h (Q := fr F_M_scan s) (gs10.wI rfl) fun s12 gs12 h => ?_
    refine fr_if h (fun h => ?_) fun h => ?_
    · exact gs12.tr ((fr_fM_scan_h36 1048576 h))
    · cases h; exact gs12
  · cases h; exact gs10
def F_M_mended : List (Nat × (Nat × Nat)) := [(549, 549, 1)]
theorem fr_fM_mended {s : ev_M} {q : ev_M × Int32} (h : fM_mended s = some q) : fr F_M_mended s q.1 := by
  have g : fr F_M_mended s s := fr.rf
  refine fr_ltM h (Q := fr F_M_mended s) (g.wI rfl) fun s1 gs1 h => ?_
  refine fr_if h (fun h => ?_) fun h => ?_
  · cases h; exact gs1
  · cases h; exact gs1
def F_PH_machine : List (Nat × (Nat × Nat)) := [(1, 1, 3), (1, 1, 5), (1, 1, 6), (3, 3, 0), (9, 9, 7), (9, 9, 8), (9, 9, 14), (9, 9, 15), (13, 13, 0), (14, 14, 0), (15, 15, 2), (15, 15, 3), (15, 15, 8), (17, 17, 0), (18, 18, 0), (19, 19, 0), (20, 20, 0), (21, 21, 0), (22, 22, 0), (24, 24, 0), (25, 25, 0), (26, 26, 0), (27, 27, 0), (28, 28, 0), (29, 29, 0), (30, 30, 3), (30, 30, 5), (30, 30, 8), (30, 30, 10), (30, 30, 12), (30, 30, 15), (30, 30, 16), (31, 31, 0), (33, 33, 0), (34, 34, 0), (35, 35, 0), (36, 36, 0), (37, 37, 0), (39, 39, 0), (40, 40, 0), (41, 41, 0), (42, 42, 0), (44, 44, 0), (45, 45, 0), (47, 47, 0), (48, 48, 0), (49, 49, 0), (50, 50, 0), (51, 51, 0), (52, 52, 3), (52, 52, 4), (52, 52, 5), (52, 52, 6), (52, 52, 9), (52, 52, 10), (52, 52, 14), (53, 53, 0), (54, 54, 0), (56, 56, 0), (57, 57, 0), (58, 58, 0), (59, 59, 0), (60, 60, 0), (61, 61, 0), (63, 63, 0), (64, 64, 0), (65, 65, 0), (66, 66, 0), (68, 75, 0), (72, 72, 0), (73, 73, 0), (74, 74, 0), (76, 76, 0), (77, 77, 0), (78, 78, 4), (78, 78, 7), (78, 78, 9), (78, 78, 10), (78, 78, 12), (78, 78, 14), (79, 79, 0), (80, 80, 0), (82, 82, 0), (83, 83, 0), (84, 84, 0), (85, 85, 0), (87, 87, 0), (88, 88, 0), (89, 89, 0), (90, 90, 0), (91, 91, 0), (93, 95, 0), (97, 97, 0), (98, 98, 0), (99, 99, 0), (100, 100, 6), (100, 100, 7), (102, 102, 0), (102, 123, 0), (103, 103, 0), (104, 104, 0), (105, 105, 0), (106, 106, 0), (107, 107, 0), (108, 108, 0), (109, 109, 0), (110, 110, 0), (111, 111, 0), (112, 112, 0), (113, 113, 0), (115, 115, 0), (116, 116, 0), (117, 117, 0), (119, 119, 0), (120, 120, 0), (121, 121, 0), (125, 125, 4), (126, 126, 0), (127, 127, 0), (128, 128, 0), (130, 137, 0), (138, 138, 4), (138, 138, 10), (138, 138, 11), (138, 138, 13), (140, 140, 0), (141, 141, 0), (142, 142, 0), (143, 143, 0), (144, 144, 0), (146, 157, 0), (158, 158, 0), (160, 171, 0), (172, 172, 0), (173, 173, 0), (174, 174, 0), (175, 175, 0), (177, 177, 0), (177, 179, 0), (178, 178, 0), (179, 179, 0), (180, 180, 0), (181, 181, 0), (183, 191, 0), (193, 448, 0), (449, 449, 5), (449, 449, 7), (451, 451, 0), (452, 452, 0), (453, 453, 0), (454, 454, 0), (455, 455, 0), (456, 456, 0), (457, 457, 0), (459, 459, 0), (460, 460, 0), (461, 461, 0), (462, 462, 0), (463, 463, 0), (464, 464, 0), (466, 545, 0), (546, 546, 0), (547, 547, 0), (548, 548, 0)]
theorem fr_fPH_machine {s : ev_M} {a1 : Int32} {a2 : Int32} {a3 : Int32} {a4 : Int32} {q : ev_M × Int32} (h : fPH_machine s a1 a2 a3 a4 = some q) : fr F_PH_machine s q.1 := by
  have g : fr F_PH_machine s s := fr.rf
  refine fr_bd2 h fun s1 v2 hc h => ?_
  have gs1 : fr F_PH_machine s s1 := g.tr ((fr_fLog_stages hc).mono (F := F_PH_machine) (by decide +kernel))
  refine fr_if h (fun h => ?_) fun h => ?_
  · cases h; exact gs1
  · refine fr_bd2 h fun s3 v4 hc h => ?_
    have gs3 : fr F_PH_machine s s3 := gs1.tr ((fr_fPH_act_1 hc).mono (F := F_PH_machine) (by decide +kernel))
    cases h; exact gs3
def F_M_machine : List (Nat × (Nat × Nat)) := [(549, 549, 1), (549, 549, 3), (549, 549, 10), (549, 549, 11), (549, 549, 14), (549, 549, 15), (549, 549, 16), (549, 549, 17), (549, 549, 23), (549, 549, 24), (549, 549, 25), (549, 549, 28), (549, 549, 34), (549, 549, 39), (549, 549, 44), (549, 549, 49), (549, 549, 50), (549, 549, 51), (549, 549, 52), (549, 549, 59), (549, 549, 84), (549, 549, 85), (549, 549, 86), (549, 549, 87), (549, 549, 88), (549, 549, 92), (549, 549, 94), (549, 549, 102), (549, 549, 108), (549, 549, 112), (549, 549, 115), (549, 549, 120), (549, 549, 126), (549, 549, 130), (549, 549, 135), (549, 549, 140), (549, 549, 141), (549, 549, 142), (549, 549, 147), (549, 549, 153), (549, 549, 154), (549, 549, 167), (552, 552, 0), (553, 553, 0), (554, 554, 0), (558, 558, 0), (559, 559, 0), (560, 560, 0), (561, 561, 0), (562, 562, 0), (563, 563, 0), (564, 564, 0), (565, 565, 0), (566, 566, 0), (567, 567, 0), (568, 568, 0), (569, 569, 0), (570, 570, 0), (571, 571, 0), (572, 572, 0), (573, 573, 0), (574, 574, 0), (575, 575, 0), (576, 576, 0), (577, 577, 0), (578, 578, 0), (579, 579, 0), (580, 580, 0), (581, 581, 0), (582, 582, 0), (583, 583, 0), (584, 584, 0), (585, 585, 0), (586, 586, 0), (587, 587, 0), (588, 588, 0), (589, 589, 0), (590, 590, 0), (591, 591, 0), (592, 592, 0), (593, 593, 0), (594, 594, 0), (595, 595, 0), (596, 596, 0), (597, 597, 0), (598, 598, 0), (599, 599, 0), (600, 600, 0), (601, 601, 0), (602, 602, 0), (603, 603, 0), (604, 604, 0), (605, 605, 0), (606, 606, 0), (607, 607, 0), (608, 608, 0), (609, 609, 0), (610, 610, 0), (611, 611, 0), (612, 612, 0), (613, 613, 0), (614, 614, 0), (615, 615, 0), (616, 616, 0), (617, 617, 0), (618, 618, 0), (619, 619, 0), (620, 620, 0), (621, 621, 0), (622, 622, 0), (623, 623, 0), (624, 624, 0), (625, 625, 0), (626, 626, 0), (627, 627, 0), (628, 628, 0), (629, 629, 0), (630, 630, 0), (631, 631, 0), (632, 632, 0), (633, 633, 0), (634, 634, 0), (635, 635, 0), (636, 636, 0), (637, 637, 0), (638, 638, 0), (639, 639, 0), (640, 640, 0), (641, 641, 0), (642, 642, 0), (643, 643, 0), (644, 644, 0), (645, 645, 0), (646, 646, 0), (647, 647, 0), (648, 648, 0), (649, 649, 0), (650, 650, 0), (651, 651, 0), (652, 652, 0), (653, 653, 0), (654, 654, 0), (655, 655, 0), (656, 656, 0), (658, 658, 0), (659, 659, 0), (664, 664, 0), (665, 665, 0), (666, 666, 0), (667, 667, 0), (668, 668, 0), (669, 669, 0), (670, 670, 0), (671, 671, 0), (672, 672, 0), (673, 673, 0), (674, 674, 0), (675, 675, 0), (676, 676, 0), (677, 677, 0), (678, 678, 0), (679, 679, 0), (680, 680, 0)]
theorem fr_fM_machine {s : ev_M} {a1 : Int32} {a2 : Int32} {a3 : Int32} {a4 : Int32} {q : ev_M × Int32} (h : fM_machine s a1 a2 a3 a4 = some q) : fr F_M_machine s q.1 := by
  have g : fr F_M_machine s s := fr.rf
  refine fr_bd2 h fun s1 v2 hc h => ?_
  have gs1 : fr F_M_machine s s1 := g.tr ((fr_fM_call4 hc).mono (F := F_M_machine) (by decide +kernel))
  cases h; exact gs1
def F_PH_round : List (Nat × (Nat × Nat)) := [(1, 1, 3), (1, 1, 5), (1, 1, 6), (3, 3, 0), (9, 9, 7), (9, 9, 8), (9, 9, 14), (9, 9, 15), (13, 13, 0), (14, 14, 0), (15, 15, 2), (15, 15, 3), (15, 15, 8), (17, 17, 0), (18, 18, 0), (19, 19, 0), (20, 20, 0), (21, 21, 0), (22, 22, 0), (24, 24, 0), (25, 25, 0), (26, 26, 0), (27, 27, 0), (28, 28, 0), (29, 29, 0), (30, 30, 3), (30, 30, 5), (30, 30, 8), (30, 30, 10), (30, 30, 12), (30, 30, 15), (30, 30, 16), (31, 31, 0), (33, 33, 0), (34, 34, 0), (35, 35, 0), (36, 36, 0), (37, 37, 0), (39, 39, 0), (40, 40, 0), (41, 41, 0), (42, 42, 0), (44, 44, 0), (45, 45, 0), (47, 47, 0), (48, 48, 0), (49, 49, 0), (50, 50, 0), (51, 51, 0), (52, 52, 3), (52, 52, 4), (52, 52, 5), (52, 52, 6), (52, 52, 9), (52, 52, 10), (52, 52, 14), (53, 53, 0), (54, 54, 0), (56, 56, 0), (57, 57, 0), (58, 58, 0), (59, 59, 0), (60, 60, 0), (61, 61, 0), (63, 63, 0), (64, 64, 0), (65, 65, 0), (66, 66, 0), (68, 75, 0), (72, 72, 0), (73, 73, 0), (74, 74, 0), (76, 76, 0), (77, 77, 0), (78, 78, 4), (78, 78, 7), (78, 78, 9), (78, 78, 10), (78, 78, 12), (78, 78, 14), (79, 79, 0), (80, 80, 0), (82, 82, 0), (83, 83, 0), (84, 84, 0), (85, 85, 0), (87, 87, 0), (88, 88, 0), (89, 89, 0), (90, 90, 0), (91, 91, 0), (93, 95, 0), (97, 97, 0), (98, 98, 0), (99, 99, 0), (100, 100, 6), (100, 100, 7), (102, 102, 0), (102, 123, 0), (103, 103, 0), (104, 104, 0), (105, 105, 0), (106, 106, 0), (107, 107, 0), (108, 108, 0), (109, 109, 0), (110, 110, 0), (111, 111, 0), (112, 112, 0), (113, 113, 0), (115, 115, 0), (116, 116, 0), (117, 117, 0), (119, 119, 0), (120, 120, 0), (121, 121, 0), (125, 125, 4), (126, 126, 0), (127, 127, 0), (128, 128, 0), (130, 137, 0), (138, 138, 4), (138, 138, 10), (138, 138, 11), (138, 138, 13), (140, 140, 0), (141, 141, 0), (142, 142, 0), (143, 143, 0), (144, 144, 0), (146, 157, 0), (158, 158, 0), (160, 171, 0), (172, 172, 0), (173, 173, 0), (174, 174, 0), (175, 175, 0), (177, 177, 0), (177, 179, 0), (178, 178, 0), (179, 179, 0), (180, 180, 0), (181, 181, 0), (183, 191, 0), (193, 448, 0), (449, 449, 5), (449, 449, 7), (451, 451, 0), (452, 452, 0), (453, 453, 0), (454, 454, 0), (455, 455, 0), (456, 456, 0), (457, 457, 0), (459, 459, 0), (460, 460, 0), (461, 461, 0), (462, 462, 0), (463, 463, 0), (464, 464, 0), (466, 545, 0), (546, 546, 0), (547, 547, 0), (548, 548, 0)]
theorem fr_fPH_round {s : ev_M} {a1 : Int32} {a2 : Int32} {a3 : Int32} {q : ev_M × Int32} (h : fPH_round s a1 a2 a3 = some q) : fr F_PH_round s q.1 := by
  have g : fr F_PH_round s s := fr.rf
  refine fr_bd2 h fun s1 v2 hc h => ?_
  have gs1 : fr F_PH_round s s1 := g.tr ((fr_fLog_stages hc).mono (F := F_PH_round) (by decide +kernel))
  refine fr_if h (fun h => ?_) fun h => ?_
  · cases h; exact gs1
  · refine fr_bd2 h fun s3 v4 hc h => ?_
    have gs3 : fr F_PH_round s s3 := gs1.tr ((fr_fPH_act_1 hc).mono (F := F_PH_round) (by decide +kernel))
    cases h; exact gs3
def F_M_round : List (Nat × (Nat × Nat)) := [(549, 549, 1), (549, 549, 3), (549, 549, 10), (549, 549, 11), (549, 549, 14), (549, 549, 15), (549, 549, 16), (549, 549, 17), (549, 549, 23), (549, 549, 24), (549, 549, 25), (549, 549, 28), (549, 549, 34), (549, 549, 39), (549, 549, 44), (549, 549, 49), (549, 549, 50), (549, 549, 51), (549, 549, 52), (549, 549, 59), (549, 549, 84), (549, 549, 85), (549, 549, 86), (549, 549, 87), (549, 549, 88), (549, 549, 92), (549, 549, 94), (549, 549, 102), (549, 549, 108), (549, 549, 112), (549, 549, 115), (549, 549, 120), (549, 549, 126), (549, 549, 130), (549, 549, 135), (549, 549, 140), (549, 549, 141), (549, 549, 142), (549, 549, 147), (549, 549, 153), (549, 549, 154), (549, 549, 167), (552, 552, 0), (553, 553, 0), (554, 554, 0), (558, 558, 0), (559, 559, 0), (560, 560, 0), (561, 561, 0), (562, 562, 0), (563, 563, 0), (564, 564, 0), (565, 565, 0), (566, 566, 0), (567, 567, 0), (568, 568, 0), (569, 569, 0), (570, 570, 0), (571, 571, 0), (572, 572, 0), (573, 573, 0), (574, 574, 0), (575, 575, 0), (576, 576, 0), (577, 577, 0), (578, 578, 0), (579, 579, 0), (580, 580, 0), (581, 581, 0), (582, 582, 0), (583, 583, 0), (584, 584, 0), (585, 585, 0), (586, 586, 0), (587, 587, 0), (588, 588, 0), (589, 589, 0), (590, 590, 0), (591, 591, 0), (592, 592, 0), (593, 593, 0), (594, 594, 0), (595, 595, 0), (596, 596, 0), (597, 597, 0), (598, 598, 0), (599, 599, 0), (600, 600, 0), (601, 601, 0), (602, 602, 0), (603, 603, 0), (604, 604, 0), (605, 605, 0), (606, 606, 0), (607, 607, 0), (608, 608, 0), (609, 609, 0), (610, 610, 0), (611, 611, 0), (612, 612, 0), (613, 613, 0), (614, 614, 0), (615, 615, 0), (616, 616, 0), (617, 617, 0), (618, 618, 0), (619, 619, 0), (620, 620, 0), (621, 621, 0), (622, 622, 0), (623, 623, 0), (624, 624, 0), (625, 625, 0), (626, 626, 0), (627, 627, 0), (628, 628, 0), (629, 629, 0), (630, 630, 0), (631, 631, 0), (632, 632, 0), (633, 633, 0), (634, 634, 0), (635, 635, 0), (636, 636, 0), (637, 637, 0), (638, 638, 0), (639, 639, 0), (640, 640, 0), (641, 641, 0), (642, 642, 0), (643, 643, 0), (644, 644, 0), (645, 645, 0), (646, 646, 0), (647, 647, 0), (648, 648, 0), (649, 649, 0), (650, 650, 0), (651, 651, 0), (652, 652, 0), (653, 653, 0), (654, 654, 0), (655, 655, 0), (656, 656, 0), (658, 658, 0), (659, 659, 0), (664, 664, 0), (665, 665, 0), (666, 666, 0), (667, 667, 0), (668, 668, 0), (669, 669, 0), (670, 670, 0), (671, 671, 0), (672, 672, 0), (673, 673, 0), (674, 674, 0), (675, 675, 0), (676, 676, 0), (677, 677, 0), (678, 678, 0), (679, 679, 0), (680, 680, 0)]
theorem fr_fM_round {s : ev_M} {a1 : Int32} {a2 : Int32} {a3 : Int32} {q : ev_M × Int32} (h : fM_round s a1 a2 a3 = some q) : fr F_M_round s q.1 := by
  have g : fr F_M_round s s := fr.rf
  refine fr_bd2 h fun s1 v2 hc h => ?_
  have gs1 : fr F_M_round s s1 := g.tr ((fr_fM_call3 hc).mono (F := F_M_round) (by decide +kernel))
  cases h; exact gs1
def F_PH_assign : List (Nat × (Nat × Nat)) := [(1, 1, 3), (1, 1, 5), (1, 1, 6), (3, 3, 0), (9, 9, 7), (9, 9, 8), (9, 9, 14), (9, 9, 15), (13, 13, 0), (14, 14, 0), (15, 15, 2), (15, 15, 3), (15, 15, 8), (17, 17, 0), (18, 18, 0), (19, 19, 0), (20, 20, 0), (21, 21, 0), (22, 22, 0), (24, 24, 0), (25, 25, 0), (26, 26, 0), (27, 27, 0), (28, 28, 0), (29, 29, 0), (30, 30, 3), (30, 30, 5), (30, 30, 8), (30, 30, 10), (30, 30, 12), (30, 30, 15), (30, 30, 16), (31, 31, 0), (33, 33, 0), (34, 34, 0), (35, 35, 0), (36, 36, 0), (37, 37, 0), (39, 39, 0), (40, 40, 0), (41, 41, 0), (42, 42, 0), (44, 44, 0), (45, 45, 0), (47, 47, 0), (48, 48, 0), (49, 49, 0), (50, 50, 0), (51, 51, 0), (52, 52, 3), (52, 52, 4), (52, 52, 5), (52, 52, 6), (52, 52, 9), (52, 52, 10), (52, 52, 14), (53, 53, 0), (54, 54, 0), (56, 56, 0), (57, 57, 0), (58, 58, 0), (59, 59, 0), (60, 60, 0), (61, 61, 0), (63, 63, 0), (64, 64, 0), (65, 65, 0), (66, 66, 0), (68, 75, 0), (72, 72, 0), (73, 73, 0), (74, 74, 0), (76, 76, 0), (77, 77, 0), (78, 78, 4), (78, 78, 7), (78, 78, 9), (78, 78, 10), (78, 78, 12), (78, 78, 14), (79, 79, 0), (80, 80, 0), (82, 82, 0), (83, 83, 0), (84, 84, 0), (85, 85, 0), (87, 87, 0), (88, 88, 0), (89, 89, 0), (90, 90, 0), (91, 91, 0), (93, 95, 0), (97, 97, 0), (98, 98, 0), (99, 99, 0), (100, 100, 6), (100, 100, 7), (102, 102, 0), (102, 123, 0), (103, 103, 0), (104, 104, 0), (105, 105, 0), (106, 106, 0), (107, 107, 0), (108, 108, 0), (109, 109, 0), (110, 110, 0), (111, 111, 0), (112, 112, 0), (113, 113, 0), (115, 115, 0), (116, 116, 0), (117, 117, 0), (119, 119, 0), (120, 120, 0), (121, 121, 0), (125, 125, 4), (126, 126, 0), (127, 127, 0), (128, 128, 0), (130, 137, 0), (138, 138, 4), (138, 138, 10), (138, 138, 11), (138, 138, 13), (140, 140, 0), (141, 141, 0), (142, 142, 0), (143, 143, 0), (144, 144, 0), (146, 157, 0), (158, 158, 0), (160, 171, 0), (172, 172, 0), (173, 173, 0), (174, 174, 0), (175, 175, 0), (177, 177, 0), (177, 179, 0), (178, 178, 0), (179, 179, 0), (180, 180, 0), (181, 181, 0), (183, 191, 0), (193, 448, 0), (449, 449, 5), (449, 449, 7), (451, 451, 0), (452, 452, 0), (453, 453, 0), (454, 454, 0), (455, 455, 0), (456, 456, 0), (457, 457, 0), (459, 459, 0), (460, 460, 0), (461, 461, 0), (462, 462, 0), (463, 463, 0), (464, 464, 0), (466, 545, 0), (546, 546, 0), (547, 547, 0), (548, 548, 0)]
theorem fr_fPH_assign {s : ev_M} {a1 : Int32} {a2 : Int32} {q : ev_M × Int32} (h : fPH_assign s a1 a2 = some q) : fr F_PH_assign s q.1 := by
  have g : fr F_PH_assign s s := fr.rf
  refine fr_bd2 h fun s1 v2 hc h => ?_
  have gs1 : fr F_PH_assign s s1 := g.tr ((fr_fLog_stages hc).mono (F := F_PH_assign) (by decide +kernel))
  refine fr_if h (fun h => ?_) fun h => ?_
  · cases h; exact gs1
  · refine fr_bd2 h fun s3 v4 hc h => ?_
    have gs3 : fr F_PH_assign s s3 := gs1.tr ((fr_fPH_act_1 hc).mono (F := F_PH_assign) (by decide +kernel))
    cases h; exact gs3
def F_M_assign : List (Nat × (Nat × Nat)) := [(549, 549, 1), (549, 549, 3), (549, 549, 10), (549, 549, 11), (549, 549, 14), (549, 549, 15), (549, 549, 16), (549, 549, 17), (549, 549, 23), (549, 549, 24), (549, 549, 25), (549, 549, 28), (549, 549, 34), (549, 549, 39), (549, 549, 44), (549, 549, 49), (549, 549, 50), (549, 549, 51), (549, 549, 52), (549, 549, 59), (549, 549, 84), (549, 549, 85), (549, 549, 86), (549, 549, 87), (549, 549, 88), (549, 549, 92), (549, 549, 94), (549, 549, 102), (549, 549, 108), (549, 549, 112), (549, 549, 115), (549, 549, 120), (549, 549, 126), (549, 549, 130), (549, 549, 135), (549, 549, 140), (549, 549, 141), (549, 549, 142), (549, 549, 147), (549, 549, 153), (549, 549, 154), (549, 549, 167), (552, 552, 0), (553, 553, 0), (554, 554, 0), (558, 558, 0), (559, 559, 0), (560, 560, 0), (561, 561, 0), (562, 562, 0), (563, 563, 0), (564, 564, 0), (565, 565, 0), (566, 566, 0), (567, 567, 0), (568, 568, 0), (569, 569, 0), (570, 570, 0), (571, 571, 0), (572, 572, 0), (573, 573, 0), (574, 574, 0), (575, 575, 0), (576, 576, 0), (577, 577, 0), (578, 578, 0), (579, 579, 0), (580, 580, 0), (581, 581, 0), (582, 582, 0), (583, 583, 0), (584, 584, 0), (585, 585, 0), (586, 586, 0), (587, 587, 0), (588, 588, 0), (589, 589, 0), (590, 590, 0), (591, 591, 0), (592, 592, 0), (593, 593, 0), (594, 594, 0), (595, 595, 0), (596, 596, 0), (597, 597, 0), (598, 598, 0), (599, 599, 0), (600, 600, 0), (601, 601, 0), (602, 602, 0), (603, 603, 0), (604, 604, 0), (605, 605, 0), (606, 606, 0), (607, 607, 0), (608, 608, 0), (609, 609, 0), (610, 610, 0), (611, 611, 0), (612, 612, 0), (613, 613, 0), (614, 614, 0), (615, 615, 0), (616, 616, 0), (617, 617, 0), (618, 618, 0), (619, 619, 0), (620, 620, 0), (621, 621, 0), (622, 622, 0), (623, 623, 0), (624, 624, 0), (625, 625, 0), (626, 626, 0), (627, 627, 0), (628, 628, 0), (629, 629, 0), (630, 630, 0), (631, 631, 0), (632, 632, 0), (633, 633, 0), (634, 634, 0), (635, 635, 0), (636, 636, 0), (637, 637, 0), (638, 638, 0), (639, 639, 0), (640, 640, 0), (641, 641, 0), (642, 642, 0), (643, 643, 0), (644, 644, 0), (645, 645, 0), (646, 646, 0), (647, 647, 0), (648, 648, 0), (649, 649, 0), (650, 650, 0), (651, 651, 0), (652, 652, 0), (653, 653, 0), (654, 654, 0), (655, 655, 0), (656, 656, 0), (658, 658, 0), (659, 659, 0), (664, 664, 0), (665, 665, 0), (666, 666, 0), (667, 667, 0), (668, 668, 0), (669, 669, 0), (670, 670, 0), (671, 671, 0), (672, 672, 0), (673, 673, 0), (674, 674, 0), (675, 675, 0), (676, 676, 0), (677, 677, 0), (678, 678, 0), (679, 679, 0), (680, 680, 0)]
theorem fr_fM_assign {s : ev_M} {a1 : Int32} {a2 : Int32} {q : ev_M × Int32} (h : fM_assign s a1 a2 = some q) : fr F_M_assign s q.1 := by
  have g : fr F_M_assign s s := fr.rf
  refine fr_bd2 h fun s1 v2 hc h => ?_
  have gs1 : fr F_M_assign s s1 := g.tr ((fr_fM_call2 hc).mono (F := F_M_assign) (by decide +kernel))
  cases h; exact gs1
def F_PH_arrange : List (Nat × (Nat × Nat)) := [(1, 1, 3), (1, 1, 5), (1, 1, 6), (3, 3, 0), (9, 9, 7), (9, 9, 8), (9, 9, 14), (9, 9, 15), (13, 13, 0), (14, 14, 0), (15, 15, 2), (15, 15, 3), (15, 15, 8), (17, 17, 0), (18, 18, 0), (19, 19, 0), (20, 20, 0), (21, 21, 0), (22, 22, 0), (24, 24, 0), (25, 25, 0), (26, 26, 0), (27, 27, 0), (28, 28, 0), (29, 29, 0), (30, 30, 3), (30, 30, 5), (30, 30, 8), (30, 30, 10), (30, 30, 12), (30, 30, 15), (30, 30, 16), (31, 31, 0), (33, 33, 0), (34, 34, 0), (35, 35, 0), (36, 36, 0), (37, 37, 0), (39, 39, 0), (40, 40, 0), (41, 41, 0), (42, 42, 0), (44, 44, 0), (45, 45, 0), (47, 47, 0), (48, 48, 0), (49, 49, 0), (50, 50, 0), (51, 51, 0), (52, 52, 3), (52, 52, 4), (52, 52, 5), (52, 52, 6), (52, 52, 9), (52, 52, 10), (52, 52, 14), (53, 53, 0), (54, 54, 0), (56, 56, 0), (57, 57, 0), (58, 58, 0), (59, 59, 0), (60, 60, 0), (61, 61, 0), (63, 63, 0), (64, 64, 0), (65, 65, 0), (66, 66, 0), (68, 75, 0), (72, 72, 0), (73, 73, 0), (74, 74, 0), (76, 76, 0), (77, 77, 0), (78, 78, 4), (78, 78, 7), (78, 78, 9), (78, 78, 10), (78, 78, 12), (78, 78, 14), (79, 79, 0), (80, 80, 0), (82, 82, 0), (83, 83, 0), (84, 84, 0), (85, 85, 0), (87, 87, 0), (88, 88, 0), (89, 89, 0), (90, 90, 0), (91, 91, 0), (93, 95, 0), (97, 97, 0), (98, 98, 0), (99, 99, 0), (100, 100, 6), (100, 100, 7), (102, 102, 0), (102, 123, 0), (103, 103, 0), (104, 104, 0), (105, 105, 0), (106, 106, 0), (107, 107, 0), (108, 108, 0), (109, 109, 0), (110, 110, 0), (111, 111, 0), (112, 112, 0), (113, 113, 0), (115, 115, 0), (116, 116, 0), (117, 117, 0), (119, 119, 0), (120, 120, 0), (121, 121, 0), (125, 125, 4), (126, 126, 0), (127, 127, 0), (128, 128, 0), (130, 137, 0), (138, 138, 4), (138, 138, 10), (138, 138, 11), (138, 138, 13), (140, 140, 0), (141, 141, 0), (142, 142, 0), (143, 143, 0), (144, 144, 0), (146, 157, 0), (158, 158, 0), (160, 171, 0), (172, 172, 0), (173, 173, 0), (174, 174, 0), (175, 175, 0), (177, 177, 0), (177, 179, 0), (178, 178, 0), (179, 179, 0), (180, 180, 0), (181, 181, 0), (183, 191, 0), (193, 448, 0), (449, 449, 5), (449, 449, 7), (451, 451, 0), (452, 452, 0), (453, 453, 0), (454, 454, 0), (455, 455, 0), (456, 456, 0), (457, 457, 0), (459, 459, 0), (460, 460, 0), (461, 461, 0), (462, 462, 0), (463, 463, 0), (464, 464, 0), (466, 545, 0), (546, 546, 0), (547, 547, 0), (548, 548, 0)]
theorem fr_fPH_arrange {s : ev_M} {a1 : Int32} {q : ev_M × Int32} (h : fPH_arrange s a1 = some q) : fr F_PH_arrange s q.1 := by
  have g : fr F_PH_arrange s s := fr.rf
  refine fr_bd2 h fun s1 v2 hc h => ?_
  have gs1 : fr F_PH_arrange s s1 := g.tr ((fr_fLog_stages hc).mono (F := F_PH_arrange) (by decide +kernel))
  refine fr_if h (fun h => ?_) fun h => ?_
  · cases h; exact gs1
  · refine fr_bd2 h fun s3 v4 hc h => ?_
    have gs3 : fr F_PH_arrange s s3 := gs1.tr ((fr_fPH_act_1 hc).mono (F := F_PH_arrange) (by decide +kernel))
    cases h; exact gs3
def F_M_arrange : List (Nat × (Nat × Nat)) := [(549, 549, 1), (549, 549, 3), (549, 549, 10), (549, 549, 11), (549, 549, 14), (549, 549, 15), (549, 549, 16), (549, 549, 17), (549, 549, 23), (549, 549, 24), (549, 549, 25), (549, 549, 28), (549, 549, 34), (549, 549, 39), (549, 549, 44), (549, 549, 49), (549, 549, 50), (549, 549, 51), (549, 549, 52), (549, 549, 59), (549, 549, 84), (549, 549, 85), (549, 549, 86), (549, 549, 87), (549, 549, 88), (549, 549, 92), (549, 549, 94), (549, 549, 102), (549, 549, 108), (549, 549, 112), (549, 549, 115), (549, 549, 120), (549, 549, 126), (549, 549, 130), (549, 549, 135), (549, 549, 140), (549, 549, 141), (549, 549, 142), (549, 549, 147), (549, 549, 153), (549, 549, 154), (549, 549, 167), (552, 552, 0), (553, 553, 0), (554, 554, 0), (558, 558, 0), (559, 559, 0), (560, 560, 0), (561, 561, 0), (562, 562, 0), (563, 563, 0), (564, 564, 0), (565, 565, 0), (566, 566, 0), (567, 567, 0), (568, 568, 0), (569, 569, 0), (570, 570, 0), (571, 571, 0), (572, 572, 0), (573, 573, 0), (574, 574, 0), (575, 575, 0), (576, 576, 0), (577, 577, 0), (578, 578, 0), (579, 579, 0), (580, 580, 0), (581, 581, 0), (582, 582, 0), (583, 583, 0), (584, 584, 0), (585, 585, 0), (586, 586, 0), (587, 587, 0), (588, 588, 0), (589, 589, 0), (590, 590, 0), (591, 591, 0), (592, 592, 0), (593, 593, 0), (594, 594, 0), (595, 595, 0), (596, 596, 0), (597, 597, 0), (598, 598, 0), (599, 599, 0), (600, 600, 0), (601, 601, 0), (602, 602, 0), (603, 603, 0), (604, 604, 0), (605, 605, 0), (606, 606, 0), (607, 607, 0), (608, 608, 0), (609, 609, 0), (610, 610, 0), (611, 611, 0), (612, 612, 0), (613, 613, 0), (614, 614, 0), (615, 615, 0), (616, 616, 0), (617, 617, 0), (618, 618, 0), (619, 619, 0), (620, 620, 0), (621, 621, 0), (622, 622, 0), (623, 623, 0), (624, 624, 0), (625, 625, 0), (626, 626, 0), (627, 627, 0), (628, 628, 0), (629, 629, 0), (630, 630, 0), (631, 631, 0), (632, 632, 0), (633, 633, 0), (634, 634, 0), (635, 635, 0), (636, 636, 0), (637, 637, 0), (638, 638, 0), (639, 639, 0), (640, 640, 0), (641, 641, 0), (642, 642, 0), (643, 643, 0), (644, 644, 0), (645, 645, 0), (646, 646, 0), (647, 647, 0), (648, 648, 0), (649, 649, 0), (650, 650, 0), (651, 651, 0), (652, 652, 0), (653, 653, 0), (654, 654, 0), (655, 655, 0), (656, 656, 0), (658, 658, 0), (659, 659, 0), (664, 664, 0), (665, 665, 0), (666, 666, 0), (667, 667, 0), (668, 668, 0), (669, 669, 0), (670, 670, 0), (671, 671, 0), (672, 672, 0), (673, 673, 0), (674, 674, 0), (675, 675, 0), (676, 676, 0), (677, 677, 0), (678, 678, 0), (679, 679, 0), (680, 680, 0)]
theorem fr_fM_arrange {s : ev_M} {a1 : Int32} {q : ev_M × Int32} (h : fM_arrange s a1 = some q) : fr F_M_arrange s q.1 := by
  have g : fr F_M_arrange s s := fr.rf
  refine fr_bd2 h fun s1 v2 hc h => ?_
  have gs1 : fr F_M_arrange s s1 := g.tr ((fr_fM_call1 hc).mono (F := F_M_arrange) (by decide +kernel))
  cases h; exact gs1
def F_M_stop : List (Nat × (Nat × Nat)) := [(549, 549, 1)]
theorem fr_fM_stop_b68 {k31 : ev_M → Int32 → Int32 → Int32 → Int32 → Option (ev_M × Int32)} (hk31 : ∀ {s : ev_M} {z1 : Int32} {z2 : Int32} {z3 : Int32} {z4 : Int32} {q : ev_M × Int32} , k31 s z1 z2 z3 z4 = some q → fr F_M_stop s q.1) {s : ev_M} {x1 : Int32} {x2 : Int32} {x4 : Int32} {y0 : Int32} {q : ev_M × Int32} (h : fM_stop_b68 k31 s x1 x2 x4 y0 = some q) : fr F_M_stop s q.1 := by
  have g : fr F_M_stop s s := fr.rf
  exact g.tr ((hk31 h))
theorem fr_fM_stop_b67 {k31 : ev_M → Int32 → Int32 → Int32 → Int32 → Option (ev_M × Int32)} (hk31 : ∀ {s : ev_M} {z1 : Int32} {z2 : Int32} {z3 : Int32} {z4 : Int32} {q : ev_M × Int32} , k31 s z1 z2 z3 z4 = some q → fr F_M_stop s q.1) {s : ev_M} {x1 : Int32} {x2 : Int32} {x3 : Int32} {x4 : Int32} {q : ev_M × Int32} (h : fM_stop_b67 k31 s x1 x2 x3 x4 = some q) : fr F_M_stop s q.1 := by
  have g : fr F_M_stop s s := fr.rf
  exact g.tr ((fr_fM_stop_b68 hk31 h))
theorem fr_fM_stop_h31 : ∀ (n : Nat) {s : ev_M} {x1 : Int32} {x2 : Int32} {x3 : Int32} {x4 : Int32} {q : ev_M × Int32} , fM_stop_h31 n s x1 x2 x3 x4 = some q → fr F_M_stop s q.1 := by
  intro n
  induction n with
  | zero => intro s x1 x2 x3 x4 q h; cases h
  | succ n ih =>
    intro s x1 x2 x3 x4 q h
    have g : fr F_M_stop s s := fr.rf
    refine fr_if h (fun h => ?_) fun h => ?_
    · refine fr_gd h fun c0 h => ?_
      refine fr_if h (fun h => ?_) fun h => ?_
      · refine fr_gd h fun c1 h => ?_
        refine fr_if h (fun h => ?_) fun h => ?_
        · exact g.tr ((fr_fM_stop_b68 ih h))
        · exact g.tr ((fr_fM_stop_b67 ih h))
      · exact g.tr ((fr_fM_stop_b67 ih h))
    · cases h; exact g
theorem fr_fM_stop {s : ev_M} {a1 : Int32} {a2 : Int32} {q : ev_M × Int32} (h : fM_stop s a1 a2 = some q) : fr F_M_stop s q.1 := by
  have g : fr F_M_stop s s := fr.rf
  refine fr_ltM h (Q := fr F_M_stop s) (g.wI rfl) fun s1 gs1 h => ?_
  refine fr_if h (fun h => ?_) fun h => ?_
  · refine fr_bd1 h fun v2 hc h => ?_
    refine fr_if h (fun h => ?_) fun h => ?_
    · cases h; exact gs1
    · exact gs1.tr ((fr_fM_stop_h31 1048576 h))
  · cases h; exact gs1
def F_PH_sort : List (Nat × (Nat × Nat)) := [(1, 1, 3), (1, 1, 5), (1, 1, 6), (3, 3, 0), (9, 9, 7), (9, 9, 8), (9, 9, 14), (9, 9, 15), (13, 13, 0), (14, 14, 0), (15, 15, 2), (15, 15, 3), (15, 15, 8), (17, 17, 0), (18, 18, 0), (19, 19, 0), (20, 20, 0), (21, 21, 0), (22, 22, 0), (24, 24, 0), (25, 25, 0), (26, 26, 0), (27, 27, 0), (28, 28, 0), (29, 29, 0), (30, 30, 3), (30, 30, 5), (30, 30, 8), (30, 30, 10), (30, 30, 12), (30, 30, 15), (30, 30, 16), (31, 31, 0), (33, 33, 0), (34, 34, 0), (35, 35, 0), (36, 36, 0), (37, 37, 0), (39, 39, 0), (40, 40, 0), (41, 41, 0), (42, 42, 0), (44, 44, 0), (45, 45, 0), (47, 47, 0), (48, 48, 0), (49, 49, 0), (50, 50, 0), (51, 51, 0), (52, 52, 3), (52, 52, 4), (52, 52, 5), (52, 52, 6), (52, 52, 9), (52, 52, 10), (52, 52, 14), (53, 53, 0), (54, 54, 0), (56, 56, 0), (57, 57, 0), (58, 58, 0), (59, 59, 0), (60, 60, 0), (61, 61, 0), (63, 63, 0), (64, 64, 0), (65, 65, 0), (66, 66, 0), (68, 75, 0), (72, 72, 0), (73, 73, 0), (74, 74, 0), (76, 76, 0), (77, 77, 0), (78, 78, 4), (78, 78, 7), (78, 78, 9), (78, 78, 10), (78, 78, 12), (78, 78, 14), (79, 79, 0), (80, 80, 0), (82, 82, 0), (83, 83, 0), (84, 84, 0), (85, 85, 0), (87, 87, 0), (88, 88, 0), (89, 89, 0), (90, 90, 0), (91, 91, 0), (93, 95, 0), (97, 97, 0), (98, 98, 0), (99, 99, 0), (100, 100, 6), (100, 100, 7), (102, 102, 0), (102, 123, 0), (103, 103, 0), (104, 104, 0), (105, 105, 0), (106, 106, 0), (107, 107, 0), (108, 108, 0), (109, 109, 0), (110, 110, 0), (111, 111, 0), (112, 112, 0), (113, 113, 0), (115, 115, 0), (116, 116, 0), (117, 117, 0), (119, 119, 0), (120, 120, 0), (121, 121, 0), (125, 125, 4), (126, 126, 0), (127, 127, 0), (128, 128, 0), (130, 137, 0), (138, 138, 4), (138, 138, 10), (138, 138, 11), (138, 138, 13), (140, 140, 0), (141, 141, 0), (142, 142, 0), (143, 143, 0), (144, 144, 0), (146, 157, 0), (158, 158, 0), (160, 171, 0), (172, 172, 0), (173, 173, 0), (174, 174, 0), (175, 175, 0), (177, 177, 0), (177, 179, 0), (178, 178, 0), (179, 179, 0), (180, 180, 0), (181, 181, 0), (183, 191, 0), (193, 448, 0), (449, 449, 5), (449, 449, 7), (451, 451, 0), (452, 452, 0), (453, 453, 0), (454, 454, 0), (455, 455, 0), (456, 456, 0), (457, 457, 0), (459, 459, 0), (460, 460, 0), (461, 461, 0), (462, 462, 0), (463, 463, 0), (464, 464, 0), (466, 545, 0), (546, 546, 0), (547, 547, 0), (548, 548, 0)]
theorem fr_fPH_sort {s : ev_M} {a1 : Int32} {q : ev_M × Int32} (h : fPH_sort s a1 = some q) : fr F_PH_sort s q.1 := by
  have g : fr F_PH_sort s s := fr.rf
  refine fr_bd2 h fun s1 v2 hc h => ?_
  have gs1 : fr F_PH_sort s s1 := g.tr ((fr_fLog_stages hc).mono (F := F_PH_sort) (by decide +kernel))
  refine fr_if h (fun h => ?_) fun h => ?_
  · cases h; exact gs1
  · refine fr_bd2 h fun s3 v4 hc h => ?_
    have gs3 : fr F_PH_sort s s3 := gs1.tr ((fr_fPH_act_1 hc).mono (F := F_PH_sort) (by decide +kernel))
    cases h; exact gs3
def F_M_sort : List (Nat × (Nat × Nat)) := [(549, 549, 1), (549, 549, 3), (549, 549, 10), (549, 549, 11), (549, 549, 14), (549, 549, 15), (549, 549, 16), (549, 549, 17), (549, 549, 23), (549, 549, 24), (549, 549, 25), (549, 549, 28), (549, 549, 34), (549, 549, 39), (549, 549, 44), (549, 549, 49), (549, 549, 50), (549, 549, 51), (549, 549, 52), (549, 549, 59), (549, 549, 84), (549, 549, 85), (549, 549, 86), (549, 549, 87), (549, 549, 88), (549, 549, 92), (549, 549, 94), (549, 549, 102), (549, 549, 108), (549, 549, 112), (549, 549, 115), (549, 549, 120), (549, 549, 126), (549, 549, 130), (549, 549, 135), (549, 549, 140), (549, 549, 141), (549, 549, 142), (549, 549, 147), (549, 549, 153), (549, 549, 154), (549, 549, 167), (552, 552, 0), (553, 553, 0), (554, 554, 0), (558, 558, 0), (559, 559, 0), (560, 560, 0), (561, 561, 0), (562, 562, 0), (563, 563, 0), (564, 564, 0), (565, 565, 0), (566, 566, 0), (567, 567, 0), (568, 568, 0), (569, 569, 0), (570, 570, 0), (571, 571, 0), (572, 572, 0), (573, 573, 0), (574, 574, 0), (575, 575, 0), (576, 576, 0), (577, 577, 0), (578, 578, 0), (579, 579, 0), (580, 580, 0), (581, 581, 0), (582, 582, 0), (583, 583, 0), (584, 584, 0), (585, 585, 0), (586, 586, 0), (587, 587, 0), (588, 588, 0), (589, 589, 0), (590, 590, 0), (591, 591, 0), (592, 592, 0), (593, 593, 0), (594, 594, 0), (595, 595, 0), (596, 596, 0), (597, 597, 0), (598, 598, 0), (599, 599, 0), (600, 600, 0), (601, 601, 0), (602, 602, 0), (603, 603, 0), (604, 604, 0), (605, 605, 0), (606, 606, 0), (607, 607, 0), (608, 608, 0), (609, 609, 0), (610, 610, 0), (611, 611, 0), (612, 612, 0), (613, 613, 0), (614, 614, 0), (615, 615, 0), (616, 616, 0), (617, 617, 0), (618, 618, 0), (619, 619, 0), (620, 620, 0), (621, 621, 0), (622, 622, 0), (623, 623, 0), (624, 624, 0), (625, 625, 0), (626, 626, 0), (627, 627, 0), (628, 628, 0), (629, 629, 0), (630, 630, 0), (631, 631, 0), (632, 632, 0), (633, 633, 0), (634, 634, 0), (635, 635, 0), (636, 636, 0), (637, 637, 0), (638, 638, 0), (639, 639, 0), (640, 640, 0), (641, 641, 0), (642, 642, 0), (643, 643, 0), (644, 644, 0), (645, 645, 0), (646, 646, 0), (647, 647, 0), (648, 648, 0), (649, 649, 0), (650, 650, 0), (651, 651, 0), (652, 652, 0), (653, 653, 0), (654, 654, 0), (655, 655, 0), (656, 656, 0), (658, 658, 0), (659, 659, 0), (664, 664, 0), (665, 665, 0), (666, 666, 0), (667, 667, 0), (668, 668, 0), (669, 669, 0), (670, 670, 0), (671, 671, 0), (672, 672, 0), (673, 673, 0), (674, 674, 0), (675, 675, 0), (676, 676, 0), (677, 677, 0), (678, 678, 0), (679, 679, 0), (680, 680, 0)]
theorem fr_fM_sort {s : ev_M} {a1 : Int32} {q : ev_M × Int32} (h : fM_sort s a1 = some q) : fr F_M_sort s q.1 := by
  have g : fr F_M_sort s s := fr.rf
  refine fr_bd2 h fun s1 v2 hc h => ?_
  have gs1 : fr F_M_sort s s1 := g.tr ((fr_fM_call1 hc).mono (F := F_M_sort) (by decide +kernel))
  cases h; exact gs1
def F_M_passes : List (Nat × (Nat × Nat)) := [(549, 549, 1)]
theorem fr_fM_passes {s : ev_M} {q : ev_M × Int32} (h : fM_passes s = some q) : fr F_M_passes s q.1 := by
  have g : fr F_M_passes s s := fr.rf
  refine fr_ltM h (Q := fr F_M_passes s) (g.wI rfl) fun s1 gs1 h => ?_
  refine fr_if h (fun h => ?_) fun h => ?_
  · cases h; exact gs1
  · cases h; exact gs1
def F_M_wrong : List (Nat × (Nat × Nat)) := [(549, 549, 1)]
theorem fr_fM_wrong_b46 {k19 : ev_M → Int32 → Int32 → Int32 → Option (ev_M × Int32)} (hk19 : ∀ {s : ev_M} {z1 : Int32} {z2 : Int32} {z3 : Int32} {q : ev_M × Int32} , k19 s z1 z2 z3 = some q → fr F_M_wrong s q.1) {s : ev_M} {x1 : Int32} {x2 : Int32} {x3 : Int32} {q : ev_M × Int32} (h : fM_wrong_b46 k19 s x1 x2 x3 = some q) : fr F_M_wrong s q.1 := by
  have g : fr F_M_wrong s s := fr.rf
  exact g.tr ((hk19 h))
theorem fr_fM_wrong_h19 : ∀ (n : Nat) {s : ev_M} {x1 : Int32} {x2 : Int32} {x3 : Int32} {q : ev_M × Int32} , fM_wrong_h19 n s x1 x2 x3 = some q → fr F_M_wrong s q.1 := by
  intro n
  induction n with
  | zero => intro s x1 x2 x3 q h; cases h
  | succ n ih =>
    intro s x1 x2 x3 q h
    have g : fr F_M_wrong s s := fr.rf
    refine fr_if h (fun h => ?_) fun h => ?_
    · refine fr_gd h fun c0 h => ?_
      refine fr_if h (fun h => ?_) fun h => ?_
      · exact g.tr ((fr_fM_wrong_b46 ih h))
      · refine fr_if h (fun h => ?_) fun h => ?_
        · cases h; exact g
        · exact g.tr ((fr_fM_wrong_b46 ih h))
    · cases h; exact g
theorem fr_fM_wrong {s : ev_M} {a1 : Int32} {q : ev_M × Int32} (h : fM_wrong s a1 = some q) : fr F_M_wrong s q.1 := by
  have g : fr F_M_wrong s s := fr.rf
  refine fr_ltM h (Q := fr F_M_wrong s) (g.wI rfl) fun s1 gs1 h => ?_
  refine fr_if h (fun h => ?_) fun h => ?_
  · exact gs1.tr ((fr_fM_wrong_h19 1048576 h))
  · cases h; exact gs1
def F_M_row : List (Nat × (Nat × Nat)) := [(549, 549, 1)]
theorem fr_fM_row {s : ev_M} {a1 : Int32} {a2 : Int32} {q : ev_M × Int32} (h : fM_row s a1 a2 = some q) : fr F_M_row s q.1 := by
  have g : fr F_M_row s s := fr.rf
  refine fr_ltM h (Q := fr F_M_row s) (g.wI rfl) fun s1 gs1 h => ?_
  refine fr_if h (fun h => ?_) fun h => ?_
  · refine fr_bd1 h fun v2 hc h => ?_
    refine fr_if h (fun h => ?_) fun h => ?_
    · cases h; exact gs1
    · refine fr_bd1 h fun v3 hc h => ?_
      cases h; exact gs1
  · cases h; exact gs1
def F_PH_out : List (Nat × (Nat × Nat)) := [(1, 1, 3), (1, 1, 5), (1, 1, 6), (3, 3, 0), (9, 9, 7), (9, 9, 8), (9, 9, 14), (9, 9, 15), (13, 13, 0), (14, 14, 0), (15, 15, 2), (15, 15, 3), (15, 15, 8), (17, 17, 0), (18, 18, 0), (19, 19, 0), (20, 20, 0), (21, 21, 0), (22, 22, 0), (24, 24, 0), (25, 25, 0), (26, 26, 0), (27, 27, 0), (28, 28, 0), (29, 29, 0), (30, 30, 3), (30, 30, 5), (30, 30, 8), (30, 30, 10), (30, 30, 12), (30, 30, 15), (30, 30, 16), (31, 31, 0), (33, 33, 0), (34, 34, 0), (35, 35, 0), (36, 36, 0), (37, 37, 0), (39, 39, 0), (40, 40, 0), (41, 41, 0), (42, 42, 0), (44, 44, 0), (45, 45, 0), (47, 47, 0), (48, 48, 0), (49, 49, 0), (50, 50, 0), (51, 51, 0), (52, 52, 3), (52, 52, 4), (52, 52, 5), (52, 52, 6), (52, 52, 9), (52, 52, 10), (52, 52, 14), (53, 53, 0), (54, 54, 0), (56, 56, 0), (57, 57, 0), (58, 58, 0), (59, 59, 0), (60, 60, 0), (61, 61, 0), (63, 63, 0), (64, 64, 0), (65, 65, 0), (66, 66, 0), (68, 75, 0), (72, 72, 0), (73, 73, 0), (74, 74, 0), (76, 76, 0), (77, 77, 0), (78, 78, 4), (78, 78, 7), (78, 78, 9), (78, 78, 10), (78, 78, 12), (78, 78, 14), (79, 79, 0), (80, 80, 0), (82, 82, 0), (83, 83, 0), (84, 84, 0), (85, 85, 0), (87, 87, 0), (88, 88, 0), (89, 89, 0), (90, 90, 0), (91, 91, 0), (93, 95, 0), (97, 97, 0), (98, 98, 0), (99, 99, 0), (100, 100, 6), (100, 100, 7), (102, 102, 0), (102, 123, 0), (103, 103, 0), (104, 104, 0), (105, 105, 0), (106, 106, 0), (107, 107, 0), (108, 108, 0), (109, 109, 0), (110, 110, 0), (111, 111, 0), (112, 112, 0), (113, 113, 0), (115, 115, 0), (116, 116, 0), (117, 117, 0), (119, 119, 0), (120, 120, 0), (121, 121, 0), (125, 125, 4), (126, 126, 0), (127, 127, 0), (128, 128, 0), (130, 137, 0), (138, 138, 4), (138, 138, 10), (138, 138, 11), (138, 138, 13), (140, 140, 0), (141, 141, 0), (142, 142, 0), (143, 143, 0), (144, 144, 0), (146, 157, 0), (158, 158, 0), (160, 171, 0), (172, 172, 0), (173, 173, 0), (174, 174, 0), (175, 175, 0), (177, 177, 0), (177, 179, 0), (178, 178, 0), (179, 179, 0), (180, 180, 0), (181, 181, 0), (183, 191, 0), (193, 448, 0), (449, 449, 5), (449, 449, 7), (451, 451, 0), (452, 452, 0), (453, 453, 0), (454, 454, 0), (455, 455, 0), (456, 456, 0), (457, 457, 0), (459, 459, 0), (460, 460, 0), (461, 461, 0), (462, 462, 0), (463, 463, 0), (464, 464, 0), (466, 545, 0), (546, 546, 0), (547, 547, 0), (548, 548, 0)]
theorem fr_fPH_out {s : ev_M} {a1 : Int32} {q : ev_M × Int32} (h : fPH_out s a1 = some q) : fr F_PH_out s q.1 := by
  have g : fr F_PH_out s s := fr.rf
  refine fr_bd2 h fun s1 v2 hc h => ?_
  have gs1 : fr F_PH_out s s1 := g.tr ((fr_fLog_stages hc).mono (F := F_PH_out) (by decide +kernel))
  refine fr_if h (fun h => ?_) fun h => ?_
  · cases h; exact gs1
  · refine fr_bd2 h fun s3 v4 hc h => ?_
    have gs3 : fr F_PH_out s s3 := gs1.tr ((fr_fPH_act_1 hc).mono (F := F_PH_out) (by decide +kernel))
    cases h; exact gs3
def F_M_out : List (Nat × (Nat × Nat)) := [(549, 549, 1), (549, 549, 3), (549, 549, 10), (549, 549, 11), (549, 549, 14), (549, 549, 15), (549, 549, 16), (549, 549, 17), (549, 549, 23), (549, 549, 24), (549, 549, 25), (549, 549, 28), (549, 549, 34), (549, 549, 39), (549, 549, 44), (549, 549, 49), (549, 549, 50), (549, 549, 51), (549, 549, 52), (549, 549, 59), (549, 549, 84), (549, 549, 85), (549, 549, 86), (549, 549, 87), (549, 549, 88), (549, 549, 92), (549, 549, 94), (549, 549, 102), (549, 549, 108), (549, 549, 112), (549, 549, 115), (549, 549, 120), (549, 549, 126), (549, 549, 130), (549, 549, 135), (549, 549, 140), (549, 549, 141), (549, 549, 142), (549, 549, 147), (549, 549, 153), (549, 549, 154), (549, 549, 167), (552, 552, 0), (553, 553, 0), (554, 554, 0), (558, 558, 0), (559, 559, 0), (560, 560, 0), (561, 561, 0), (562, 562, 0), (563, 563, 0), (564, 564, 0), (565, 565, 0), (566, 566, 0), (567, 567, 0), (568, 568, 0), (569, 569, 0), (570, 570, 0), (571, 571, 0), (572, 572, 0), (573, 573, 0), (574, 574, 0), (575, 575, 0), (576, 576, 0), (577, 577, 0), (578, 578, 0), (579, 579, 0), (580, 580, 0), (581, 581, 0), (582, 582, 0), (583, 583, 0), (584, 584, 0), (585, 585, 0), (586, 586, 0), (587, 587, 0), (588, 588, 0), (589, 589, 0), (590, 590, 0), (591, 591, 0), (592, 592, 0), (593, 593, 0), (594, 594, 0), (595, 595, 0), (596, 596, 0), (597, 597, 0), (598, 598, 0), (599, 599, 0), (600, 600, 0), (601, 601, 0), (602, 602, 0), (603, 603, 0), (604, 604, 0), (605, 605, 0), (606, 606, 0), (607, 607, 0), (608, 608, 0), (609, 609, 0), (610, 610, 0), (611, 611, 0), (612, 612, 0), (613, 613, 0), (614, 614, 0), (615, 615, 0), (616, 616, 0), (617, 617, 0), (618, 618, 0), (619, 619, 0), (620, 620, 0), (621, 621, 0), (622, 622, 0), (623, 623, 0), (624, 624, 0), (625, 625, 0), (626, 626, 0), (627, 627, 0), (628, 628, 0), (629, 629, 0), (630, 630, 0), (631, 631, 0), (632, 632, 0), (633, 633, 0), (634, 634, 0), (635, 635, 0), (636, 636, 0), (637, 637, 0), (638, 638, 0), (639, 639, 0), (640, 640, 0), (641, 641, 0), (642, 642, 0), (643, 643, 0), (644, 644, 0), (645, 645, 0), (646, 646, 0), (647, 647, 0), (648, 648, 0), (649, 649, 0), (650, 650, 0), (651, 651, 0), (652, 652, 0), (653, 653, 0), (654, 654, 0), (655, 655, 0), (656, 656, 0), (658, 658, 0), (659, 659, 0), (664, 664, 0), (665, 665, 0), (666, 666, 0), (667, 667, 0), (668, 668, 0), (669, 669, 0), (670, 670, 0), (671, 671, 0), (672, 672, 0), (673, 673, 0), (674, 674, 0), (675, 675, 0), (676, 676, 0), (677, 677, 0), (678, 678, 0), (679, 679, 0), (680, 680, 0)]
theorem fr_fM_out {s : ev_M} {a1 : Int32} {q : ev_M × Int32} (h : fM_out s a1 = some q) : fr F_M_out s q.1 := by
  have g : fr F_M_out s s := fr.rf
  refine fr_bd2 h fun s1 v2 hc h => ?_
  have gs1 : fr F_M_out s s1 := g.tr ((fr_fM_call1 hc).mono (F := F_M_out) (by decide +kernel))
  cases h; exact gs1
def F_PH_leg : List (Nat × (Nat × Nat)) := [(1, 1, 3), (1, 1, 5), (1, 1, 6), (3, 3, 0), (9, 9, 7), (9, 9, 8), (9, 9, 14), (9, 9, 15), (13, 13, 0), (14, 14, 0), (15, 15, 2), (15, 15, 3), (15, 15, 8), (17, 17, 0), (18, 18, 0), (19, 19, 0), (20, 20, 0), (21, 21, 0), (22, 22, 0), (24, 24, 0), (25, 25, 0), (26, 26, 0), (27, 27, 0), (28, 28, 0), (29, 29, 0), (30, 30, 3), (30, 30, 5), (30, 30, 8), (30, 30, 10), (30, 30, 12), (30, 30, 15), (30, 30, 16), (31, 31, 0), (33, 33, 0), (34, 34, 0), (35, 35, 0), (36, 36, 0), (37, 37, 0), (39, 39, 0), (40, 40, 0), (41, 41, 0), (42, 42, 0), (44, 44, 0), (45, 45, 0), (47, 47, 0), (48, 48, 0), (49, 49, 0), (50, 50, 0), (51, 51, 0), (52, 52, 3), (52, 52, 4), (52, 52, 5), (52, 52, 6), (52, 52, 9), (52, 52, 10), (52, 52, 14), (53, 53, 0), (54, 54, 0), (56, 56, 0), (57, 57, 0), (58, 58, 0), (59, 59, 0), (60, 60, 0), (61, 61, 0), (63, 63, 0), (64, 64, 0), (65, 65, 0), (66, 66, 0), (68, 75, 0), (72, 72, 0), (73, 73, 0), (74, 74, 0), (76, 76, 0), (77, 77, 0), (78, 78, 4), (78, 78, 7), (78, 78, 9), (78, 78, 10), (78, 78, 12), (78, 78, 14), (79, 79, 0), (80, 80, 0), (82, 82, 0), (83, 83, 0), (84, 84, 0), (85, 85, 0), (87, 87, 0), (88, 88, 0), (89, 89, 0), (90, 90, 0), (91, 91, 0), (93, 95, 0), (97, 97, 0), (98, 98, 0), (99, 99, 0), (100, 100, 6), (100, 100, 7), (102, 102, 0), (102, 123, 0), (103, 103, 0), (104, 104, 0), (105, 105, 0), (106, 106, 0), (107, 107, 0), (108, 108, 0), (109, 109, 0), (110, 110, 0), (111, 111, 0), (112, 112, 0), (113, 113, 0), (115, 115, 0), (116, 116, 0), (117, 117, 0), (119, 119, 0), (120, 120, 0), (121, 121, 0), (125, 125, 4), (126, 126, 0), (127, 127, 0), (128, 128, 0), (130, 137, 0), (138, 138, 4), (138, 138, 10), (138, 138, 11), (138, 138, 13), (140, 140, 0), (141, 141, 0), (142, 142, 0), (143, 143, 0), (144, 144, 0), (146, 157, 0), (158, 158, 0), (160, 171, 0), (172, 172, 0), (173, 173, 0), (174, 174, 0), (175, 175, 0), (177, 177, 0), (177, 179, 0), (178, 178, 0), (179, 179, 0), (180, 180, 0), (181, 181, 0), (183, 191, 0), (193, 448, 0), (449, 449, 5), (449, 449, 7), (451, 451, 0), (452, 452, 0), (453, 453, 0), (454, 454, 0), (455, 455, 0), (456, 456, 0), (457, 457, 0), (459, 459, 0), (460, 460, 0), (461, 461, 0), (462, 462, 0), (463, 463, 0), (464, 464, 0), (466, 545, 0), (546, 546, 0), (547, 547, 0), (548, 548, 0)]
theorem fr_fPH_leg {s : ev_M} {a1 : Int32} {a2 : Int32} {a3 : Int32} {a4 : Int32} {a5 : Int32} {q : ev_M × Int32} (h : fPH_leg s a1 a2 a3 a4 a5 = some q) : fr F_PH_leg s q.1 := by
  have g : fr F_PH_leg s s := fr.rf
  refine fr_bd2 h fun s1 v2 hc h => ?_
  have gs1 : fr F_PH_leg s s1 := g.tr ((fr_fLog_stages hc).mono (F := F_PH_leg) (by decide +kernel))
  refine fr_if h (fun h => ?_) fun h => ?_
  · cases h; exact gs1
  · refine fr_bd2 h fun s3 v4 hc h => ?_
    have gs3 : fr F_PH_leg s s3 := gs1.tr ((fr_fPH_act_1 hc).mono (F := F_PH_leg) (by decide +kernel))
    cases h; exact gs3
def F_M_leg : List (Nat × (Nat × Nat)) := [(549, 549, 1), (549, 549, 3), (549, 549, 10), (549, 549, 11), (549, 549, 14), (549, 549, 15), (549, 549, 16), (549, 549, 17), (549, 549, 23), (549, 549, 24), (549, 549, 25), (549, 549, 28), (549, 549, 34), (549, 549, 39), (549, 549, 44), (549, 549, 49), (549, 549, 50), (549, 549, 51), (549, 549, 52), (549, 549, 59), (549, 549, 84), (549, 549, 85), (549, 549, 86), (549, 549, 87), (549, 549, 88), (549, 549, 92), (549, 549, 94), (549, 549, 102), (549, 549, 108), (549, 549, 112), (549, 549, 115), (549, 549, 120), (549, 549, 126), (549, 549, 130), (549, 549, 135), (549, 549, 140), (549, 549, 141), (549, 549, 142), (549, 549, 147), (549, 549, 153), (549, 549, 154), (549, 549, 167), (552, 552, 0), (553, 553, 0), (554, 554, 0), (558, 558, 0), (559, 559, 0), (560, 560, 0), (561, 561, 0), (562, 562, 0), (563, 563, 0), (564, 564, 0), (565, 565, 0), (566, 566, 0), (567, 567, 0), (568, 568, 0), (569, 569, 0), (570, 570, 0), (571, 571, 0), (572, 572, 0), (573, 573, 0), (574, 574, 0), (575, 575, 0), (576, 576, 0), (577, 577, 0), (578, 578, 0), (579, 579, 0), (580, 580, 0), (581, 581, 0), (582, 582, 0), (583, 583, 0), (584, 584, 0), (585, 585, 0), (586, 586, 0), (587, 587, 0), (588, 588, 0), (589, 589, 0), (590, 590, 0), (591, 591, 0), (592, 592, 0), (593, 593, 0), (594, 594, 0), (595, 595, 0), (596, 596, 0), (597, 597, 0), (598, 598, 0), (599, 599, 0), (600, 600, 0), (601, 601, 0), (602, 602, 0), (603, 603, 0), (604, 604, 0), (605, 605, 0), (606, 606, 0), (607, 607, 0), (608, 608, 0), (609, 609, 0), (610, 610, 0), (611, 611, 0), (612, 612, 0), (613, 613, 0), (614, 614, 0), (615, 615, 0), (616, 616, 0), (617, 617, 0), (618, 618, 0), (619, 619, 0), (620, 620, 0), (621, 621, 0), (622, 622, 0), (623, 623, 0), (624, 624, 0), (625, 625, 0), (626, 626, 0), (627, 627, 0), (628, 628, 0), (629, 629, 0), (630, 630, 0), (631, 631, 0), (632, 632, 0), (633, 633, 0), (634, 634, 0), (635, 635, 0), (636, 636, 0), (637, 637, 0), (638, 638, 0), (639, 639, 0), (640, 640, 0), (641, 641, 0), (642, 642, 0), (643, 643, 0), (644, 644, 0), (645, 645, 0), (646, 646, 0), (647, 647, 0), (648, 648, 0), (649, 649, 0), (650, 650, 0), (651, 651, 0), (652, 652, 0), (653, 653, 0), (654, 654, 0), (655, 655, 0), (656, 656, 0), (658, 658, 0), (659, 659, 0), (664, 664, 0), (665, 665, 0), (666, 666, 0), (667, 667, 0), (668, 668, 0), (669, 669, 0), (670, 670, 0), (671, 671, 0), (672, 672, 0), (673, 673, 0), (674, 674, 0), (675, 675, 0), (676, 676, 0), (677, 677, 0), (678, 678, 0), (679, 679, 0), (680, 680, 0)]
theorem fr_fM_leg {s : ev_M} {a1 : Int32} {a2 : Int32} {a3 : Int32} {a4 : Int32} {a5 : Int32} {q : ev_M × Int32} (h : fM_leg s a1 a2 a3 a4 a5 = some q) : fr F_M_leg s q.1 := by
  have g : fr F_M_leg s s := fr.rf
  refine fr_ltM h (Q := fr F_M_leg s) (g.wI rfl) fun s1 gs1 h => ?_
  refine fr_bd2 h fun s2 v3 hc h => ?_
  have gs2 : fr F_M_leg s s2 := gs1.tr ((fr_fM_call4 hc).mono (F := F_M_leg) (by decide +kernel))
  cases h; exact gs2
def F_PH_late : List (Nat × (Nat × Nat)) := [(1, 1, 3), (1, 1, 5), (1, 1, 6), (3, 3, 0), (9, 9, 7), (9, 9, 8), (9, 9, 14), (9, 9, 15), (13, 13, 0), (14, 14, 0), (15, 15, 2), (15, 15, 3), (15, 15, 8), (17, 17, 0), (18, 18, 0), (19, 19, 0), (20, 20, 0), (21, 21, 0), (22, 22, 0), (24, 24, 0), (25, 25, 0), (26, 26, 0), (27, 27, 0), (28, 28, 0), (29, 29, 0), (30, 30, 3), (30, 30, 5), (30, 30, 8), (30, 30, 10), (30, 30, 12), (30, 30, 15), (30, 30, 16), (31, 31, 0), (33, 33, 0), (34, 34, 0), (35, 35, 0), (36, 36, 0), (37, 37, 0), (39, 39, 0), (40, 40, 0), (41, 41, 0), (42, 42, 0), (44, 44, 0), (45, 45, 0), (47, 47, 0), (48, 48, 0), (49, 49, 0), (50, 50, 0), (51, 51, 0), (52, 52, 3), (52, 52, 4), (52, 52, 5), (52, 52, 6), (52, 52, 9), (52, 52, 10), (52, 52, 14), (53, 53, 0), (54, 54, 0), (56, 56, 0), (57, 57, 0), (58, 58, 0), (59, 59, 0), (60, 60, 0), (61, 61, 0), (63, 63, 0), (64, 64, 0), (65, 65, 0), (66, 66, 0), (68, 75, 0), (72, 72, 0), (73, 73, 0), (74, 74, 0), (76, 76, 0), (77, 77, 0), (78, 78, 4), (78, 78, 7), (78, 78, 9), (78, 78, 10), (78, 78, 12), (78, 78, 14), (79, 79, 0), (80, 80, 0), (82, 82, 0), (83, 83, 0), (84, 84, 0), (85, 85, 0), (87, 87, 0), (88, 88, 0), (89, 89, 0), (90, 90, 0), (91, 91, 0), (93, 95, 0), (97, 97, 0), (98, 98, 0), (99, 99, 0), (100, 100, 6), (100, 100, 7), (102, 102, 0), (102, 123, 0), (103, 103, 0), (104, 104, 0), (105, 105, 0), (106, 106, 0), (107, 107, 0), (108, 108, 0), (109, 109, 0), (110, 110, 0), (111, 111, 0), (112, 112, 0), (113, 113, 0), (115, 115, 0), (116, 116, 0), (117, 117, 0), (119, 119, 0), (120, 120, 0), (121, 121, 0), (125, 125, 4), (126, 126, 0), (127, 127, 0), (128, 128, 0), (130, 137, 0), (138, 138, 4), (138, 138, 10), (138, 138, 11), (138, 138, 13), (140, 140, 0), (141, 141, 0), (142, 142, 0), (143, 143, 0), (144, 144, 0), (146, 157, 0), (158, 158, 0), (160, 171, 0), (172, 172, 0), (173, 173, 0), (174, 174, 0), (175, 175, 0), (177, 177, 0), (177, 179, 0), (178, 178, 0), (179, 179, 0), (180, 180, 0), (181, 181, 0), (183, 191, 0), (193, 448, 0), (449, 449, 5), (449, 449, 7), (451, 451, 0), (452, 452, 0), (453, 453, 0), (454, 454, 0), (455, 455, 0), (456, 456, 0), (457, 457, 0), (459, 459, 0), (460, 460, 0), (461, 461, 0), (462, 462, 0), (463, 463, 0), (464, 464, 0), (466, 545, 0), (546, 546, 0), (547, 547, 0), (548, 548, 0)]
theorem fr_fPH_late {s : ev_M} {a1 : Int32} {a2 : Int32} {q : ev_M × Int32} (h : fPH_late s a1 a2 = some q) : fr F_PH_late s q.1 := by
  have g : fr F_PH_late s s := fr.rf
  refine fr_bd2 h fun s1 v2 hc h => ?_
  have gs1 : fr F_PH_late s s1 := g.tr ((fr_fLog_stages hc).mono (F := F_PH_late) (by decide +kernel))
  refine fr_if h (fun h => ?_) fun h => ?_
  · cases h; exact gs1
  · refine fr_bd2 h fun s3 v4 hc h => ?_
    have gs3 : fr F_PH_late s s3 := gs1.tr ((fr_fPH_act_1 hc).mono (F := F_PH_late) (by decide +kernel))
    cases h; exact gs3
def F_M_late : List (Nat × (Nat × Nat)) := [(549, 549, 1), (549, 549, 3), (549, 549, 10), (549, 549, 11), (549, 549, 14), (549, 549, 15), (549, 549, 16), (549, 549, 17), (549, 549, 23), (549, 549, 24), (549, 549, 25), (549, 549, 28), (549, 549, 34), (549, 549, 39), (549, 549, 44), (549, 549, 49), (549, 549, 50), (549, 549, 51), (549, 549, 52), (549, 549, 59), (549, 549, 84), (549, 549, 85), (549, 549, 86), (549, 549, 87), (549, 549, 88), (549, 549, 92), (549, 549, 94), (549, 549, 102), (549, 549, 108), (549, 549, 112), (549, 549, 115), (549, 549, 120), (549, 549, 126), (549, 549, 130), (549, 549, 135), (549, 549, 140), (549, 549, 141), (549, 549, 142), (549, 549, 147), (549, 549, 153), (549, 549, 154), (549, 549, 167), (552, 552, 0), (553, 553, 0), (554, 554, 0), (558, 558, 0), (559, 559, 0), (560, 560, 0), (561, 561, 0), (562, 562, 0), (563, 563, 0), (564, 564, 0), (565, 565, 0), (566, 566, 0), (567, 567, 0), (568, 568, 0), (569, 569, 0), (570, 570, 0), (571, 571, 0), (572, 572, 0), (573, 573, 0), (574, 574, 0), (575, 575, 0), (576, 576, 0), (577, 577, 0), (578, 578, 0), (579, 579, 0), (580, 580, 0), (581, 581, 0), (582, 582, 0), (583, 583, 0), (584, 584, 0), (585, 585, 0), (586, 586, 0), (587, 587, 0), (588, 588, 0), (589, 589, 0), (590, 590, 0), (591, 591, 0), (592, 592, 0), (593, 593, 0), (594, 594, 0), (595, 595, 0), (596, 596, 0), (597, 597, 0), (598, 598, 0), (599, 599, 0), (600, 600, 0), (601, 601, 0), (602, 602, 0), (603, 603, 0), (604, 604, 0), (605, 605, 0), (606, 606, 0), (607, 607, 0), (608, 608, 0), (609, 609, 0), (610, 610, 0), (611, 611, 0), (612, 612, 0), (613, 613, 0), (614, 614, 0), (615, 615, 0), (616, 616, 0), (617, 617, 0), (618, 618, 0), (619, 619, 0), (620, 620, 0), (621, 621, 0), (622, 622, 0), (623, 623, 0), (624, 624, 0), (625, 625, 0), (626, 626, 0), (627, 627, 0), (628, 628, 0), (629, 629, 0), (630, 630, 0), (631, 631, 0), (632, 632, 0), (633, 633, 0), (634, 634, 0), (635, 635, 0), (636, 636, 0), (637, 637, 0), (638, 638, 0), (639, 639, 0), (640, 640, 0), (641, 641, 0), (642, 642, 0), (643, 643, 0), (644, 644, 0), (645, 645, 0), (646, 646, 0), (647, 647, 0), (648, 648, 0), (649, 649, 0), (650, 650, 0), (651, 651, 0), (652, 652, 0), (653, 653, 0), (654, 654, 0), (655, 655, 0), (656, 656, 0), (658, 658, 0), (659, 659, 0), (664, 664, 0), (665, 665, 0), (666, 666, 0), (667, 667, 0), (668, 668, 0), (669, 669, 0), (670, 670, 0), (671, 671, 0), (672, 672, 0), (673, 673, 0), (674, 674, 0), (675, 675, 0), (676, 676, 0), (677, 677, 0), (678, 678, 0), (679, 679, 0), (680, 680, 0)]
theorem fr_fM_late {s : ev_M} {a1 : Int32} {a2 : Int32} {q : ev_M × Int32} (h : fM_late s a1 a2 = some q) : fr F_M_late s q.1 := by
  have g : fr F_M_late s s := fr.rf
  refine fr_bd2 h fun s1 v2 hc h => ?_
  have gs1 : fr F_M_late s s1 := g.tr ((fr_fM_call2 hc).mono (F := F_M_late) (by decide +kernel))
  cases h; exact gs1
def F_PH_bag : List (Nat × (Nat × Nat)) := [(1, 1, 3), (1, 1, 5), (1, 1, 6), (3, 3, 0), (9, 9, 7), (9, 9, 8), (9, 9, 14), (9, 9, 15), (13, 13, 0), (14, 14, 0), (15, 15, 2), (15, 15, 3), (15, 15, 8), (17, 17, 0), (18, 18, 0), (19, 19, 0), (20, 20, 0), (21, 21, 0), (22, 22, 0), (24, 24, 0), (25, 25, 0), (26, 26, 0), (27, 27, 0), (28, 28, 0), (29, 29, 0), (30, 30, 3), (30, 30, 5), (30, 30, 8), (30, 30, 10), (30, 30, 12), (30, 30, 15), (30, 30, 16), (31, 31, 0), (33, 33, 0), (34, 34, 0), (35, 35, 0), (36, 36, 0), (37, 37, 0), (39, 39, 0), (40, 40, 0), (41, 41, 0), (42, 42, 0), (44, 44, 0), (45, 45, 0), (47, 47, 0), (48, 48, 0), (49, 49, 0), (50, 50, 0), (51, 51, 0), (52, 52, 3), (52, 52, 4), (52, 52, 5), (52, 52, 6), (52, 52, 9), (52, 52, 10), (52, 52, 14), (53, 53, 0), (54, 54, 0), (56, 56, 0), (57, 57, 0), (58, 58, 0), (59, 59, 0), (60, 60, 0), (61, 61, 0), (63, 63, 0), (64, 64, 0), (65, 65, 0), (66, 66, 0), (68, 75, 0), (72, 72, 0), (73, 73, 0), (74, 74, 0), (76, 76, 0), (77, 77, 0), (78, 78, 4), (78, 78, 7), (78, 78, 9), (78, 78, 10), (78, 78, 12), (78, 78, 14), (79, 79, 0), (80, 80, 0), (82, 82, 0), (83, 83, 0), (84, 84, 0), (85, 85, 0), (87, 87, 0), (88, 88, 0), (89, 89, 0), (90, 90, 0), (91, 91, 0), (93, 95, 0), (97, 97, 0), (98, 98, 0), (99, 99, 0), (100, 100, 6), (100, 100, 7), (102, 102, 0), (102, 123, 0), (103, 103, 0), (104, 104, 0), (105, 105, 0), (106, 106, 0), (107, 107, 0), (108, 108, 0), (109, 109, 0), (110, 110, 0), (111, 111, 0), (112, 112, 0), (113, 113, 0), (115, 115, 0), (116, 116, 0), (117, 117, 0), (119, 119, 0), (120, 120, 0), (121, 121, 0), (125, 125, 4), (126, 126, 0), (127, 127, 0), (128, 128, 0), (130, 137, 0), (138, 138, 4), (138, 138, 10), (138, 138, 11), (138, 138, 13), (140, 140, 0), (141, 141, 0), (142, 142, 0), (143, 143, 0), (144, 144, 0), (146, 157, 0), (158, 158, 0), (160, 171, 0), (172, 172, 0), (173, 173, 0), (174, 174, 0), (175, 175, 0), (177, 177, 0), (177, 179, 0), (178, 178, 0), (179, 179, 0), (180, 180, 0), (181, 181, 0), (183, 191, 0), (193, 448, 0), (449, 449, 5), (449, 449, 7), (451, 451, 0), (452, 452, 0), (453, 453, 0), (454, 454, 0), (455, 455, 0), (456, 456, 0), (457, 457, 0), (459, 459, 0), (460, 460, 0), (461, 461, 0), (462, 462, 0), (463, 463, 0), (464, 464, 0), (466, 545, 0), (546, 546, 0), (547, 547, 0), (548, 548, 0)]
theorem fr_fPH_bag {s : ev_M} {a1 : Int32} {a2 : Int32} {q : ev_M × Int32} (h : fPH_bag s a1 a2 = some q) : fr F_PH_bag s q.1 := by
  have g : fr F_PH_bag s s := fr.rf
  refine fr_bd2 h fun s1 v2 hc h => ?_
  have gs1 : fr F_PH_bag s s1 := g.tr ((fr_fLog_stages hc).mono (F := F_PH_bag) (by decide +kernel))
  refine fr_if h (fun h => ?_) fun h => ?_
  · cases h; exact gs1
  · refine fr_bd2 h fun s3 v4 hc h => ?_
    have gs3 : fr F_PH_bag s s3 := gs1.tr ((fr_fPH_act_1 hc).mono (F := F_PH_bag) (by decide +kernel))
    cases h; exact gs3
def F_M_bag : List (Nat × (Nat × Nat)) := [(549, 549, 1), (549, 549, 3), (549, 549, 10), (549, 549, 11), (549, 549, 14), (549, 549, 15), (549, 549, 16), (549, 549, 17), (549, 549, 23), (549, 549, 24), (549, 549, 25), (549, 549, 28), (549, 549, 34), (549, 549, 39), (549, 549, 44), (549, 549, 49), (549, 549, 50), (549, 549, 51), (549, 549, 52), (549, 549, 59), (549, 549, 84), (549, 549, 85), (549, 549, 86), (549, 549, 87), (549, 549, 88), (549, 549, 92), (549, 549, 94), (549, 549, 102), (549, 549, 108), (549, 549, 112), (549, 549, 115), (549, 549, 120), (549, 549, 126), (549, 549, 130), (549, 549, 135), (549, 549, 140), (549, 549, 141), (549, 549, 142), (549, 549, 147), (549, 549, 153), (549, 549, 154), (549, 549, 167), (552, 552, 0), (553, 553, 0), (554, 554, 0), (558, 558, 0), (559, 559, 0), (560, 560, 0), (561, 561, 0), (562, 562, 0), (563, 563, 0), (564, 564, 0), (565, 565, 0), (566, 566, 0), (567, 567, 0), (568, 568, 0), (569, 569, 0), (570, 570, 0), (571, 571, 0), (572, 572, 0), (573, 573, 0), (574, 574, 0), (575, 575, 0), (576, 576, 0), (577, 577, 0), (578, 578, 0), (579, 579, 0), (580, 580, 0), (581, 581, 0), (582, 582, 0), (583, 583, 0), (584, 584, 0), (585, 585, 0), (586, 586, 0), (587, 587, 0), (588, 588, 0), (589, 589, 0), (590, 590, 0), (591, 591, 0), (592, 592, 0), (593, 593, 0), (594, 594, 0), (595, 595, 0), (596, 596, 0), (597, 597, 0), (598, 598, 0), (599, 599, 0), (600, 600, 0), (601, 601, 0), (602, 602, 0), (603, 603, 0), (604, 604, 0), (605, 605, 0), (606, 606, 0), (607, 607, 0), (608, 608, 0), (609, 609, 0), (610, 610, 0), (611, 611, 0), (612, 612, 0), (613, 613, 0), (614, 614, 0), (615, 615, 0), (616, 616, 0), (617, 617, 0), (618, 618, 0), (619, 619, 0), (620, 620, 0), (621, 621, 0), (622, 622, 0), (623, 623, 0), (624, 624, 0), (625, 625, 0), (626, 626, 0), (627, 627, 0), (628, 628, 0), (629, 629, 0), (630, 630, 0), (631, 631, 0), (632, 632, 0), (633, 633, 0), (634, 634, 0), (635, 635, 0), (636, 636, 0), (637, 637, 0), (638, 638, 0), (639, 639, 0), (640, 640, 0), (641, 641, 0), (642, 642, 0), (643, 643, 0), (644, 644, 0), (645, 645, 0), (646, 646, 0), (647, 647, 0), (648, 648, 0), (649, 649, 0), (650, 650, 0), (651, 651, 0), (652, 652, 0), (653, 653, 0), (654, 654, 0), (655, 655, 0), (656, 656, 0), (658, 658, 0), (659, 659, 0), (664, 664, 0), (665, 665, 0), (666, 666, 0), (667, 667, 0), (668, 668, 0), (669, 669, 0), (670, 670, 0), (671, 671, 0), (672, 672, 0), (673, 673, 0), (674, 674, 0), (675, 675, 0), (676, 676, 0), (677, 677, 0), (678, 678, 0), (679, 679, 0), (680, 680, 0)]
theorem fr_fM_bag {s : ev_M} {a1 : Int32} {a2 : Int32} {q : ev_M × Int32} (h : fM_bag s a1 a2 = some q) : fr F_M_bag s q.1 := by
  have g : fr F_M_bag s s := fr.rf
  refine fr_bd2 h fun s1 v2 hc h => ?_
  have gs1 : fr F_M_bag s s1 := g.tr ((fr_fM_call2 hc).mono (F := F_M_bag) (by decide +kernel))
  cases h; exact gs1
def F_PH_into : List (Nat × (Nat × Nat)) := [(1, 1, 3), (1, 1, 5), (1, 1, 6), (3, 3, 0), (9, 9, 7), (9, 9, 8), (9, 9, 14), (9, 9, 15), (13, 13, 0), (14, 14, 0), (15, 15, 2), (15, 15, 3), (15, 15, 8), (17, 17, 0), (18, 18, 0), (19, 19, 0), (20, 20, 0), (21, 21, 0), (22, 22, 0), (24, 24, 0), (25, 25, 0), (26, 26, 0), (27, 27, 0), (28, 28, 0), (29, 29, 0), (30, 30, 3), (30, 30, 5), (30, 30, 8), (30, 30, 10), (30, 30, 12), (30, 30, 15), (30, 30, 16), (31, 31, 0), (33, 33, 0), (34, 34, 0), (35, 35, 0), (36, 36, 0), (37, 37, 0), (39, 39, 0), (40, 40, 0), (41, 41, 0), (42, 42, 0), (44, 44, 0), (45, 45, 0), (47, 47, 0), (48, 48, 0), (49, 49, 0), (50, 50, 0), (51, 51, 0), (52, 52, 3), (52, 52, 4), (52, 52, 5), (52, 52, 6), (52, 52, 9), (52, 52, 10), (52, 52, 14), (53, 53, 0), (54, 54, 0), (56, 56, 0), (57, 57, 0), (58, 58, 0), (59, 59, 0), (60, 60, 0), (61, 61, 0), (63, 63, 0), (64, 64, 0), (65, 65, 0), (66, 66, 0), (68, 75, 0), (72, 72, 0), (73, 73, 0), (74, 74, 0), (76, 76, 0), (77, 77, 0), (78, 78, 4), (78, 78, 7), (78, 78, 9), (78, 78, 10), (78, 78, 12), (78, 78, 14), (79, 79, 0), (80, 80, 0), (82, 82, 0), (83, 83, 0), (84, 84, 0), (85, 85, 0), (87, 87, 0), (88, 88, 0), (89, 89, 0), (90, 90, 0), (91, 91, 0), (93, 95, 0), (97, 97, 0), (98, 98, 0), (99, 99, 0), (100, 100, 6), (100, 100, 7), (102, 102, 0), (102, 123, 0), (103, 103, 0), (104, 104, 0), (105, 105, 0), (106, 106, 0), (107, 107, 0), (108, 108, 0), (109, 109, 0), (110, 110, 0), (111, 111, 0), (112, 112, 0), (113, 113, 0), (115, 115, 0), (116, 116, 0), (117, 117, 0), (119, 119, 0), (120, 120, 0), (121, 121, 0), (125, 125, 4), (126, 126, 0), (127, 127, 0), (128, 128, 0), (130, 137, 0), (138, 138, 4), (138, 138, 10), (138, 138, 11), (138, 138, 13), (140, 140, 0), (141, 141, 0), (142, 142, 0), (143, 143, 0), (144, 144, 0), (146, 157, 0), (158, 158, 0), (160, 171, 0), (172, 172, 0), (173, 173, 0), (174, 174, 0), (175, 175, 0), (177, 177, 0), (177, 179, 0), (178, 178, 0), (179, 179, 0), (180, 180, 0), (181, 181, 0), (183, 191, 0), (193, 448, 0), (449, 449, 5), (449, 449, 7), (451, 451, 0), (452, 452, 0), (453, 453, 0), (454, 454, 0), (455, 455, 0), (456, 456, 0), (457, 457, 0), (459, 459, 0), (460, 460, 0), (461, 461, 0), (462, 462, 0), (463, 463, 0), (464, 464, 0), (466, 545, 0), (546, 546, 0), (547, 547, 0), (548, 548, 0)]
theorem fr_fPH_into {s : ev_M} {a1 : Int32} {a2 : Int32} {q : ev_M × Int32} (h : fPH_into s a1 a2 = some q) : fr F_PH_into s q.1 := by
  have g : fr F_PH_into s s := fr.rf
  refine fr_bd2 h fun s1 v2 hc h => ?_
  have gs1 : fr F_PH_into s s1 := g.tr ((fr_fLog_stages hc).mono (F := F_PH_into) (by decide +kernel))
  refine fr_if h (fun h => ?_) fun h => ?_
  · cases h; exact gs1
  · refine fr_bd2 h fun s3 v4 hc h => ?_
    have gs3 : fr F_PH_into s s3 := gs1.tr ((fr_fPH_act_1 hc).mono (F := F_PH_into) (by decide +kernel))
    cases h; exact gs3
def F_M_into : List (Nat × (Nat × Nat)) := [(549, 549, 1), (549, 549, 3), (549, 549, 10), (549, 549, 11), (549, 549, 14), (549, 549, 15), (549, 549, 16), (549, 549, 17), (549, 549, 23), (549, 549, 24), (549, 549, 25), (549, 549, 28), (549, 549, 34), (549, 549, 39), (549, 549, 44), (549, 549, 49), (549, 549, 50), (549, 549, 51), (549, 549, 52), (549, 549, 59), (549, 549, 84), (549, 549, 85), (549, 549, 86), (549, 549, 87), (549, 549, 88), (549, 549, 92), (549, 549, 94), (549, 549, 102), (549, 549, 108), (549, 549, 112), (549, 549, 115), (549, 549, 120), (549, 549, 126), (549, 549, 130), (549, 549, 135), (549, 549, 140), (549, 549, 141), (549, 549, 142), (549, 549, 147), (549, 549, 153), (549, 549, 154), (549, 549, 167), (552, 552, 0), (553, 553, 0), (554, 554, 0), (558, 558, 0), (559, 559, 0), (560, 560, 0), (561, 561, 0), (562, 562, 0), (563, 563, 0), (564, 564, 0), (565, 565, 0), (566, 566, 0), (567, 567, 0), (568, 568, 0), (569, 569, 0), (570, 570, 0), (571, 571, 0), (572, 572, 0), (573, 573, 0), (574, 574, 0), (575, 575, 0), (576, 576, 0), (577, 577, 0), (578, 578, 0), (579, 579, 0), (580, 580, 0), (581, 581, 0), (582, 582, 0), (583, 583, 0), (584, 584, 0), (585, 585, 0), (586, 586, 0), (587, 587, 0), (588, 588, 0), (589, 589, 0), (590, 590, 0), (591, 591, 0), (592, 592, 0), (593, 593, 0), (594, 594, 0), (595, 595, 0), (596, 596, 0), (597, 597, 0), (598, 598, 0), (599, 599, 0), (600, 600, 0), (601, 601, 0), (602, 602, 0), (603, 603, 0), (604, 604, 0), (605, 605, 0), (606, 606, 0), (607, 607, 0), (608, 608, 0), (609, 609, 0), (610, 610, 0), (611, 611, 0), (612, 612, 0), (613, 613, 0), (614, 614, 0), (615, 615, 0), (616, 616, 0), (617, 617, 0), (618, 618, 0), (619, 619, 0), (620, 620, 0), (621, 621, 0), (622, 622, 0), (623, 623, 0), (624, 624, 0), (625, 625, 0), (626, 626, 0), (627, 627, 0), (628, 628, 0), (629, 629, 0), (630, 630, 0), (631, 631, 0), (632, 632, 0), (633, 633, 0), (634, 634, 0), (635, 635, 0), (636, 636, 0), (637, 637, 0), (638, 638, 0), (639, 639, 0), (640, 640, 0), (641, 641, 0), (642, 642, 0), (643, 643, 0), (644, 644, 0), (645, 645, 0), (646, 646, 0), (647, 647, 0), (648, 648, 0), (649, 649, 0), (650, 650, 0), (651, 651, 0), (652, 652, 0), (653, 653, 0), (654, 654, 0), (655, 655, 0), (656, 656, 0), (658, 658, 0), (659, 659, 0), (664, 664, 0), (665, 665, 0), (666, 666, 0), (667, 667, 0), (668, 668, 0), (669, 669, 0), (670, 670, 0), (671, 671, 0), (672, 672, 0), (673, 673, 0), (674, 674, 0), (675, 675, 0), (676, 676, 0), (677, 677, 0), (678, 678, 0), (679, 679, 0), (680, 680, 0)]
theorem fr_fM_into {s : ev_M} {a1 : Int32} {a2 : Int32} {q : ev_M × Int32} (h : fM_into s a1 a2 = some q) : fr F_M_into s q.1 := by
  have g : fr F_M_into s s := fr.rf
  refine fr_bd2 h fun s1 v2 hc h => ?_
  have gs1 : fr F_M_into s s1 := g.tr ((fr_fM_call2 hc).mono (F := F_M_into) (by decide +kernel))
  cases h; exact gs1
def F_PH_closeBag : List (Nat × (Nat × Nat)) := [(1, 1, 3), (1, 1, 5), (1, 1, 6), (3, 3, 0), (9, 9, 7), (9, 9, 8), (9, 9, 14), (9, 9, 15), (13, 13, 0), (14, 14, 0), (15, 15, 2), (15, 15, 3), (15, 15, 8), (17, 17, 0), (18, 18, 0), (19, 19, 0), (20, 20, 0), (21, 21, 0), (22, 22, 0), (24, 24, 0), (25, 25, 0), (26, 26, 0), (27, 27, 0), (28, 28, 0), (29, 29, 0), (30, 30, 3), (30, 30, 5), (30, 30, 8), (30, 30, 10), (30, 30, 12), (30, 30, 15), (30, 30, 16), (31, 31, 0), (33, 33, 0), (34, 34, 0), (35, 35, 0), (36, 36, 0), (37, 37, 0), (39, 39, 0), (40, 40, 0), (41, 41, 0), (42, 42, 0), (44, 44, 0), (45, 45, 0), (47, 47, 0), (48, 48, 0), (49, 49, 0), (50, 50, 0), (51, 51, 0), (52, 52, 3), (52, 52, 4), (52, 52, 5), (52, 52, 6), (52, 52, 9), (52, 52, 10), (52, 52, 14), (53, 53, 0), (54, 54, 0), (56, 56, 0), (57, 57, 0), (58, 58, 0), (59, 59, 0), (60, 60, 0), (61, 61, 0), (63, 63, 0), (64, 64, 0), (65, 65, 0), (66, 66, 0), (68, 75, 0), (72, 72, 0), (73, 73, 0), (74, 74, 0), (76, 76, 0), (77, 77, 0), (78, 78, 4), (78, 78, 7), (78, 78, 9), (78, 78, 10), (78, 78, 12), (78, 78, 14), (79, 79, 0), (80, 80, 0), (82, 82, 0), (83, 83, 0), (84, 84, 0), (85, 85, 0), (87, 87, 0), (88, 88, 0), (89, 89, 0), (90, 90, 0), (91, 91, 0), (93, 95, 0), (97, 97, 0), (98, 98, 0), (99, 99, 0), (100, 100, 6), (100, 100, 7), (102, 102, 0), (102, 123, 0), (103, 103, 0), (104, 104, 0), (105, 105, 0), (106, 106, 0), (107, 107, 0), (108, 108, 0), (109, 109, 0), (110, 110, 0), (111, 111, 0), (112, 112, 0), (113, 113, 0), (115, 115, 0), (116, 116, 0), (117, 117, 0), (119, 119, 0), (120, 120, 0), (121, 121, 0), (125, 125, 4), (126, 126, 0), (127, 127, 0), (128, 128, 0), (130, 137, 0), (138, 138, 4), (138, 138, 10), (138, 138, 11), (138, 138, 13), (140, 140, 0), (141, 141, 0), (142, 142, 0), (143, 143, 0), (144, 144, 0), (146, 157, 0), (158, 158, 0), (160, 171, 0), (172, 172, 0), (173, 173, 0), (174, 174, 0), (175, 175, 0), (177, 177, 0), (177, 179, 0), (178, 178, 0), (179, 179, 0), (180, 180, 0), (181, 181, 0), (183, 191, 0), (193, 448, 0), (449, 449, 5), (449, 449, 7), (451, 451, 0), (452, 452, 0), (453, 453, 0), (454, 454, 0), (455, 455, 0), (456, 456, 0), (457, 457, 0), (459, 459, 0), (460, 460, 0), (461, 461, 0), (462, 462, 0), (463, 463, 0), (464, 464, 0), (466, 545, 0), (546, 546, 0), (547, 547, 0), (548, 548, 0)]
theorem fr_fPH_closeBag {s : ev_M} {a1 : Int32} {q : ev_M × Int32} (h : fPH_closeBag s a1 = some q) : fr F_PH_closeBag s q.1 := by
  have g : fr F_PH_closeBag s s := fr.rf
  refine fr_bd2 h fun s1 v2 hc h => ?_
  have gs1 : fr F_PH_closeBag s s1 := g.tr ((fr_fLog_stages hc).mono (F := F_PH_closeBag) (by decide +kernel))
  refine fr_if h (fun h => ?_) fun h => ?_
  · cases h; exact gs1
  · refine fr_bd2 h fun s3 v4 hc h => ?_
    have gs3 : fr F_PH_closeBag s s3 := gs1.tr ((fr_fPH_act_1 hc).mono (F := F_PH_closeBag) (by decide +kernel))
    cases h; exact gs3
def F_M_closeBag : List (Nat × (Nat × Nat)) := [(549, 549, 1), (549, 549, 3), (549, 549, 10), (549, 549, 11), (549, 549, 14), (549, 549, 15), (549, 549, 16), (549, 549, 17), (549, 549, 23), (549, 549, 24), (549, 549, 25), (549, 549, 28), (549, 549, 34), (549, 549, 39), (549, 549, 44), (549, 549, 49), (549, 549, 50), (549, 549, 51), (549, 549, 52), (549, 549, 59), (549, 549, 84), (549, 549, 85), (549, 549, 86), (549, 549, 87), (549, 549, 88), (549, 549, 92), (549, 549, 94), (549, 549, 102), (549, 549, 108), (549, 549, 112), (549, 549, 115), (549, 549, 120), (549, 549, 126), (549, 549, 130), (549, 549, 135), (549, 549, 140), (549, 549, 141), (549, 549, 142), (549, 549, 147), (549, 549, 153), (549, 549, 154), (549, 549, 167), (552, 552, 0), (553, 553, 0), (554, 554, 0), (558, 558, 0), (559, 559, 0), (560, 560, 0), (561, 561, 0), (562, 562, 0), (563, 563, 0), (564, 564, 0), (565, 565, 0), (566, 566, 0), (567, 567, 0), (568, 568, 0), (569, 569, 0), (570, 570, 0), (571, 571, 0), (572, 572, 0), (573, 573, 0), (574, 574, 0), (575, 575, 0), (576, 576, 0), (577, 577, 0), (578, 578, 0), (579, 579, 0), (580, 580, 0), (581, 581, 0), (582, 582, 0), (583, 583, 0), (584, 584, 0), (585, 585, 0), (586, 586, 0), (587, 587, 0), (588, 588, 0), (589, 589, 0), (590, 590, 0), (591, 591, 0), (592, 592, 0), (593, 593, 0), (594, 594, 0), (595, 595, 0), (596, 596, 0), (597, 597, 0), (598, 598, 0), (599, 599, 0), (600, 600, 0), (601, 601, 0), (602, 602, 0), (603, 603, 0), (604, 604, 0), (605, 605, 0), (606, 606, 0), (607, 607, 0), (608, 608, 0), (609, 609, 0), (610, 610, 0), (611, 611, 0), (612, 612, 0), (613, 613, 0), (614, 614, 0), (615, 615, 0), (616, 616, 0), (617, 617, 0), (618, 618, 0), (619, 619, 0), (620, 620, 0), (621, 621, 0), (622, 622, 0), (623, 623, 0), (624, 624, 0), (625, 625, 0), (626, 626, 0), (627, 627, 0), (628, 628, 0), (629, 629, 0), (630, 630, 0), (631, 631, 0), (632, 632, 0), (633, 633, 0), (634, 634, 0), (635, 635, 0), (636, 636, 0), (637, 637, 0), (638, 638, 0), (639, 639, 0), (640, 640, 0), (641, 641, 0), (642, 642, 0), (643, 643, 0), (644, 644, 0), (645, 645, 0), (646, 646, 0), (647, 647, 0), (648, 648, 0), (649, 649, 0), (650, 650, 0), (651, 651, 0), (652, 652, 0), (653, 653, 0), (654, 654, 0), (655, 655, 0), (656, 656, 0), (658, 658, 0), (659, 659, 0), (664, 664, 0), (665, 665, 0), (666, 666, 0), (667, 667, 0), (668, 668, 0), (669, 669, 0), (670, 670, 0), (671, 671, 0), (672, 672, 0), (673, 673, 0), (674, 674, 0), (675, 675, 0), (676, 676, 0), (677, 677, 0), (678, 678, 0), (679, 679, 0), (680, 680, 0)]
theorem fr_fM_closeBag {s : ev_M} {a1 : Int32} {q : ev_M × Int32} (h : fM_closeBag s a1 = some q) : fr F_M_closeBag s q.1 := by
  have g : fr F_M_closeBag s s := fr.rf
  refine fr_bd2 h fun s1 v2 hc h => ?_
  have gs1 : fr F_M_closeBag s s1 := g.tr ((fr_fM_call1 hc).mono (F := F_M_closeBag) (by decide +kernel))
  cases h; exact gs1
def F_PH_openBag : List (Nat × (Nat × Nat)) := [(1, 1, 3), (1, 1, 5), (1, 1, 6), (3, 3, 0), (9, 9, 7), (9, 9, 8), (9, 9, 14), (9, 9, 15), (13, 13, 0), (14, 14, 0), (15, 15, 2), (15, 15, 3), (15, 15, 8), (17, 17, 0), (18, 18, 0), (19, 19, 0), (20, 20, 0), (21, 21, 0), (22, 22, 0), (24, 24, 0), (25, 25, 0), (26, 26, 0), (27, 27, 0), (28, 28, 0), (29, 29, 0), (30, 30, 3), (30, 30, 5), (30, 30, 8), (30, 30, 10), (30, 30, 12), (30, 30, 15), (30, 30, 16), (31, 31, 0), (33, 33, 0), (34, 34, 0), (35, 35, 0), (36, 36, 0), (37, 37, 0), (39, 39, 0), (40, 40, 0), (41, 41, 0), (42, 42, 0), (44, 44, 0), (45, 45, 0), (47, 47, 0), (48, 48, 0), (49, 49, 0), (50, 50, 0), (51, 51, 0), (52, 52, 3), (52, 52, 4), (52, 52, 5), (52, 52, 6), (52, 52, 9), (52, 52, 10), (52, 52, 14), (53, 53, 0), (54, 54, 0), (56, 56, 0), (57, 57, 0), (58, 58, 0), (59, 59, 0), (60, 60, 0), (61, 61, 0), (63, 63, 0), (64, 64, 0), (65, 65, 0), (66, 66, 0), (68, 75, 0), (72, 72, 0), (73, 73, 0), (74, 74, 0), (76, 76, 0), (77, 77, 0), (78, 78, 4), (78, 78, 7), (78, 78, 9), (78, 78, 10), (78, 78, 12), (78, 78, 14), (79, 79, 0), (80, 80, 0), (82, 82, 0), (83, 83, 0), (84, 84, 0), (85, 85, 0), (87, 87, 0), (88, 88, 0), (89, 89, 0), (90, 90, 0), (91, 91, 0), (93, 95, 0), (97, 97, 0), (98, 98, 0), (99, 99, 0), (100, 100, 6), (100, 100, 7), (102, 102, 0), (102, 123, 0), (103, 103, 0), (104, 104, 0), (105, 105, 0), (106, 106, 0), (107, 107, 0), (108, 108, 0), (109, 109, 0), (110, 110, 0), (111, 111, 0), (112, 112, 0), (113, 113, 0), (115, 115, 0), (116, 116, 0), (117, 117, 0), (119, 119, 0), (120, 120, 0), (121, 121, 0), (125, 125, 4), (126, 126, 0), (127, 127, 0), (128, 128, 0), (130, 137, 0), (138, 138, 4), (138, 138, 10), (138, 138, 11), (138, 138, 13), (140, 140, 0), (141, 141, 0), (142, 142, 0), (143, 143, 0), (144, 144, 0), (146, 157, 0), (158, 158, 0), (160, 171, 0), (172, 172, 0), (173, 173, 0), (174, 174, 0), (175, 175, 0), (177, 177, 0), (177, 179, 0), (178, 178, 0), (179, 179, 0), (180, 180, 0), (181, 181, 0), (183, 191, 0), (193, 448, 0), (449, 449, 5), (449, 449, 7), (451, 451, 0), (452, 452, 0), (453, 453, 0), (454, 454, 0), (455, 455, 0), (456, 456, 0), (457, 457, 0), (459, 459, 0), (460, 460, 0), (461, 461, 0), (462, 462, 0), (463, 463, 0), (464, 464, 0), (466, 545, 0), (546, 546, 0), (547, 547, 0), (548, 548, 0)]
theorem fr_fPH_openBag {s : ev_M} {a1 : Int32} {q : ev_M × Int32} (h : fPH_openBag s a1 = some q) : fr F_PH_openBag s q.1 := by
  have g : fr F_PH_openBag s s := fr.rf
  refine fr_bd2 h fun s1 v2 hc h => ?_
  have gs1 : fr F_PH_openBag s s1 := g.tr ((fr_fLog_stages hc).mono (F := F_PH_openBag) (by decide +kernel))
  refine fr_if h (fun h => ?_) fun h => ?_
  · cases h; exact gs1
  · refine fr_bd2 h fun s3 v4 hc h => ?_
    have gs3 : fr F_PH_openBag s s3 := gs1.tr ((fr_fPH_act_1 hc).mono (F := F_PH_openBag) (by decide +kernel))
    cases h; exact gs3
def F_M_openBag : List (Nat × (Nat × Nat)) := [(549, 549, 1), (549, 549, 3), (549, 549, 10), (549, 549, 11), (549, 549, 14), (549, 549, 15), (549, 549, 16), (549, 549, 17), (549, 549, 23), (549, 549, 24), (549, 549, 25), (549, 549, 28), (549, 549, 34), (549, 549, 39), (549, 549, 44), (549, 549, 49), (549, 549, 50), (549, 549, 51), (549, 549, 52), (549, 549, 59), (549, 549, 84), (549, 549, 85), (549, 549, 86), (549, 549, 87), (549, 549, 88), (549, 549, 92), (549, 549, 94), (549, 549, 102), (549, 549, 108), (549, 549, 112), (549, 549, 115), (549, 549, 120), (549, 549, 126), (549, 549, 130), (549, 549, 135), (549, 549, 140), (549, 549, 141), (549, 549, 142), (549, 549, 147), (549, 549, 153), (549, 549, 154), (549, 549, 167), (552, 552, 0), (553, 553, 0), (554, 554, 0), (558, 558, 0), (559, 559, 0), (560, 560, 0), (561, 561, 0), (562, 562, 0), (563, 563, 0), (564, 564, 0), (565, 565, 0), (566, 566, 0), (567, 567, 0), (568, 568, 0), (569, 569, 0), (570, 570, 0), (571, 571, 0), (572, 572, 0), (573, 573, 0), (574, 574, 0), (575, 575, 0), (576, 576, 0), (577, 577, 0), (578, 578, 0), (579, 579, 0), (580, 580, 0), (581, 581, 0), (582, 582, 0), (583, 583, 0), (584, 584, 0), (585, 585, 0), (586, 586, 0), (587, 587, 0), (588, 588, 0), (589, 589, 0), (590, 590, 0), (591, 591, 0), (592, 592, 0), (593, 593, 0), (594, 594, 0), (595, 595, 0), (596, 596, 0), (597, 597, 0), (598, 598, 0), (599, 599, 0), (600, 600, 0), (601, 601, 0), (602, 602, 0), (603, 603, 0), (604, 604, 0), (605, 605, 0), (606, 606, 0), (607, 607, 0), (608, 608, 0), (609, 609, 0), (610, 610, 0), (611, 611, 0), (612, 612, 0), (613, 613, 0), (614, 614, 0), (615, 615, 0), (616, 616, 0), (617, 617, 0), (618, 618, 0), (619, 619, 0), (620, 620, 0), (621, 621, 0), (622, 622, 0), (623, 623, 0), (624, 624, 0), (625, 625, 0), (626, 626, 0), (627, 627, 0), (628, 628, 0), (629, 629, 0), (630, 630, 0), (631, 631, 0), (632, 632, 0), (633, 633, 0), (634, 634, 0), (635, 635, 0), (636, 636, 0), (637, 637, 0), (638, 638, 0), (639, 639, 0), (640, 640, 0), (641, 641, 0), (642, 642, 0), (643, 643, 0), (644, 644, 0), (645, 645, 0), (646, 646, 0), (647, 647, 0), (648, 648, 0), (649, 649, 0), (650, 650, 0), (651, 651, 0), (652, 652, 0), (653, 653, 0), (654, 654, 0), (655, 655, 0), (656, 656, 0), (658, 658, 0), (659, 659, 0), (664, 664, 0), (665, 665, 0), (666, 666, 0), (667, 667, 0), (668, 668, 0), (669, 669, 0), (670, 670, 0), (671, 671, 0), (672, 672, 0), (673, 673, 0), (674, 674, 0), (675, 675, 0), (676, 676, 0), (677, 677, 0), (678, 678, 0), (679, 679, 0), (680, 680, 0)]
theorem fr_fM_openBag {s : ev_M} {a1 : Int32} {q : ev_M × Int32} (h : fM_openBag s a1 = some q) : fr F_M_openBag s q.1 := by
  have g : fr F_M_openBag s s := fr.rf
  refine fr_bd2 h fun s1 v2 hc h => ?_
  have gs1 : fr F_M_openBag s s1 := g.tr ((fr_fM_call1 hc).mono (F := F_M_openBag) (by decide +kernel))
  cases h; exact gs1
def F_M_bagAt : List (Nat × (Nat × Nat)) := [(549, 549, 1)]
theorem fr_fM_bagAt {s : ev_M} {a1 : Int32} {a2 : Int32} {q : ev_M × Int32} (h : fM_bagAt s a1 a2 = some q) : fr F_M_bagAt s q.1 := by
  have g : fr F_M_bagAt s s := fr.rf
  refine fr_ltM h (Q := fr F_M_bagAt s) (g.wI rfl) fun s1 gs1 h => ?_
  refine fr_if h (fun h => ?_) fun h => ?_
  · refine fr_bd1 h fun v2 hc h => ?_
    refine fr_if h (fun h => ?_) fun h => ?_
    · cases h; exact gs1
    · refine fr_if h (fun h => ?_) fun h => ?_
      · refine fr_gd h fun c0 h => ?_
        cases h; exact gs1
      · refine fr_if h (fun h => ?_) fun h => ?_
        · refine fr_gd h fun c0 h => ?_
          refine fr_if h (fun h => ?_) fun h => ?_
          · cases h; exact gs1
          · refine fr_gd h fun c1 h => ?_
            cases h; exact gs1
        · refine fr_if h (fun h => ?_) fun h => ?_
          · refine fr_gd h fun c0 h => ?_
            cases h; exact gs1
          · refine fr_if h (fun h => ?_) fun h => ?_
            · refine fr_bd1 h fun v3 hc h => ?_
              cases h; exact gs1
            · refine fr_if h (fun h => ?_) fun h => ?_
              · refine fr_gd h fun c0 h => ?_
                cases h; exact gs1
              · refine fr_if h (fun h => ?_) fun h => ?_
                · refine fr_gd h fun c0 h => ?_
                  cases h; exact gs1
                · cases h; exact gs1
  · cases h; exact gs1
def F_Lines_tellWay : List (Nat × (Nat × Nat)) := [(546, 546, 0), (547, 547, 0), (548, 548, 0)]
theorem fr_fLines_tellWay {s : ev_M} {a1 : Int32} {a2 : Int32} {a3 : Int32} {q : ev_M × Int32} (h : fLines_tellWay s a1 a2 a3 = some q) : fr F_Lines_tellWay s q.1 := by
  have g : fr F_Lines_tellWay s s := fr.rf
  refine fr_bd1 h fun v1 hc h => ?_
  refine fr_if h (fun h => ?_) fun h => ?_
  · cases h; exact g
  · refine fr_bd1 h fun v2 hc h => ?_
    refine fr_if h (fun h => ?_) fun h => ?_
    · cases h; exact g
    · refine fr_bd1 h fun v3 hc h => ?_
      refine fr_if h (fun h => ?_) fun h => ?_
      · refine fr_bd1 h fun s4 hc h => ?_
        have gs4 := g.tr ((fr_fLines_search hc).mono (F := F_Lines_tellWay) (by decide +kernel))
        refine fr_if h (fun h => ?_) fun h => ?_
        · refine fr_gd h fun c0 h => ?_
          cases h; exact gs4
        · refine fr_gd h fun c0 h => ?_
          cases h; exact gs4
      · cases h; exact g
def F_PH_way : List (Nat × (Nat × Nat)) := [(546, 546, 0), (547, 547, 0), (548, 548, 0)]
theorem fr_fPH_way {s : ev_M} {a1 : Int32} {a2 : Int32} {a3 : Int32} {q : ev_M × Int32} (h : fPH_way s a1 a2 a3 = some q) : fr F_PH_way s q.1 := by
  have g : fr F_PH_way s s := fr.rf
  refine fr_if h (fun h => ?_) fun h => ?_
  · refine fr_bd2 h fun s1 v2 hc h => ?_
    have gs1 : fr F_PH_way s s1 := g.tr ((fr_fLines_tellWay hc).mono (F := F_PH_way) (by decide +kernel))
    cases h; exact gs1
  · cases h; exact g
def F_M_way : List (Nat × (Nat × Nat)) := [(549, 549, 1), (675, 675, 0), (676, 676, 0), (677, 677, 0)]
theorem fr_fM_way {s : ev_M} {a1 : Int32} {a2 : Int32} {a3 : Int32} {q : ev_M × Int32} (h : fM_way s a1 a2 a3 = some q) : fr F_M_way s q.1 := by
  have g : fr F_M_way s s := fr.rf
  refine fr_ltM h (Q := fr F_M_way s) (g.wI rfl) fun s1 gs1 h => ?_
  refine fr_if h (fun h => ?_) fun h => ?_
  · refine fr_bd1 h fun v2 hc h => ?_
    refine fr_if h (fun h => ?_) fun h => ?_
    · cases h; exact gs1
    · refine fr_bd1 h fun v3 hc h => ?_
      refine fr_if h (fun h => ?_) fun h => ?_
      · cases h; exact gs1
      · refine fr_bd1 h fun v4 hc h => ?_
        refine fr_if h (fun h => ?_) fun h => ?_
        · cases h; exact gs1
        · refine fr_bd1 h fun s5 hc h => ?_
          have gs5 := gs1.tr ((fr_fM_findWays hc).mono (F := F_M_way) (by decide +kernel))
          refine fr_if h (fun h => ?_) fun h => ?_
          · refine fr_gd h fun c0 h => ?_
            cases h; exact gs5
          · refine fr_gd h fun c0 h => ?_
            cases h; exact gs5
  · cases h; exact gs1
def F_PH_hand : List (Nat × (Nat × Nat)) := [(1, 1, 3), (1, 1, 5), (1, 1, 6), (3, 3, 0), (9, 9, 7), (9, 9, 8), (9, 9, 14), (9, 9, 15), (13, 13, 0), (14, 14, 0), (15, 15, 2), (15, 15, 3), (15, 15, 8), (17, 17, 0), (18, 18, 0), (19, 19, 0), (20, 20, 0), (21, 21, 0), (22, 22, 0), (24, 24, 0), (25, 25, 0), (26, 26, 0), (27, 27, 0), (28, 28, 0), (29, 29, 0), (30, 30, 3), (30, 30, 5), (30, 30, 8), (30, 30, 10), (30, 30, 12), (30, 30, 15), (30, 30, 16), (31, 31, 0), (33, 33, 0), (34, 34, 0), (35, 35, 0), (36, 36, 0), (37, 37, 0), (39, 39, 0), (40, 40, 0), (41, 41, 0), (42, 42, 0), (44, 44, 0), (45, 45, 0), (47, 47, 0), (48, 48, 0), (49, 49, 0), (50, 50, 0), (51, 51, 0), (52, 52, 3), (52, 52, 4), (52, 52, 5), (52, 52, 6), (52, 52, 9), (52, 52, 10), (52, 52, 14), (53, 53, 0), (54, 54, 0), (56, 56, 0), (57, 57, 0), (58, 58, 0), (59, 59, 0), (60, 60, 0), (61, 61, 0), (63, 63, 0), (64, 64, 0), (65, 65, 0), (66, 66, 0), (68, 75, 0), (72, 72, 0), (73, 73, 0), (74, 74, 0), (76, 76, 0), (77, 77, 0), (78, 78, 4), (78, 78, 7), (78, 78, 9), (78, 78, 10), (78, 78, 12), (78, 78, 14), (79, 79, 0), (80, 80, 0), (82, 82, 0), (83, 83, 0), (84, 84, 0), (85, 85, 0), (87, 87, 0), (88, 88, 0), (89, 89, 0), (90, 90, 0), (91, 91, 0), (93, 95, 0), (97, 97, 0), (98, 98, 0), (99, 99, 0), (100, 100, 6), (100, 100, 7), (102, 102, 0), (102, 123, 0), (103, 103, 0), (104, 104, 0), (105, 105, 0), (106, 106, 0), (107, 107, 0), (108, 108, 0), (109, 109, 0), (110, 110, 0), (111, 111, 0), (112, 112, 0), (113, 113, 0), (115, 115, 0), (116, 116, 0), (117, 117, 0), (119, 119, 0), (120, 120, 0), (121, 121, 0), (125, 125, 4), (126, 126, 0), (127, 127, 0), (128, 128, 0), (130, 137, 0), (138, 138, 4), (138, 138, 10), (138, 138, 11), (138, 138, 13), (140, 140, 0), (141, 141, 0), (142, 142, 0), (143, 143, 0), (144, 144, 0), (146, 157, 0), (158, 158, 0), (160, 171, 0), (172, 172, 0), (173, 173, 0), (174, 174, 0), (175, 175, 0), (177, 177, 0), (177, 179, 0), (178, 178, 0), (179, 179, 0), (180, 180, 0), (181, 181, 0), (183, 191, 0), (193, 448, 0), (449, 449, 5), (449, 449, 7), (451, 451, 0), (452, 452, 0), (453, 453, 0), (454, 454, 0), (455, 455, 0), (456, 456, 0), (457, 457, 0), (459, 459, 0), (460, 460, 0), (461, 461, 0), (462, 462, 0), (463, 463, 0), (464, 464, 0), (466, 545, 0), (546, 546, 0), (547, 547, 0), (548, 548, 0)]
theorem fr_fPH_hand {s : ev_M} {a1 : Int32} {a2 : Int32} {a3 : Int32} {a4 : Int32} {q : ev_M × Int32} (h : fPH_hand s a1 a2 a3 a4 = some q) : fr F_PH_hand s q.1 := by
  have g : fr F_PH_hand s s := fr.rf
  refine fr_bd2 h fun s1 v2 hc h => ?_
  have gs1 : fr F_PH_hand s s1 := g.tr ((fr_fLog_stages hc).mono (F := F_PH_hand) (by decide +kernel))
  refine fr_if h (fun h => ?_) fun h => ?_
  · cases h; exact gs1
  · refine fr_bd2 h fun s3 v4 hc h => ?_
    have gs3 : fr F_PH_hand s s3 := gs1.tr ((fr_fPH_act_1 hc).mono (F := F_PH_hand) (by decide +kernel))
    cases h; exact gs3
def F_M_hand : List (Nat × (Nat × Nat)) := [(549, 549, 1), (549, 549, 3), (549, 549, 10), (549, 549, 11), (549, 549, 14), (549, 549, 15), (549, 549, 16), (549, 549, 17), (549, 549, 23), (549, 549, 24), (549, 549, 25), (549, 549, 28), (549, 549, 34), (549, 549, 39), (549, 549, 44), (549, 549, 49), (549, 549, 50), (549, 549, 51), (549, 549, 52), (549, 549, 59), (549, 549, 84), (549, 549, 85), (549, 549, 86), (549, 549, 87), (549, 549, 88), (549, 549, 92), (549, 549, 94), (549, 549, 102), (549, 549, 108), (549, 549, 112), (549, 549, 115), (549, 549, 120), (549, 549, 126), (549, 549, 130), (549, 549, 135), (549, 549, 140), (549, 549, 141), (549, 549, 142), (549, 549, 147), (549, 549, 153), (549, 549, 154), (549, 549, 167), (552, 552, 0), (553, 553, 0), (554, 554, 0), (558, 558, 0), (559, 559, 0), (560, 560, 0), (561, 561, 0), (562, 562, 0), (563, 563, 0), (564, 564, 0), (565, 565, 0), (566, 566, 0), (567, 567, 0), (568, 568, 0), (569, 569, 0), (570, 570, 0), (571, 571, 0), (572, 572, 0), (573, 573, 0), (574, 574, 0), (575, 575, 0), (576, 576, 0), (577, 577, 0), (578, 578, 0), (579, 579, 0), (580, 580, 0), (581, 581, 0), (582, 582, 0), (583, 583, 0), (584, 584, 0), (585, 585, 0), (586, 586, 0), (587, 587, 0), (588, 588, 0), (589, 589, 0), (590, 590, 0), (591, 591, 0), (592, 592, 0), (593, 593, 0), (594, 594, 0), (595, 595, 0), (596, 596, 0), (597, 597, 0), (598, 598, 0), (599, 599, 0), (600, 600, 0), (601, 601, 0), (602, 602, 0), (603, 603, 0), (604, 604, 0), (605, 605, 0), (606, 606, 0), (607, 607, 0), (608, 608, 0), (609, 609, 0), (610, 610, 0), (611, 611, 0), (612, 612, 0), (613, 613, 0), (614, 614, 0), (615, 615, 0), (616, 616, 0), (617, 617, 0), (618, 618, 0), (619, 619, 0), (620, 620, 0), (621, 621, 0), (622, 622, 0), (623, 623, 0), (624, 624, 0), (625, 625, 0), (626, 626, 0), (627, 627, 0), (628, 628, 0), (629, 629, 0), (630, 630, 0), (631, 631, 0), (632, 632, 0), (633, 633, 0), (634, 634, 0), (635, 635, 0), (636, 636, 0), (637, 637, 0), (638, 638, 0), (639, 639, 0), (640, 640, 0), (641, 641, 0), (642, 642, 0), (643, 643, 0), (644, 644, 0), (645, 645, 0), (646, 646, 0), (647, 647, 0), (648, 648, 0), (649, 649, 0), (650, 650, 0), (651, 651, 0), (652, 652, 0), (653, 653, 0), (654, 654, 0), (655, 655, 0), (656, 656, 0), (658, 658, 0), (659, 659, 0), (664, 664, 0), (665, 665, 0), (666, 666, 0), (667, 667, 0), (668, 668, 0), (669, 669, 0), (670, 670, 0), (671, 671, 0), (672, 672, 0), (673, 673, 0), (674, 674, 0), (675, 675, 0), (676, 676, 0), (677, 677, 0), (678, 678, 0), (679, 679, 0), (680, 680, 0)]
theorem fr_fM_hand {s : ev_M} {a1 : Int32} {a2 : Int32} {a3 : Int32} {a4 : Int32} {q : ev_M × Int32} (h : fM_hand s a1 a2 a3 a4 = some q) : fr F_M_hand s q.1 := by
  have g : fr F_M_hand s s := fr.rf
  refine fr_bd2 h fun s1 v2 hc h => ?_
  have gs1 : fr F_M_hand s s1 := g.tr ((fr_fM_call4 hc).mono (F := F_M_hand) (by decide +kernel))
  cases h; exact gs1
def F_PH_miss : List (Nat × (Nat × Nat)) := [(1, 1, 3), (1, 1, 5), (1, 1, 6), (3, 3, 0), (9, 9, 7), (9, 9, 8), (9, 9, 14), (9, 9, 15), (13, 13, 0), (14, 14, 0), (15, 15, 2), (15, 15, 3), (15, 15, 8), (17, 17, 0), (18, 18, 0), (19, 19, 0), (20, 20, 0), (21, 21, 0), (22, 22, 0), (24, 24, 0), (25, 25, 0), (26, 26, 0), (27, 27, 0), (28, 28, 0), (29, 29, 0), (30, 30, 3), (30, 30, 5), (30, 30, 8), (30, 30, 10), (30, 30, 12), (30, 30, 15), (30, 30, 16), (31, 31, 0), (33, 33, 0), (34, 34, 0), (35, 35, 0), (36, 36, 0), (37, 37, 0), (39, 39, 0), (40, 40, 0), (41, 41, 0), (42, 42, 0), (44, 44, 0), (45, 45, 0), (47, 47, 0), (48, 48, 0), (49, 49, 0), (50, 50, 0), (51, 51, 0), (52, 52, 3), (52, 52, 4), (52, 52, 5), (52, 52, 6), (52, 52, 9), (52, 52, 10), (52, 52, 14), (53, 53, 0), (54, 54, 0), (56, 56, 0), (57, 57, 0), (58, 58, 0), (59, 59, 0), (60, 60, 0), (61, 61, 0), (63, 63, 0), (64, 64, 0), (65, 65, 0), (66, 66, 0), (68, 75, 0), (72, 72, 0), (73, 73, 0), (74, 74, 0), (76, 76, 0), (77, 77, 0), (78, 78, 4), (78, 78, 7), (78, 78, 9), (78, 78, 10), (78, 78, 12), (78, 78, 14), (79, 79, 0), (80, 80, 0), (82, 82, 0), (83, 83, 0), (84, 84, 0), (85, 85, 0), (87, 87, 0), (88, 88, 0), (89, 89, 0), (90, 90, 0), (91, 91, 0), (93, 95, 0), (97, 97, 0), (98, 98, 0), (99, 99, 0), (100, 100, 6), (100, 100, 7), (102, 102, 0), (102, 123, 0), (103, 103, 0), (104, 104, 0), (105, 105, 0), (106, 106, 0), (107, 107, 0), (108, 108, 0), (109, 109, 0), (110, 110, 0), (111, 111, 0), (112, 112, 0), (113, 113, 0), (115, 115, 0), (116, 116, 0), (117, 117, 0), (119, 119, 0), (120, 120, 0), (121, 121, 0), (125, 125, 4), (126, 126, 0), (127, 127, 0), (128, 128, 0), (130, 137, 0), (138, 138, 4), (138, 138, 10), (138, 138, 11), (138, 138, 13), (140, 140, 0), (141, 141, 0), (142, 142, 0), (143, 143, 0), (144, 144, 0), (146, 157, 0), (158, 158, 0), (160, 171, 0), (172, 172, 0), (173, 173, 0), (174, 174, 0), (175, 175, 0), (177, 177, 0), (177, 179, 0), (178, 178, 0), (179, 179, 0), (180, 180, 0), (181, 181, 0), (183, 191, 0), (193, 448, 0), (449, 449, 5), (449, 449, 7), (451, 451, 0), (452, 452, 0), (453, 453, 0), (454, 454, 0), (455, 455, 0), (456, 456, 0), (457, 457, 0), (459, 459, 0), (460, 460, 0), (461, 461, 0), (462, 462, 0), (463, 463, 0), (464, 464, 0), (466, 545, 0), (546, 546, 0), (547, 547, 0), (548, 548, 0)]
theorem fr_fPH_miss {s : ev_M} {a1 : Int32} {q : ev_M × Int32} (h : fPH_miss s a1 = some q) : fr F_PH_miss s q.1 := by
  have g : fr F_PH_miss s s := fr.rf
  refine fr_bd2 h fun s1 v2 hc h => ?_
  have gs1 : fr F_PH_miss s s1 := g.tr ((fr_fLog_stages hc).mono (F := F_PH_miss) (by decide +kernel))
  refine fr_if h (fun h => ?_) fun h => ?_
  · cases h; exact gs1
  · refine fr_bd2 h fun s3 v4 hc h => ?_
    have gs3 : fr F_PH_miss s s3 := gs1.tr ((fr_fPH_act_1 hc).mono (F := F_PH_miss) (by decide +kernel))
    cases h; exact gs3
def F_M_miss : List (Nat × (Nat × Nat)) := [(549, 549, 1), (549, 549, 3), (549, 549, 10), (549, 549, 11), (549, 549, 14), (549, 549, 15), (549, 549, 16), (549, 549, 17), (549, 549, 23), (549, 549, 24), (549, 549, 25), (549, 549, 28), (549, 549, 34), (549, 549, 39), (549, 549, 44), (549, 549, 49), (549, 549, 50), (549, 549, 51), (549, 549, 52), (549, 549, 59), (549, 549, 84), (549, 549, 85), (549, 549, 86), (549, 549, 87), (549, 549, 88), (549, 549, 92), (549, 549, 94), (549, 549, 102), (549, 549, 108), (549, 549, 112), (549, 549, 115), (549, 549, 120), (549, 549, 126), (549, 549, 130), (549, 549, 135), (549, 549, 140), (549, 549, 141), (549, 549, 142), (549, 549, 147), (549, 549, 153), (549, 549, 154), (549, 549, 167), (552, 552, 0), (553, 553, 0), (554, 554, 0), (558, 558, 0), (559, 559, 0), (560, 560, 0), (561, 561, 0), (562, 562, 0), (563, 563, 0), (564, 564, 0), (565, 565, 0), (566, 566, 0), (567, 567, 0), (568, 568, 0), (569, 569, 0), (570, 570, 0), (571, 571, 0), (572, 572, 0), (573, 573, 0), (574, 574, 0), (575, 575, 0), (576, 576, 0), (577, 577, 0), (578, 578, 0), (579, 579, 0), (580, 580, 0), (581, 581, 0), (582, 582, 0), (583, 583, 0), (584, 584, 0), (585, 585, 0), (586, 586, 0), (587, 587, 0), (588, 588, 0), (589, 589, 0), (590, 590, 0), (591, 591, 0), (592, 592, 0), (593, 593, 0), (594, 594, 0), (595, 595, 0), (596, 596, 0), (597, 597, 0), (598, 598, 0), (599, 599, 0), (600, 600, 0), (601, 601, 0), (602, 602, 0), (603, 603, 0), (604, 604, 0), (605, 605, 0), (606, 606, 0), (607, 607, 0), (608, 608, 0), (609, 609, 0), (610, 610, 0), (611, 611, 0), (612, 612, 0), (613, 613, 0), (614, 614, 0), (615, 615, 0), (616, 616, 0), (617, 617, 0), (618, 618, 0), (619, 619, 0), (620, 620, 0), (621, 621, 0), (622, 622, 0), (623, 623, 0), (624, 624, 0), (625, 625, 0), (626, 626, 0), (627, 627, 0), (628, 628, 0), (629, 629, 0), (630, 630, 0), (631, 631, 0), (632, 632, 0), (633, 633, 0), (634, 634, 0), (635, 635, 0), (636, 636, 0), (637, 637, 0), (638, 638, 0), (639, 639, 0), (640, 640, 0), (641, 641, 0), (642, 642, 0), (643, 643, 0), (644, 644, 0), (645, 645, 0), (646, 646, 0), (647, 647, 0), (648, 648, 0), (649, 649, 0), (650, 650, 0), (651, 651, 0), (652, 652, 0), (653, 653, 0), (654, 654, 0), (655, 655, 0), (656, 656, 0), (658, 658, 0), (659, 659, 0), (664, 664, 0), (665, 665, 0), (666, 666, 0), (667, 667, 0), (668, 668, 0), (669, 669, 0), (670, 670, 0), (671, 671, 0), (672, 672, 0), (673, 673, 0), (674, 674, 0), (675, 675, 0), (676, 676, 0), (677, 677, 0), (678, 678, 0), (679, 679, 0), (680, 680, 0)]
theorem fr_fM_miss {s : ev_M} {a1 : Int32} {q : ev_M × Int32} (h : fM_miss s a1 = some q) : fr F_M_miss s q.1 := by
  have g : fr F_M_miss s s := fr.rf
  refine fr_bd2 h fun s1 v2 hc h => ?_
  have gs1 : fr F_M_miss s s1 := g.tr ((fr_fM_call1 hc).mono (F := F_M_miss) (by decide +kernel))
  cases h; exact gs1
def F_PH_refuse : List (Nat × (Nat × Nat)) := [(1, 1, 3), (1, 1, 5), (1, 1, 6), (3, 3, 0), (9, 9, 7), (9, 9, 8), (9, 9, 14), (9, 9, 15), (13, 13, 0), (14, 14, 0), (15, 15, 2), (15, 15, 3), (15, 15, 8), (17, 17, 0), (18, 18, 0), (19, 19, 0), (20, 20, 0), (21, 21, 0), (22, 22, 0), (24, 24, 0), (25, 25, 0), (26, 26, 0), (27, 27, 0), (28, 28, 0), (29, 29, 0), (30, 30, 3), (30, 30, 5), (30, 30, 8), (30, 30, 10), (30, 30, 12), (30, 30, 15), (30, 30, 16), (31, 31, 0), (33, 33, 0), (34, 34, 0), (35, 35, 0), (36, 36, 0), (37, 37, 0), (39, 39, 0), (40, 40, 0), (41, 41, 0), (42, 42, 0), (44, 44, 0), (45, 45, 0), (47, 47, 0), (48, 48, 0), (49, 49, 0), (50, 50, 0), (51, 51, 0), (52, 52, 3), (52, 52, 4), (52, 52, 5), (52, 52, 6), (52, 52, 9), (52, 52, 10), (52, 52, 14), (53, 53, 0), (54, 54, 0), (56, 56, 0), (57, 57, 0), (58, 58, 0), (59, 59, 0), (60, 60, 0), (61, 61, 0), (63, 63, 0), (64, 64, 0), (65, 65, 0), (66, 66, 0), (68, 75, 0), (72, 72, 0), (73, 73, 0), (74, 74, 0), (76, 76, 0), (77, 77, 0), (78, 78, 4), (78, 78, 7), (78, 78, 9), (78, 78, 10), (78, 78, 12), (78, 78, 14), (79, 79, 0), (80, 80, 0), (82, 82, 0), (83, 83, 0), (84, 84, 0), (85, 85, 0), (87, 87, 0), (88, 88, 0), (89, 89, 0), (90, 90, 0), (91, 91, 0), (93, 95, 0), (97, 97, 0), (98, 98, 0), (99, 99, 0), (100, 100, 6), (100, 100, 7), (102, 102, 0), (102, 123, 0), (103, 103, 0), (104, 104, 0), (105, 105, 0), (106, 106, 0), (107, 107, 0), (108, 108, 0), (109, 109, 0), (110, 110, 0), (111, 111, 0), (112, 112, 0), (113, 113, 0), (115, 115, 0), (116, 116, 0), (117, 117, 0), (119, 119, 0), (120, 120, 0), (121, 121, 0), (125, 125, 4), (126, 126, 0), (127, 127, 0), (128, 128, 0), (130, 137, 0), (138, 138, 4), (138, 138, 10), (138, 138, 11), (138, 138, 13), (140, 140, 0), (141, 141, 0), (142, 142, 0), (143, 143, 0), (144, 144, 0), (146, 157, 0), (158, 158, 0), (160, 171, 0), (172, 172, 0), (173, 173, 0), (174, 174, 0), (175, 175, 0), (177, 177, 0), (177, 179, 0), (178, 178, 0), (179, 179, 0), (180, 180, 0), (181, 181, 0), (183, 191, 0), (193, 448, 0), (449, 449, 5), (449, 449, 7), (451, 451, 0), (452, 452, 0), (453, 453, 0), (454, 454, 0), (455, 455, 0), (456, 456, 0), (457, 457, 0), (459, 459, 0), (460, 460, 0), (461, 461, 0), (462, 462, 0), (463, 463, 0), (464, 464, 0), (466, 545, 0), (546, 546, 0), (547, 547, 0), (548, 548, 0)]
theorem fr_fPH_refuse {s : ev_M} {a1 : Int32} {q : ev_M × Int32} (h : fPH_refuse s a1 = some q) : fr F_PH_refuse s q.1 := by
  have g : fr F_PH_refuse s s := fr.rf
  refine fr_bd2 h fun s1 v2 hc h => ?_
  have gs1 : fr F_PH_refuse s s1 := g.tr ((fr_fLog_stages hc).mono (F := F_PH_refuse) (by decide +kernel))
  refine fr_if h (fun h => ?_) fun h => ?_
  · cases h; exact gs1
  · refine fr_bd2 h fun s3 v4 hc h => ?_
    have gs3 : fr F_PH_refuse s s3 := gs1.tr ((fr_fPH_act_1 hc).mono (F := F_PH_refuse) (by decide +kernel))
    cases h; exact gs3
def F_M_refuse : List (Nat × (Nat × Nat)) := [(549, 549, 1), (549, 549, 3), (549, 549, 10), (549, 549, 11), (549, 549, 14), (549, 549, 15), (549, 549, 16), (549, 549, 17), (549, 549, 23), (549, 549, 24), (549, 549, 25), (549, 549, 28), (549, 549, 34), (549, 549, 39), (549, 549, 44), (549, 549, 49), (549, 549, 50), (549, 549, 51), (549, 549, 52), (549, 549, 59), (549, 549, 84), (549, 549, 85), (549, 549, 86), (549, 549, 87), (549, 549, 88), (549, 549, 92), (549, 549, 94), (549, 549, 102), (549, 549, 108), (549, 549, 112), (549, 549, 115), (549, 549, 120), (549, 549, 126), (549, 549, 130), (549, 549, 135), (549, 549, 140), (549, 549, 141), (549, 549, 142), (549, 549, 147), (549, 549, 153), (549, 549, 154), (549, 549, 167), (552, 552, 0), (553, 553, 0), (554, 554, 0), (558, 558, 0), (559, 559, 0), (560, 560, 0), (561, 561, 0), (562, 562, 0), (563, 563, 0), (564, 564, 0), (565, 565, 0), (566, 566, 0), (567, 567, 0), (568, 568, 0), (569, 569, 0), (570, 570, 0), (571, 571, 0), (572, 572, 0), (573, 573, 0), (574, 574, 0), (575, 575, 0), (576, 576, 0), (577, 577, 0), (578, 578, 0), (579, 579, 0), (580, 580, 0), (581, 581, 0), (582, 582, 0), (583, 583, 0), (584, 584, 0), (585, 585, 0), (586, 586, 0), (587, 587, 0), (588, 588, 0), (589, 589, 0), (590, 590, 0), (591, 591, 0), (592, 592, 0), (593, 593, 0), (594, 594, 0), (595, 595, 0), (596, 596, 0), (597, 597, 0), (598, 598, 0), (599, 599, 0), (600, 600, 0), (601, 601, 0), (602, 602, 0), (603, 603, 0), (604, 604, 0), (605, 605, 0), (606, 606, 0), (607, 607, 0), (608, 608, 0), (609, 609, 0), (610, 610, 0), (611, 611, 0), (612, 612, 0), (613, 613, 0), (614, 614, 0), (615, 615, 0), (616, 616, 0), (617, 617, 0), (618, 618, 0), (619, 619, 0), (620, 620, 0), (621, 621, 0), (622, 622, 0), (623, 623, 0), (624, 624, 0), (625, 625, 0), (626, 626, 0), (627, 627, 0), (628, 628, 0), (629, 629, 0), (630, 630, 0), (631, 631, 0), (632, 632, 0), (633, 633, 0), (634, 634, 0), (635, 635, 0), (636, 636, 0), (637, 637, 0), (638, 638, 0), (639, 639, 0), (640, 640, 0), (641, 641, 0), (642, 642, 0), (643, 643, 0), (644, 644, 0), (645, 645, 0), (646, 646, 0), (647, 647, 0), (648, 648, 0), (649, 649, 0), (650, 650, 0), (651, 651, 0), (652, 652, 0), (653, 653, 0), (654, 654, 0), (655, 655, 0), (656, 656, 0), (658, 658, 0), (659, 659, 0), (664, 664, 0), (665, 665, 0), (666, 666, 0), (667, 667, 0), (668, 668, 0), (669, 669, 0), (670, 670, 0), (671, 671, 0), (672, 672, 0), (673, 673, 0), (674, 674, 0), (675, 675, 0), (676, 676, 0), (677, 677, 0), (678, 678, 0), (679, 679, 0), (680, 680, 0)]
theorem fr_fM_refuse {s : ev_M} {a1 : Int32} {q : ev_M × Int32} (h : fM_refuse s a1 = some q) : fr F_M_refuse s q.1 := by
  have g : fr F_M_refuse s s := fr.rf
  refine fr_bd2 h fun s1 v2 hc h => ?_
  have gs1 : fr F_M_refuse s s1 := g.tr ((fr_fM_call1 hc).mono (F := F_M_refuse) (by decide +kernel))
  cases h; exact gs1
def F_PH_put : List (Nat × (Nat × Nat)) := [(1, 1, 3), (1, 1, 5), (1, 1, 6), (3, 3, 0), (9, 9, 7), (9, 9, 8), (9, 9, 14), (9, 9, 15), (13, 13, 0), (14, 14, 0), (15, 15, 2), (15, 15, 3), (15, 15, 8), (17, 17, 0), (18, 18, 0), (19, 19, 0), (20, 20, 0), (21, 21, 0), (22, 22, 0), (24, 24, 0), (25, 25, 0), (26, 26, 0), (27, 27, 0), (28, 28, 0), (29, 29, 0), (30, 30, 3), (30, 30, 5), (30, 30, 8), (30, 30, 10), (30, 30, 12), (30, 30, 15), (30, 30, 16), (31, 31, 0), (33, 33, 0), (34, 34, 0), (35, 35, 0), (36, 36, 0), (37, 37, 0), (39, 39, 0), (40, 40, 0), (41, 41, 0), (42, 42, 0), (44, 44, 0), (45, 45, 0), (47, 47, 0), (48, 48, 0), (49, 49, 0), (50, 50, 0), (51, 51, 0), (52, 52, 3), (52, 52, 4), (52, 52, 5), (52, 52, 6), (52, 52, 9), (52, 52, 10), (52, 52, 14), (53, 53, 0), (54, 54, 0), (56, 56, 0), (57, 57, 0), (58, 58, 0), (59, 59, 0), (60, 60, 0), (61, 61, 0), (63, 63, 0), (64, 64, 0), (65, 65, 0), (66, 66, 0), (68, 75, 0), (72, 72, 0), (73, 73, 0), (74, 74, 0), (76, 76, 0), (77, 77, 0), (78, 78, 4), (78, 78, 7), (78, 78, 9), (78, 78, 10), (78, 78, 12), (78, 78, 14), (79, 79, 0), (80, 80, 0), (82, 82, 0), (83, 83, 0), (84, 84, 0), (85, 85, 0), (87, 87, 0), (88, 88, 0), (89, 89, 0), (90, 90, 0), (91, 91, 0), (93, 95, 0), (97, 97, 0), (98, 98, 0), (99, 99, 0), (100, 100, 6), (100, 100, 7), (102, 102, 0), (102, 123, 0), (103, 103, 0), (104, 104, 0), (105, 105, 0), (106, 106, 0), (107, 107, 0), (108, 108, 0), (109, 109, 0), (110, 110, 0), (111, 111, 0), (112, 112, 0), (113, 113, 0), (115, 115, 0), (116, 116, 0), (117, 117, 0), (119, 119, 0), (120, 120, 0), (121, 121, 0), (125, 125, 4), (126, 126, 0), (127, 127, 0), (128, 128, 0), (130, 137, 0), (138, 138, 4), (138, 138, 10), (138, 138, 11), (138, 138, 13), (140, 140, 0), (141, 141, 0), (142, 142, 0), (143, 143, 0), (144, 144, 0), (146, 157, 0), (158, 158, 0), (160, 171, 0), (172, 172, 0), (173, 173, 0), (174, 174, 0), (175, 175, 0), (177, 177, 0), (177, 179, 0), (178, 178, 0), (179, 179, 0), (180, 180, 0), (181, 181, 0), (183, 191, 0), (193, 448, 0), (449, 449, 5), (449, 449, 7), (451, 451, 0), (452, 452, 0), (453, 453, 0), (454, 454, 0), (455, 455, 0), (456, 456, 0), (457, 457, 0), (459, 459, 0), (460, 460, 0), (461, 461, 0), (462, 462, 0), (463, 463, 0), (464, 464, 0), (466, 545, 0), (546, 546, 0), (547, 547, 0), (548, 548, 0)]
theorem fr_fPH_put {s : ev_M} {a1 : Int32} {a2 : Int32} {q : ev_M × Int32} (h : fPH_put s a1 a2 = some q) : fr F_PH_put s q.1 := by
  have g : fr F_PH_put s s := fr.rf
  refine fr_bd2 h fun s1 v2 hc h => ?_
  have gs1 : fr F_PH_put s s1 := g.tr ((fr_fLog_stages hc).mono (F := F_PH_put) (by decide +kernel))
  refine fr_if h (fun h => ?_) fun h => ?_
  · cases h; exact gs1
  · refine fr_bd2 h fun s3 v4 hc h => ?_
    have gs3 : fr F_PH_put s s3 := gs1.tr ((fr_fPH_act_1 hc).mono (F := F_PH_put) (by decide +kernel))
    cases h; exact gs3
def F_M_put : List (Nat × (Nat × Nat)) := [(549, 549, 1), (549, 549, 3), (549, 549, 10), (549, 549, 11), (549, 549, 14), (549, 549, 15), (549, 549, 16), (549, 549, 17), (549, 549, 23), (549, 549, 24), (549, 549, 25), (549, 549, 28), (549, 549, 34), (549, 549, 39), (549, 549, 44), (549, 549, 49), (549, 549, 50), (549, 549, 51), (549, 549, 52), (549, 549, 59), (549, 549, 84), (549, 549, 85), (549, 549, 86), (549, 549, 87), (549, 549, 88), (549, 549, 92), (549, 549, 94), (549, 549, 102), (549, 549, 108), (549, 549, 112), (549, 549, 115), (549, 549, 120), (549, 549, 126), (549, 549, 130), (549, 549, 135), (549, 549, 140), (549, 549, 141), (549, 549, 142), (549, 549, 147), (549, 549, 153), (549, 549, 154), (549, 549, 167), (552, 552, 0), (553, 553, 0), (554, 554, 0), (558, 558, 0), (559, 559, 0), (560, 560, 0), (561, 561, 0), (562, 562, 0), (563, 563, 0), (564, 564, 0), (565, 565, 0), (566, 566, 0), (567, 567, 0), (568, 568, 0), (569, 569, 0), (570, 570, 0), (571, 571, 0), (572, 572, 0), (573, 573, 0), (574, 574, 0), (575, 575, 0), (576, 576, 0), (577, 577, 0), (578, 578, 0), (579, 579, 0), (580, 580, 0), (581, 581, 0), (582, 582, 0), (583, 583, 0), (584, 584, 0), (585, 585, 0), (586, 586, 0), (587, 587, 0), (588, 588, 0), (589, 589, 0), (590, 590, 0), (591, 591, 0), (592, 592, 0), (593, 593, 0), (594, 594, 0), (595, 595, 0), (596, 596, 0), (597, 597, 0), (598, 598, 0), (599, 599, 0), (600, 600, 0), (601, 601, 0), (602, 602, 0), (603, 603, 0), (604, 604, 0), (605, 605, 0), (606, 606, 0), (607, 607, 0), (608, 608, 0), (609, 609, 0), (610, 610, 0), (611, 611, 0), (612, 612, 0), (613, 613, 0), (614, 614, 0), (615, 615, 0), (616, 616, 0), (617, 617, 0), (618, 618, 0), (619, 619, 0), (620, 620, 0), (621, 621, 0), (622, 622, 0), (623, 623, 0), (624, 624, 0), (625, 625, 0), (626, 626, 0), (627, 627, 0), (628, 628, 0), (629, 629, 0), (630, 630, 0), (631, 631, 0), (632, 632, 0), (633, 633, 0), (634, 634, 0), (635, 635, 0), (636, 636, 0), (637, 637, 0), (638, 638, 0), (639, 639, 0), (640, 640, 0), (641, 641, 0), (642, 642, 0), (643, 643, 0), (644, 644, 0), (645, 645, 0), (646, 646, 0), (647, 647, 0), (648, 648, 0), (649, 649, 0), (650, 650, 0), (651, 651, 0), (652, 652, 0), (653, 653, 0), (654, 654, 0), (655, 655, 0), (656, 656, 0), (658, 658, 0), (659, 659, 0), (664, 664, 0), (665, 665, 0), (666, 666, 0), (667, 667, 0), (668, 668, 0), (669, 669, 0), (670, 670, 0), (671, 671, 0), (672, 672, 0), (673, 673, 0), (674, 674, 0), (675, 675, 0), (676, 676, 0), (677, 677, 0), (678, 678, 0), (679, 679, 0), (680, 680, 0)]
theorem fr_fM_put {s : ev_M} {a1 : Int32} {a2 : Int32} {q : ev_M × Int32} (h : fM_put s a1 a2 = some q) : fr F_M_put s q.1 := by
  have g : fr F_M_put s s := fr.rf
  refine fr_bd2 h fun s1 v2 hc h => ?_
  have gs1 : fr F_M_put s s1 := g.tr ((fr_fM_call2 hc).mono (F := F_M_put) (by decide +kernel))
  cases h; exact gs1
def F_PH_pickUp : List (Nat × (Nat × Nat)) := [(1, 1, 3), (1, 1, 5), (1, 1, 6), (3, 3, 0), (9, 9, 7), (9, 9, 8), (9, 9, 14), (9, 9, 15), (13, 13, 0), (14, 14, 0), (15, 15, 2), (15, 15, 3), (15, 15, 8), (17, 17, 0), (18, 18, 0), (19, 19, 0), (20, 20, 0), (21, 21, 0), (22, 22, 0), (24, 24, 0), (25, 25, 0), (26, 26, 0), (27, 27, 0), (28, 28, 0), (29, 29, 0), (30, 30, 3), (30, 30, 5), (30, 30, 8), (30, 30, 10), (30, 30, 12), (30, 30, 15), (30, 30, 16), (31, 31, 0), (33, 33, 0), (34, 34, 0), (35, 35, 0), (36, 36, 0), (37, 37, 0), (39, 39, 0), (40, 40, 0), (41, 41, 0), (42, 42, 0), (44, 44, 0), (45, 45, 0), (47, 47, 0), (48, 48, 0), (49, 49, 0), (50, 50, 0), (51, 51, 0), (52, 52, 3), (52, 52, 4), (52, 52, 5), (52, 52, 6), (52, 52, 9), (52, 52, 10), (52, 52, 14), (53, 53, 0), (54, 54, 0), (56, 56, 0), (57, 57, 0), (58, 58, 0), (59, 59, 0), (60, 60, 0), (61, 61, 0), (63, 63, 0), (64, 64, 0), (65, 65, 0), (66, 66, 0), (68, 75, 0), (72, 72, 0), (73, 73, 0), (74, 74, 0), (76, 76, 0), (77, 77, 0), (78, 78, 4), (78, 78, 7), (78, 78, 9), (78, 78, 10), (78, 78, 12), (78, 78, 14), (79, 79, 0), (80, 80, 0), (82, 82, 0), (83, 83, 0), (84, 84, 0), (85, 85, 0), (87, 87, 0), (88, 88, 0), (89, 89, 0), (90, 90, 0), (91, 91, 0), (93, 95, 0), (97, 97, 0), (98, 98, 0), (99, 99, 0), (100, 100, 6), (100, 100, 7), (102, 102, 0), (102, 123, 0), (103, 103, 0), (104, 104, 0), (105, 105, 0), (106, 106, 0), (107, 107, 0), (108, 108, 0), (109, 109, 0), (110, 110, 0), (111, 111, 0), (112, 112, 0), (113, 113, 0), (115, 115, 0), (116, 116, 0), (117, 117, 0), (119, 119, 0), (120, 120, 0), (121, 121, 0), (125, 125, 4), (126, 126, 0), (127, 127, 0), (128, 128, 0), (130, 137, 0), (138, 138, 4), (138, 138, 10), (138, 138, 11), (138, 138, 13), (140, 140, 0), (141, 141, 0), (142, 142, 0), (143, 143, 0), (144, 144, 0), (146, 157, 0), (158, 158, 0), (160, 171, 0), (172, 172, 0), (173, 173, 0), (174, 174, 0), (175, 175, 0), (177, 177, 0), (177, 179, 0), (178, 178, 0), (179, 179, 0), (180, 180, 0), (181, 181, 0), (183, 191, 0), (193, 448, 0), (449, 449, 5), (449, 449, 7), (451, 451, 0), (452, 452, 0), (453, 453, 0), (454, 454, 0), (455, 455, 0), (456, 456, 0), (457, 457, 0), (459, 459, 0), (460, 460, 0), (461, 461, 0), (462, 462, 0), (463, 463, 0), (464, 464, 0), (466, 545, 0), (546, 546, 0), (547, 547, 0), (548, 548, 0)]
theorem fr_fPH_pickUp {s : ev_M} {a1 : Int32} {a2 : Int32} {a3 : Int32} {a4 : Int32} {q : ev_M × Int32} (h : fPH_pickUp s a1 a2 a3 a4 = some q) : fr F_PH_pickUp s q.1 := by
  have g : fr F_PH_pickUp s s := fr.rf
  refine fr_bd2 h fun s1 v2 hc h => ?_
  have gs1 : fr F_PH_pickUp s s1 := g.tr ((fr_fLog_stages hc).mono (F := F_PH_pickUp) (by decide +kernel))
  refine fr_if h (fun h => ?_) fun h => ?_
  · cases h; exact gs1
  · refine fr_bd2 h fun s3 v4 hc h => ?_
    have gs3 : fr F_PH_pickUp s s3 := gs1.tr ((fr_fPH_act_1 hc).mono (F := F_PH_pickUp) (by decide +kernel))
    cases h; exact gs3
def F_M_pickUp : List (Nat × (Nat × Nat)) := [(549, 549, 1), (549, 549, 3), (549, 549, 10), (549, 549, 11), (549, 549, 14), (549, 549, 15), (549, 549, 16), (549, 549, 17), (549, 549, 23), (549, 549, 24), (549, 549, 25), (549, 549, 28), (549, 549, 34), (549, 549, 39), (549, 549, 44), (549, 549, 49), (549, 549, 50), (549, 549, 51), (549, 549, 52), (549, 549, 59), (549, 549, 84), (549, 549, 85), (549, 549, 86), (549, 549, 87), (549, 549, 88), (549, 549, 92), (549, 549, 94), (549, 549, 102), (549, 549, 108), (549, 549, 112), (549, 549, 115), (549, 549, 120), (549, 549, 126), (549, 549, 130), (549, 549, 135), (549, 549, 140), (549, 549, 141), (549, 549, 142), (549, 549, 147), (549, 549, 153), (549, 549, 154), (549, 549, 167), (552, 552, 0), (553, 553, 0), (554, 554, 0), (558, 558, 0), (559, 559, 0), (560, 560, 0), (561, 561, 0), (562, 562, 0), (563, 563, 0), (564, 564, 0), (565, 565, 0), (566, 566, 0), (567, 567, 0), (568, 568, 0), (569, 569, 0), (570, 570, 0), (571, 571, 0), (572, 572, 0), (573, 573, 0), (574, 574, 0), (575, 575, 0), (576, 576, 0), (577, 577, 0), (578, 578, 0), (579, 579, 0), (580, 580, 0), (581, 581, 0), (582, 582, 0), (583, 583, 0), (584, 584, 0), (585, 585, 0), (586, 586, 0), (587, 587, 0), (588, 588, 0), (589, 589, 0), (590, 590, 0), (591, 591, 0), (592, 592, 0), (593, 593, 0), (594, 594, 0), (595, 595, 0), (596, 596, 0), (597, 597, 0), (598, 598, 0), (599, 599, 0), (600, 600, 0), (601, 601, 0), (602, 602, 0), (603, 603, 0), (604, 604, 0), (605, 605, 0), (606, 606, 0), (607, 607, 0), (608, 608, 0), (609, 609, 0), (610, 610, 0), (611, 611, 0), (612, 612, 0), (613, 613, 0), (614, 614, 0), (615, 615, 0), (616, 616, 0), (617, 617, 0), (618, 618, 0), (619, 619, 0), (620, 620, 0), (621, 621, 0), (622, 622, 0), (623, 623, 0), (624, 624, 0), (625, 625, 0), (626, 626, 0), (627, 627, 0), (628, 628, 0), (629, 629, 0), (630, 630, 0), (631, 631, 0), (632, 632, 0), (633, 633, 0), (634, 634, 0), (635, 635, 0), (636, 636, 0), (637, 637, 0), (638, 638, 0), (639, 639, 0), (640, 640, 0), (641, 641, 0), (642, 642, 0), (643, 643, 0), (644, 644, 0), (645, 645, 0), (646, 646, 0), (647, 647, 0), (648, 648, 0), (649, 649, 0), (650, 650, 0), (651, 651, 0), (652, 652, 0), (653, 653, 0), (654, 654, 0), (655, 655, 0), (656, 656, 0), (658, 658, 0), (659, 659, 0), (664, 664, 0), (665, 665, 0), (666, 666, 0), (667, 667, 0), (668, 668, 0), (669, 669, 0), (670, 670, 0), (671, 671, 0), (672, 672, 0), (673, 673, 0), (674, 674, 0), (675, 675, 0), (676, 676, 0), (677, 677, 0), (678, 678, 0), (679, 679, 0), (680, 680, 0)]
theorem fr_fM_pickUp {s : ev_M} {a1 : Int32} {a2 : Int32} {a3 : Int32} {a4 : Int32} {q : ev_M × Int32} (h : fM_pickUp s a1 a2 a3 a4 = some q) : fr F_M_pickUp s q.1 := by
  have g : fr F_M_pickUp s s := fr.rf
  refine fr_bd2 h fun s1 v2 hc h => ?_
  have gs1 : fr F_M_pickUp s s1 := g.tr ((fr_fM_call4 hc).mono (F := F_M_pickUp) (by decide +kernel))
  cases h; exact gs1
def F_PH_openBox : List (Nat × (Nat × Nat)) := [(1, 1, 3), (1, 1, 5), (1, 1, 6), (3, 3, 0), (9, 9, 7), (9, 9, 8), (9, 9, 14), (9, 9, 15), (13, 13, 0), (14, 14, 0), (15, 15, 2), (15, 15, 3), (15, 15, 8), (17, 17, 0), (18, 18, 0), (19, 19, 0), (20, 20, 0), (21, 21, 0), (22, 22, 0), (24, 24, 0), (25, 25, 0), (26, 26, 0), (27, 27, 0), (28, 28, 0), (29, 29, 0), (30, 30, 3), (30, 30, 5), (30, 30, 8), (30, 30, 10), (30, 30, 12), (30, 30, 15), (30, 30, 16), (31, 31, 0), (33, 33, 0), (34, 34, 0), (35, 35, 0), (36, 36, 0), (37, 37, 0), (39, 39, 0), (40, 40, 0), (41, 41, 0), (42, 42, 0), (44, 44, 0), (45, 45, 0), (47, 47, 0), (48, 48, 0), (49, 49, 0), (50, 50, 0), (51, 51, 0), (52, 52, 3), (52, 52, 4), (52, 52, 5), (52, 52, 6), (52, 52, 9), (52, 52, 10), (52, 52, 14), (53, 53, 0), (54, 54, 0), (56, 56, 0), (57, 57, 0), (58, 58, 0), (59, 59, 0), (60, 60, 0), (61, 61, 0), (63, 63, 0), (64, 64, 0), (65, 65, 0), (66, 66, 0), (68, 75, 0), (72, 72, 0), (73, 73, 0), (74, 74, 0), (76, 76, 0), (77, 77, 0), (78, 78, 4), (78, 78, 7), (78, 78, 9), (78, 78, 10), (78, 78, 12), (78, 78, 14), (79, 79, 0), (80, 80, 0), (82, 82, 0), (83, 83, 0), (84, 84, 0), (85, 85, 0), (87, 87, 0), (88, 88, 0), (89, 89, 0), (90, 90, 0), (91, 91, 0), (93, 95, 0), (97, 97, 0), (98, 98, 0), (99, 99, 0), (100, 100, 6), (100, 100, 7), (102, 102, 0), (102, 123, 0), (103, 103, 0), (104, 104, 0), (105, 105, 0), (106, 106, 0), (107, 107, 0), (108, 108, 0), (109, 109, 0), (110, 110, 0), (111, 111, 0), (112, 112, 0), (113, 113, 0), (115, 115, 0), (116, 116, 0), (117, 117, 0), (119, 119, 0), (120, 120, 0), (121, 121, 0), (125, 125, 4), (126, 126, 0), (127, 127, 0), (128, 128, 0), (130, 137, 0), (138, 138, 4), (138, 138, 10), (138, 138, 11), (138, 138, 13), (140, 140, 0), (141, 141, 0), (142, 142, 0), (143, 143, 0), (144, 144, 0), (146, 157, 0), (158, 158, 0), (160, 171, 0), (172, 172, 0), (173, 173, 0), (174, 174, 0), (175, 175, 0), (177, 177, 0), (177, 179, 0), (178, 178, 0), (179, 179, 0), (180, 180, 0), (181, 181, 0), (183, 191, 0), (193, 448, 0), (449, 449, 5), (449, 449, 7), (451, 451, 0), (452, 452, 0), (453, 453, 0), (454, 454, 0), (455, 455, 0), (456, 456, 0), (457, 457, 0), (459, 459, 0), (460, 460, 0), (461, 461, 0), (462, 462, 0), (463, 463, 0), (464, 464, 0), (466, 545, 0), (546, 546, 0), (547, 547, 0), (548, 548, 0)]
theorem fr_fPH_openBox {s : ev_M} {a1 : Int32} {a2 : Int32} {q : ev_M × Int32} (h : fPH_openBox s a1 a2 = some q) : fr F_PH_openBox s q.1 := by
  have g : fr F_PH_openBox s s := fr.rf
  refine fr_bd2 h fun s1 v2 hc h => ?_
  have gs1 : fr F_PH_openBox s s1 := g.tr ((fr_fLog_stages hc).mono (F := F_PH_openBox) (by decide +kernel))
  refine fr_if h (fun h => ?_) fun h => ?_
  · cases h; exact gs1
  · refine fr_bd2 h fun s3 v4 hc h => ?_
    have gs3 : fr F_PH_openBox s s3 := gs1.tr ((fr_fPH_act_1 hc).mono (F := F_PH_openBox) (by decide +kernel))
    cases h; exact gs3
def F_M_openBox : List (Nat × (Nat × Nat)) := [(549, 549, 1), (549, 549, 3), (549, 549, 10), (549, 549, 11), (549, 549, 14), (549, 549, 15), (549, 549, 16), (549, 549, 17), (549, 549, 23), (549, 549, 24), (549, 549, 25), (549, 549, 28), (549, 549, 34), (549, 549, 39), (549, 549, 44), (549, 549, 49), (549, 549, 50), (549, 549, 51), (549, 549, 52), (549, 549, 59), (549, 549, 84), (549, 549, 85), (549, 549, 86), (549, 549, 87), (549, 549, 88), (549, 549, 92), (549, 549, 94), (549, 549, 102), (549, 549, 108), (549, 549, 112), (549, 549, 115), (549, 549, 120), (549, 549, 126), (549, 549, 130), (549, 549, 135), (549, 549, 140), (549, 549, 141), (549, 549, 142), (549, 549, 147), (549, 549, 153), (549, 549, 154), (549, 549, 167), (552, 552, 0), (553, 553, 0), (554, 554, 0), (558, 558, 0), (559, 559, 0), (560, 560, 0), (561, 561, 0), (562, 562, 0), (563, 563, 0), (564, 564, 0), (565, 565, 0), (566, 566, 0), (567, 567, 0), (568, 568, 0), (569, 569, 0), (570, 570, 0), (571, 571, 0), (572, 572, 0), (573, 573, 0), (574, 574, 0), (575, 575, 0), (576, 576, 0), (577, 577, 0), (578, 578, 0), (579, 579, 0), (580, 580, 0), (581, 581, 0), (582, 582, 0), (583, 583, 0), (584, 584, 0), (585, 585, 0), (586, 586, 0), (587, 587, 0), (588, 588, 0), (589, 589, 0), (590, 590, 0), (591, 591, 0), (592, 592, 0), (593, 593, 0), (594, 594, 0), (595, 595, 0), (596, 596, 0), (597, 597, 0), (598, 598, 0), (599, 599, 0), (600, 600, 0), (601, 601, 0), (602, 602, 0), (603, 603, 0), (604, 604, 0), (605, 605, 0), (606, 606, 0), (607, 607, 0), (608, 608, 0), (609, 609, 0), (610, 610, 0), (611, 611, 0), (612, 612, 0), (613, 613, 0), (614, 614, 0), (615, 615, 0), (616, 616, 0), (617, 617, 0), (618, 618, 0), (619, 619, 0), (620, 620, 0), (621, 621, 0), (622, 622, 0), (623, 623, 0), (624, 624, 0), (625, 625, 0), (626, 626, 0), (627, 627, 0), (628, 628, 0), (629, 629, 0), (630, 630, 0), (631, 631, 0), (632, 632, 0), (633, 633, 0), (634, 634, 0), (635, 635, 0), (636, 636, 0), (637, 637, 0), (638, 638, 0), (639, 639, 0), (640, 640, 0), (641, 641, 0), (642, 642, 0), (643, 643, 0), (644, 644, 0), (645, 645, 0), (646, 646, 0), (647, 647, 0), (648, 648, 0), (649, 649, 0), (650, 650, 0), (651, 651, 0), (652, 652, 0), (653, 653, 0), (654, 654, 0), (655, 655, 0), (656, 656, 0), (658, 658, 0), (659, 659, 0), (664, 664, 0), (665, 665, 0), (666, 666, 0), (667, 667, 0), (668, 668, 0), (669, 669, 0), (670, 670, 0), (671, 671, 0), (672, 672, 0), (673, 673, 0), (674, 674, 0), (675, 675, 0), (676, 676, 0), (677, 677, 0), (678, 678, 0), (679, 679, 0), (680, 680, 0)]
theorem fr_fM_openBox {s : ev_M} {a1 : Int32} {a2 : Int32} {q : ev_M × Int32} (h : fM_openBox s a1 a2 = some q) : fr F_M_openBox s q.1 := by
  have g : fr F_M_openBox s s := fr.rf
  refine fr_bd2 h fun s1 v2 hc h => ?_
  have gs1 : fr F_M_openBox s s1 := g.tr ((fr_fM_call2 hc).mono (F := F_M_openBox) (by decide +kernel))
  cases h; exact gs1
def F_PH_lose : List (Nat × (Nat × Nat)) := [(1, 1, 3), (1, 1, 5), (1, 1, 6), (3, 3, 0), (9, 9, 7), (9, 9, 8), (9, 9, 14), (9, 9, 15), (13, 13, 0), (14, 14, 0), (15, 15, 2), (15, 15, 3), (15, 15, 8), (17, 17, 0), (18, 18, 0), (19, 19, 0), (20, 20, 0), (21, 21, 0), (22, 22, 0), (24, 24, 0), (25, 25, 0), (26, 26, 0), (27, 27, 0), (28, 28, 0), (29, 29, 0), (30, 30, 3), (30, 30, 5), (30, 30, 8), (30, 30, 10), (30, 30, 12), (30, 30, 15), (30, 30, 16), (31, 31, 0), (33, 33, 0), (34, 34, 0), (35, 35, 0), (36, 36, 0), (37, 37, 0), (39, 39, 0), (40, 40, 0), (41, 41, 0), (42, 42, 0), (44, 44, 0), (45, 45, 0), (47, 47, 0), (48, 48, 0), (49, 49, 0), (50, 50, 0), (51, 51, 0), (52, 52, 3), (52, 52, 4), (52, 52, 5), (52, 52, 6), (52, 52, 9), (52, 52, 10), (52, 52, 14), (53, 53, 0), (54, 54, 0), (56, 56, 0), (57, 57, 0), (58, 58, 0), (59, 59, 0), (60, 60, 0), (61, 61, 0), (63, 63, 0), (64, 64, 0), (65, 65, 0), (66, 66, 0), (68, 75, 0), (72, 72, 0), (73, 73, 0), (74, 74, 0), (76, 76, 0), (77, 77, 0), (78, 78, 4), (78, 78, 7), (78, 78, 9), (78, 78, 10), (78, 78, 12), (78, 78, 14), (79, 79, 0), (80, 80, 0), (82, 82, 0), (83, 83, 0), (84, 84, 0), (85, 85, 0), (87, 87, 0), (88, 88, 0), (89, 89, 0), (90, 90, 0), (91, 91, 0), (93, 95, 0), (97, 97, 0), (98, 98, 0), (99, 99, 0), (100, 100, 6), (100, 100, 7), (102, 102, 0), (102, 123, 0), (103, 103, 0), (104, 104, 0), (105, 105, 0), (106, 106, 0), (107, 107, 0), (108, 108, 0), (109, 109, 0), (110, 110, 0), (111, 111, 0), (112, 112, 0), (113, 113, 0), (115, 115, 0), (116, 116, 0), (117, 117, 0), (119, 119, 0), (120, 120, 0), (121, 121, 0), (125, 125, 4), (126, 126, 0), (127, 127, 0), (128, 128, 0), (130, 137, 0), (138, 138, 4), (138, 138, 10), (138, 138, 11), (138, 138, 13), (140, 140, 0), (141, 141, 0), (142, 142, 0), (143, 143, 0), (144, 144, 0), (146, 157, 0), (158, 158, 0), (160, 171, 0), (172, 172, 0), (173, 173, 0), (174, 174, 0), (175, 175, 0), (177, 177, 0), (177, 179, 0), (178, 178, 0), (179, 179, 0), (180, 180, 0), (181, 181, 0), (183, 191, 0), (193, 448, 0), (449, 449, 5), (449, 449, 7), (451, 451, 0), (452, 452, 0), (453, 453, 0), (454, 454, 0), (455, 455, 0), (456, 456, 0), (457, 457, 0), (459, 459, 0), (460, 460, 0), (461, 461, 0), (462, 462, 0), (463, 463, 0), (464, 464, 0), (466, 545, 0), (546, 546, 0), (547, 547, 0), (548, 548, 0)]
theorem fr_fPH_lose {s : ev_M} {a1 : Int32} {q : ev_M × Int32} (h : fPH_lose s a1 = some q) : fr F_PH_lose s q.1 := by
  have g : fr F_PH_lose s s := fr.rf
  refine fr_bd2 h fun s1 v2 hc h => ?_
  have gs1 : fr F_PH_lose s s1 := g.tr ((fr_fLog_stages hc).mono (F := F_PH_lose) (by decide +kernel))
  refine fr_if h (fun h => ?_) fun h => ?_
  · cases h; exact gs1
  · refine fr_bd2 h fun s3 v4 hc h => ?_
    have gs3 : fr F_PH_lose s s3 := gs1.tr ((fr_fPH_act_1 hc).mono (F := F_PH_lose) (by decide +kernel))
    cases h; exact gs3
def F_M_lose : List (Nat × (Nat × Nat)) := [(549, 549, 1), (549, 549, 3), (549, 549, 10), (549, 549, 11), (549, 549, 14), (549, 549, 15), (549, 549, 16), (549, 549, 17), (549, 549, 23), (549, 549, 24), (549, 549, 25), (549, 549, 28), (549, 549, 34), (549, 549, 39), (549, 549, 44), (549, 549, 49), (549, 549, 50), (549, 549, 51), (549, 549, 52), (549, 549, 59), (549, 549, 84), (549, 549, 85), (549, 549, 86), (549, 549, 87), (549, 549, 88), (549, 549, 92), (549, 549, 94), (549, 549, 102), (549, 549, 108), (549, 549, 112), (549, 549, 115), (549, 549, 120), (549, 549, 126), (549, 549, 130), (549, 549, 135), (549, 549, 140), (549, 549, 141), (549, 549, 142), (549, 549, 147), (549, 549, 153), (549, 549, 154), (549, 549, 167), (552, 552, 0), (553, 553, 0), (554, 554, 0), (558, 558, 0), (559, 559, 0), (560, 560, 0), (561, 561, 0), (562, 562, 0), (563, 563, 0), (564, 564, 0), (565, 565, 0), (566, 566, 0), (567, 567, 0), (568, 568, 0), (569, 569, 0), (570, 570, 0), (571, 571, 0), (572, 572, 0), (573, 573, 0), (574, 574, 0), (575, 575, 0), (576, 576, 0), (577, 577, 0), (578, 578, 0), (579, 579, 0), (580, 580, 0), (581, 581, 0), (582, 582, 0), (583, 583, 0), (584, 584, 0), (585, 585, 0), (586, 586, 0), (587, 587, 0), (588, 588, 0), (589, 589, 0), (590, 590, 0), (591, 591, 0), (592, 592, 0), (593, 593, 0), (594, 594, 0), (595, 595, 0), (596, 596, 0), (597, 597, 0), (598, 598, 0), (599, 599, 0), (600, 600, 0), (601, 601, 0), (602, 602, 0), (603, 603, 0), (604, 604, 0), (605, 605, 0), (606, 606, 0), (607, 607, 0), (608, 608, 0), (609, 609, 0), (610, 610, 0), (611, 611, 0), (612, 612, 0), (613, 613, 0), (614, 614, 0), (615, 615, 0), (616, 616, 0), (617, 617, 0), (618, 618, 0), (619, 619, 0), (620, 620, 0), (621, 621, 0), (622, 622, 0), (623, 623, 0), (624, 624, 0), (625, 625, 0), (626, 626, 0), (627, 627, 0), (628, 628, 0), (629, 629, 0), (630, 630, 0), (631, 631, 0), (632, 632, 0), (633, 633, 0), (634, 634, 0), (635, 635, 0), (636, 636, 0), (637, 637, 0), (638, 638, 0), (639, 639, 0), (640, 640, 0), (641, 641, 0), (642, 642, 0), (643, 643, 0), (644, 644, 0), (645, 645, 0), (646, 646, 0), (647, 647, 0), (648, 648, 0), (649, 649, 0), (650, 650, 0), (651, 651, 0), (652, 652, 0), (653, 653, 0), (654, 654, 0), (655, 655, 0), (656, 656, 0), (658, 658, 0), (659, 659, 0), (664, 664, 0), (665, 665, 0), (666, 666, 0), (667, 667, 0), (668, 668, 0), (669, 669, 0), (670, 670, 0), (671, 671, 0), (672, 672, 0), (673, 673, 0), (674, 674, 0), (675, 675, 0), (676, 676, 0), (677, 677, 0), (678, 678, 0), (679, 679, 0), (680, 680, 0)]
theorem fr_fM_lose {s : ev_M} {a1 : Int32} {q : ev_M × Int32} (h : fM_lose s a1 = some q) : fr F_M_lose s q.1 := by
  have g : fr F_M_lose s s := fr.rf
  refine fr_bd2 h fun s1 v2 hc h => ?_
  have gs1 : fr F_M_lose s s1 := g.tr ((fr_fM_call1 hc).mono (F := F_M_lose) (by decide +kernel))
  cases h; exact gs1
def F_PH_account : List (Nat × (Nat × Nat)) := [(1, 1, 3), (1, 1, 5), (1, 1, 6), (3, 3, 0), (9, 9, 7), (9, 9, 8), (9, 9, 14), (9, 9, 15), (13, 13, 0), (14, 14, 0), (15, 15, 2), (15, 15, 3), (15, 15, 8), (17, 17, 0), (18, 18, 0), (19, 19, 0), (20, 20, 0), (21, 21, 0), (22, 22, 0), (24, 24, 0), (25, 25, 0), (26, 26, 0), (27, 27, 0), (28, 28, 0), (29, 29, 0), (30, 30, 3), (30, 30, 5), (30, 30, 8), (30, 30, 10), (30, 30, 12), (30, 30, 15), (30, 30, 16), (31, 31, 0), (33, 33, 0), (34, 34, 0), (35, 35, 0), (36, 36, 0), (37, 37, 0), (39, 39, 0), (40, 40, 0), (41, 41, 0), (42, 42, 0), (44, 44, 0), (45, 45, 0), (47, 47, 0), (48, 48, 0), (49, 49, 0), (50, 50, 0), (51, 51, 0), (52, 52, 3), (52, 52, 4), (52, 52, 5), (52, 52, 6), (52, 52, 9), (52, 52, 10), (52, 52, 14), (53, 53, 0), (54, 54, 0), (56, 56, 0), (57, 57, 0), (58, 58, 0), (59, 59, 0), (60, 60, 0), (61, 61, 0), (63, 63, 0), (64, 64, 0), (65, 65, 0), (66, 66, 0), (68, 75, 0), (72, 72, 0), (73, 73, 0), (74, 74, 0), (76, 76, 0), (77, 77, 0), (78, 78, 4), (78, 78, 7), (78, 78, 9), (78, 78, 10), (78, 78, 12), (78, 78, 14), (79, 79, 0), (80, 80, 0), (82, 82, 0), (83, 83, 0), (84, 84, 0), (85, 85, 0), (87, 87, 0), (88, 88, 0), (89, 89, 0), (90, 90, 0), (91, 91, 0), (93, 95, 0), (97, 97, 0), (98, 98, 0), (99, 99, 0), (100, 100, 6), (100, 100, 7), (102, 102, 0), (102, 123, 0), (103, 103, 0), (104, 104, 0), (105, 105, 0), (106, 106, 0), (107, 107, 0), (108, 108, 0), (109, 109, 0), (110, 110, 0), (111, 111, 0), (112, 112, 0), (113, 113, 0), (115, 115, 0), (116, 116, 0), (117, 117, 0), (119, 119, 0), (120, 120, 0), (121, 121, 0), (125, 125, 4), (126, 126, 0), (127, 127, 0), (128, 128, 0), (130, 137, 0), (138, 138, 4), (138, 138, 10), (138, 138, 11), (138, 138, 13), (140, 140, 0), (141, 141, 0), (142, 142, 0), (143, 143, 0), (144, 144, 0), (146, 157, 0), (158, 158, 0), (160, 171, 0), (172, 172, 0), (173, 173, 0), (174, 174, 0), (175, 175, 0), (177, 177, 0), (177, 179, 0), (178, 178, 0), (179, 179, 0), (180, 180, 0), (181, 181, 0), (183, 191, 0), (193, 448, 0), (449, 449, 5), (449, 449, 7), (451, 451, 0), (452, 452, 0), (453, 453, 0), (454, 454, 0), (455, 455, 0), (456, 456, 0), (457, 457, 0), (459, 459, 0), (460, 460, 0), (461, 461, 0), (462, 462, 0), (463, 463, 0), (464, 464, 0), (466, 545, 0), (546, 546, 0), (547, 547, 0), (548, 548, 0)]
theorem fr_fPH_account {s : ev_M} {a1 : Int32} {q : ev_M × Int32} (h : fPH_account s a1 = some q) : fr F_PH_account s q.1 := by
  have g : fr F_PH_account s s := fr.rf
  refine fr_bd2 h fun s1 v2 hc h => ?_
  have gs1 : fr F_PH_account s s1 := g.tr ((fr_fLog_stages hc).mono (F := F_PH_account) (by decide +kernel))
  refine fr_if h (fun h => ?_) fun h => ?_
  · cases h; exact gs1
  · refine fr_bd2 h fun s3 v4 hc h => ?_
    have gs3 : fr F_PH_account s s3 := gs1.tr ((fr_fPH_act_1 hc).mono (F := F_PH_account) (by decide +kernel))
    cases h; exact gs3
def F_M_account : List (Nat × (Nat × Nat)) := [(549, 549, 1), (549, 549, 3), (549, 549, 10), (549, 549, 11), (549, 549, 14), (549, 549, 15), (549, 549, 16), (549, 549, 17), (549, 549, 23), (549, 549, 24), (549, 549, 25), (549, 549, 28), (549, 549, 34), (549, 549, 39), (549, 549, 44), (549, 549, 49), (549, 549, 50), (549, 549, 51), (549, 549, 52), (549, 549, 59), (549, 549, 84), (549, 549, 85), (549, 549, 86), (549, 549, 87), (549, 549, 88), (549, 549, 92), (549, 549, 94), (549, 549, 102), (549, 549, 108), (549, 549, 112), (549, 549, 115), (549, 549, 120), (549, 549, 126), (549, 549, 130), (549, 549, 135), (549, 549, 140), (549, 549, 141), (549, 549, 142), (549, 549, 147), (549, 549, 153), (549, 549, 154), (549, 549, 167), (552, 552, 0), (553, 553, 0), (554, 554, 0), (558, 558, 0), (559, 559, 0), (560, 560, 0), (561, 561, 0), (562, 562, 0), (563, 563, 0), (564, 564, 0), (565, 565, 0), (566, 566, 0), (567, 567, 0), (568, 568, 0), (569, 569, 0), (570, 570, 0), (571, 571, 0), (572, 572, 0), (573, 573, 0), (574, 574, 0), (575, 575, 0), (576, 576, 0), (577, 577, 0), (578, 578, 0), (579, 579, 0), (580, 580, 0), (581, 581, 0), (582, 582, 0), (583, 583, 0), (584, 584, 0), (585, 585, 0), (586, 586, 0), (587, 587, 0), (588, 588, 0), (589, 589, 0), (590, 590, 0), (591, 591, 0), (592, 592, 0), (593, 593, 0), (594, 594, 0), (595, 595, 0), (596, 596, 0), (597, 597, 0), (598, 598, 0), (599, 599, 0), (600, 600, 0), (601, 601, 0), (602, 602, 0), (603, 603, 0), (604, 604, 0), (605, 605, 0), (606, 606, 0), (607, 607, 0), (608, 608, 0), (609, 609, 0), (610, 610, 0), (611, 611, 0), (612, 612, 0), (613, 613, 0), (614, 614, 0), (615, 615, 0), (616, 616, 0), (617, 617, 0), (618, 618, 0), (619, 619, 0), (620, 620, 0), (621, 621, 0), (622, 622, 0), (623, 623, 0), (624, 624, 0), (625, 625, 0), (626, 626, 0), (627, 627, 0), (628, 628, 0), (629, 629, 0), (630, 630, 0), (631, 631, 0), (632, 632, 0), (633, 633, 0), (634, 634, 0), (635, 635, 0), (636, 636, 0), (637, 637, 0), (638, 638, 0), (639, 639, 0), (640, 640, 0), (641, 641, 0), (642, 642, 0), (643, 643, 0), (644, 644, 0), (645, 645, 0), (646, 646, 0), (647, 647, 0), (648, 648, 0), (649, 649, 0), (650, 650, 0), (651, 651, 0), (652, 652, 0), (653, 653, 0), (654, 654, 0), (655, 655, 0), (656, 656, 0), (658, 658, 0), (659, 659, 0), (664, 664, 0), (665, 665, 0), (666, 666, 0), (667, 667, 0), (668, 668, 0), (669, 669, 0), (670, 670, 0), (671, 671, 0), (672, 672, 0), (673, 673, 0), (674, 674, 0), (675, 675, 0), (676, 676, 0), (677, 677, 0), (678, 678, 0), (679, 679, 0), (680, 680, 0)]
theorem fr_fM_account {s : ev_M} {a1 : Int32} {q : ev_M × Int32} (h : fM_account s a1 = some q) : fr F_M_account s q.1 := by
  have g : fr F_M_account s s := fr.rf
  refine fr_bd2 h fun s1 v2 hc h => ?_
  have gs1 : fr F_M_account s s1 := g.tr ((fr_fM_call1 hc).mono (F := F_M_account) (by decide +kernel))
  cases h; exact gs1
def F_PH_deposit : List (Nat × (Nat × Nat)) := [(1, 1, 3), (1, 1, 5), (1, 1, 6), (3, 3, 0), (9, 9, 7), (9, 9, 8), (9, 9, 14), (9, 9, 15), (13, 13, 0), (14, 14, 0), (15, 15, 2), (15, 15, 3), (15, 15, 8), (17, 17, 0), (18, 18, 0), (19, 19, 0), (20, 20, 0), (21, 21, 0), (22, 22, 0), (24, 24, 0), (25, 25, 0), (26, 26, 0), (27, 27, 0), (28, 28, 0), (29, 29, 0), (30, 30, 3), (30, 30, 5), (30, 30, 8), (30, 30, 10), (30, 30, 12), (30, 30, 15), (30, 30, 16), (31, 31, 0), (33, 33, 0), (34, 34, 0), (35, 35, 0), (36, 36, 0), (37, 37, 0), (39, 39, 0), (40, 40, 0), (41, 41, 0), (42, 42, 0), (44, 44, 0), (45, 45, 0), (47, 47, 0), (48, 48, 0), (49, 49, 0), (50, 50, 0), (51, 51, 0), (52, 52, 3), (52, 52, 4), (52, 52, 5), (52, 52, 6), (52, 52, 9), (52, 52, 10), (52, 52, 14), (53, 53, 0), (54, 54, 0), (56, 56, 0), (57, 57, 0), (58, 58, 0), (59, 59, 0), (60, 60, 0), (61, 61, 0), (63, 63, 0), (64, 64, 0), (65, 65, 0), (66, 66, 0), (68, 75, 0), (72, 72, 0), (73, 73, 0), (74, 74, 0), (76, 76, 0), (77, 77, 0), (78, 78, 4), (78, 78, 7), (78, 78, 9), (78, 78, 10), (78, 78, 12), (78, 78, 14), (79, 79, 0), (80, 80, 0), (82, 82, 0), (83, 83, 0), (84, 84, 0), (85, 85, 0), (87, 87, 0), (88, 88, 0), (89, 89, 0), (90, 90, 0), (91, 91, 0), (93, 95, 0), (97, 97, 0), (98, 98, 0), (99, 99, 0), (100, 100, 6), (100, 100, 7), (102, 102, 0), (102, 123, 0), (103, 103, 0), (104, 104, 0), (105, 105, 0), (106, 106, 0), (107, 107, 0), (108, 108, 0), (109, 109, 0), (110, 110, 0), (111, 111, 0), (112, 112, 0), (113, 113, 0), (115, 115, 0), (116, 116, 0), (117, 117, 0), (119, 119, 0), (120, 120, 0), (121, 121, 0), (125, 125, 4), (126, 126, 0), (127, 127, 0), (128, 128, 0), (130, 137, 0), (138, 138, 4), (138, 138, 10), (138, 138, 11), (138, 138, 13), (140, 140, 0), (141, 141, 0), (142, 142, 0), (143, 143, 0), (144, 144, 0), (146, 157, 0), (158, 158, 0), (160, 171, 0), (172, 172, 0), (173, 173, 0), (174, 174, 0), (175, 175, 0), (177, 177, 0), (177, 179, 0), (178, 178, 0), (179, 179, 0), (180, 180, 0), (181, 181, 0), (183, 191, 0), (193, 448, 0), (449, 449, 5), (449, 449, 7), (451, 451, 0), (452, 452, 0), (453, 453, 0), (454, 454, 0), (455, 455, 0), (456, 456, 0), (457, 457, 0), (459, 459, 0), (460, 460, 0), (461, 461, 0), (462, 462, 0), (463, 463, 0), (464, 464, 0), (466, 545, 0), (546, 546, 0), (547, 547, 0), (548, 548, 0)]
theorem fr_fPH_deposit {s : ev_M} {a1 : Int32} {a2 : Int32} {q : ev_M × Int32} (h : fPH_deposit s a1 a2 = some q) : fr F_PH_deposit s q.1 := by
  have g : fr F_PH_deposit s s := fr.rf
  refine fr_bd2 h fun s1 v2 hc h => ?_
  have gs1 : fr F_PH_deposit s s1 := g.tr ((fr_fLog_stages hc).mono (F := F_PH_deposit) (by decide +kernel))
  refine fr_if h (fun h => ?_) fun h => ?_
  · cases h; exact gs1
  · refine fr_bd2 h fun s3 v4 hc h => ?_
    have gs3 : fr F_PH_deposit s s3 := gs1.tr ((fr_fPH_act_1 hc).mono (F := F_PH_deposit) (by decide +kernel))
    cases h; exact gs3
def F_M_deposit : List (Nat × (Nat × Nat)) := [(549, 549, 1), (549, 549, 3), (549, 549, 10), (549, 549, 11), (549, 549, 14), (549, 549, 15), (549, 549, 16), (549, 549, 17), (549, 549, 23), (549, 549, 24), (549, 549, 25), (549, 549, 28), (549, 549, 34), (549, 549, 39), (549, 549, 44), (549, 549, 49), (549, 549, 50), (549, 549, 51), (549, 549, 52), (549, 549, 59), (549, 549, 84), (549, 549, 85), (549, 549, 86), (549, 549, 87), (549, 549, 88), (549, 549, 92), (549, 549, 94), (549, 549, 102), (549, 549, 108), (549, 549, 112), (549, 549, 115), (549, 549, 120), (549, 549, 126), (549, 549, 130), (549, 549, 135), (549, 549, 140), (549, 549, 141), (549, 549, 142), (549, 549, 147), (549, 549, 153), (549, 549, 154), (549, 549, 167), (552, 552, 0), (553, 553, 0), (554, 554, 0), (558, 558, 0), (559, 559, 0), (560, 560, 0), (561, 561, 0), (562, 562, 0), (563, 563, 0), (564, 564, 0), (565, 565, 0), (566, 566, 0), (567, 567, 0), (568, 568, 0), (569, 569, 0), (570, 570, 0), (571, 571, 0), (572, 572, 0), (573, 573, 0), (574, 574, 0), (575, 575, 0), (576, 576, 0), (577, 577, 0), (578, 578, 0), (579, 579, 0), (580, 580, 0), (581, 581, 0), (582, 582, 0), (583, 583, 0), (584, 584, 0), (585, 585, 0), (586, 586, 0), (587, 587, 0), (588, 588, 0), (589, 589, 0), (590, 590, 0), (591, 591, 0), (592, 592, 0), (593, 593, 0), (594, 594, 0), (595, 595, 0), (596, 596, 0), (597, 597, 0), (598, 598, 0), (599, 599, 0), (600, 600, 0), (601, 601, 0), (602, 602, 0), (603, 603, 0), (604, 604, 0), (605, 605, 0), (606, 606, 0), (607, 607, 0), (608, 608, 0), (609, 609, 0), (610, 610, 0), (611, 611, 0), (612, 612, 0), (613, 613, 0), (614, 614, 0), (615, 615, 0), (616, 616, 0), (617, 617, 0), (618, 618, 0), (619, 619, 0), (620, 620, 0), (621, 621, 0), (622, 622, 0), (623, 623, 0), (624, 624, 0), (625, 625, 0), (626, 626, 0), (627, 627, 0), (628, 628, 0), (629, 629, 0), (630, 630, 0), (631, 631, 0), (632, 632, 0), (633, 633, 0), (634, 634, 0), (635, 635, 0), (636, 636, 0), (637, 637, 0), (638, 638, 0), (639, 639, 0), (640, 640, 0), (641, 641, 0), (642, 642, 0), (643, 643, 0), (644, 644, 0), (645, 645, 0), (646, 646, 0), (647, 647, 0), (648, 648, 0), (649, 649, 0), (650, 650, 0), (651, 651, 0), (652, 652, 0), (653, 653, 0), (654, 654, 0), (655, 655, 0), (656, 656, 0), (658, 658, 0), (659, 659, 0), (664, 664, 0), (665, 665, 0), (666, 666, 0), (667, 667, 0), (668, 668, 0), (669, 669, 0), (670, 670, 0), (671, 671, 0), (672, 672, 0), (673, 673, 0), (674, 674, 0), (675, 675, 0), (676, 676, 0), (677, 677, 0), (678, 678, 0), (679, 679, 0), (680, 680, 0)]
theorem fr_fM_deposit {s : ev_M} {a1 : Int32} {a2 : Int32} {q : ev_M × Int32} (h : fM_deposit s a1 a2 = some q) : fr F_M_deposit s q.1 := by
  have g : fr F_M_deposit s s := fr.rf
  refine fr_bd2 h fun s1 v2 hc h => ?_
  have gs1 : fr F_M_deposit s s1 := g.tr ((fr_fM_call2 hc).mono (F := F_M_deposit) (by decide +kernel))
  cases h; exact gs1
def F_M_balance : List (Nat × (Nat × Nat)) := [(549, 549, 1)]
theorem fr_fM_balance_b41 {s : ev_M} {x1 : Int32} {q : ev_M × Int64} (h : fM_balance_b41 s x1 = some q) : fr F_M_balance s q.1 := by
  have g : fr F_M_balance s s := fr.rf
  refine fr_bd1 h fun v1 hc h => ?_
  cases h; exact g
theorem fr_fM_balance {s : ev_M} {a1 : Int32} {q : ev_M × Int64} (h : fM_balance s a1 = some q) : fr F_M_balance s q.1 := by
  have g : fr F_M_balance s s := fr.rf
  refine fr_ltM h (Q := fr F_M_balance s) (g.wI rfl) fun s2 gs2 h => ?_
  refine fr_if h (fun h => ?_) fun h => ?_
  · refine fr_bd1 h fun v3 hc h => ?_
    refine fr_if h (fun h => ?_) fun h => ?_
    · refine fr_bd1 h fun v4 hc h => ?_
      refine fr_if h (fun h => ?_) fun h => ?_
      · cases h; exact gs2
      · exact gs2.tr ((fr_fM_balance_b41 h))
    · exact gs2.tr ((fr_fM_balance_b41 h))
  · cases h; exact gs2
def F_M_entry : List (Nat × (Nat × Nat)) := [(549, 549, 1)]
theorem fr_fM_entry {s : ev_M} {a1 : Int32} {a2 : Int32} {q : ev_M × Int32} (h : fM_entry s a1 a2 = some q) : fr F_M_entry s q.1 := by
  have g : fr F_M_entry s s := fr.rf
  refine fr_ltM h (Q := fr F_M_entry s) (g.wI rfl) fun s1 gs1 h => ?_
  refine fr_if h (fun h => ?_) fun h => ?_
  · refine fr_bd1 h fun v2 hc h => ?_
    refine fr_if h (fun h => ?_) fun h => ?_
    · cases h; exact gs1
    · refine fr_bd1 h fun v3 hc h => ?_
      refine fr_if h (fun h => ?_) fun h => ?_
      · cases h; exact gs1
      · refine fr_if h (fun h => ?_) fun h => ?_
        · refine fr_gd h fun c0 h => ?_
          cases h; exact gs1
        · refine fr_if h (fun h => ?_) fun h => ?_
          · refine fr_gd h fun c0 h => ?_
            cases h; exact gs1
          · refine fr_if h (fun h => ?_) fun h => ?_
            · refine fr_gd h fun c0 h => ?_
              cases h; exact gs1
            · refine fr_gd h fun c0 h => ?_
              cases h; exact gs1
  · cases h; exact gs1
def F_PH_tariff : List (Nat × (Nat × Nat)) := [(1, 1, 2), (1, 1, 3), (1, 1, 5), (1, 1, 6), (3, 3, 0), (9, 9, 7), (9, 9, 8), (9, 9, 14), (9, 9, 15), (13, 13, 0), (14, 14, 0), (15, 15, 2), (15, 15, 3), (15, 15, 8), (17, 17, 0), (18, 18, 0), (19, 19, 0), (20, 20, 0), (21, 21, 0), (22, 22, 0), (24, 24, 0), (25, 25, 0), (26, 26, 0), (27, 27, 0), (28, 28, 0), (29, 29, 0), (30, 30, 3), (30, 30, 5), (30, 30, 8), (30, 30, 10), (30, 30, 12), (30, 30, 15), (30, 30, 16), (31, 31, 0), (33, 33, 0), (34, 34, 0), (35, 35, 0), (36, 36, 0), (37, 37, 0), (39, 39, 0), (40, 40, 0), (41, 41, 0), (42, 42, 0), (44, 44, 0), (45, 45, 0), (47, 47, 0), (48, 48, 0), (49, 49, 0), (50, 50, 0), (51, 51, 0), (52, 52, 3), (52, 52, 4), (52, 52, 5), (52, 52, 6), (52, 52, 9), (52, 52, 10), (52, 52, 14), (53, 53, 0), (54, 54, 0), (56, 56, 0), (57, 57, 0), (58, 58, 0), (59, 59, 0), (60, 60, 0), (61, 61, 0), (63, 63, 0), (64, 64, 0), (65, 65, 0), (66, 66, 0), (68, 75, 0), (72, 72, 0), (73, 73, 0), (74, 74, 0), (76, 76, 0), (77, 77, 0), (78, 78, 4), (78, 78, 7), (78, 78, 9), (78, 78, 10), (78, 78, 12), (78, 78, 14), (79, 79, 0), (80, 80, 0), (82, 82, 0), (83, 83, 0), (84, 84, 0), (85, 85, 0), (87, 87, 0), (88, 88, 0), (89, 89, 0), (90, 90, 0), (91, 91, 0), (93, 95, 0), (97, 97, 0), (98, 98, 0), (99, 99, 0), (100, 100, 6), (100, 100, 7), (102, 102, 0), (102, 123, 0), (103, 103, 0), (104, 104, 0), (105, 105, 0), (106, 106, 0), (107, 107, 0), (108, 108, 0), (109, 109, 0), (110, 110, 0), (111, 111, 0), (112, 112, 0), (113, 113, 0), (115, 115, 0), (116, 116, 0), (117, 117, 0), (119, 119, 0), (120, 120, 0), (121, 121, 0), (125, 125, 4), (126, 126, 0), (127, 127, 0), (128, 128, 0), (130, 137, 0), (138, 138, 4), (138, 138, 10), (138, 138, 11), (138, 138, 13), (140, 140, 0), (141, 141, 0), (142, 142, 0), (143, 143, 0), (144, 144, 0), (146, 157, 0), (158, 158, 0), (160, 171, 0), (172, 172, 0), (173, 173, 0), (174, 174, 0), (175, 175, 0), (177, 177, 0), (177, 179, 0), (178, 178, 0), (179, 179, 0), (180, 180, 0), (181, 181, 0), (183, 191, 0), (193, 448, 0), (449, 449, 5), (449, 449, 7), (451, 451, 0), (452, 452, 0), (453, 453, 0), (454, 454, 0), (455, 455, 0), (456, 456, 0), (457, 457, 0), (459, 459, 0), (460, 460, 0), (461, 461, 0), (462, 462, 0), (463, 463, 0), (464, 464, 0), (466, 545, 0), (546, 546, 0), (547, 547, 0), (548, 548, 0)]
theorem fr_fPH_tariff {s : ev_M} {q : ev_M × Int32} (h : fPH_tariff s = some q) : fr F_PH_tariff s q.1 := by
  have g : fr F_PH_tariff s s := fr.rf
  refine fr_bd2 h fun s1 v2 hc h => ?_
  have gs1 : fr F_PH_tariff s s1 := g.tr ((fr_fLog_stages hc).mono (F := F_PH_tariff) (by decide +kernel))
  refine fr_if h (fun h => ?_) fun h => ?_
  · cases h; exact gs1
  · refine fr_bd2 h fun s3 v4 hc h => ?_
    have gs3 : fr F_PH_tariff s s3 := gs1.tr ((fr_fPH_act_1 hc).mono (F := F_PH_tariff) (by decide +kernel))
    refine fr_ltM h (Q := fr F_PH_tariff s) (gs3.wI rfl) fun s5 gs5 h => ?_
    cases h; exact gs5
def F_M_tariff : List (Nat × (Nat × Nat)) := [(549, 549, 1), (549, 549, 3), (549, 549, 10), (549, 549, 11), (549, 549, 14), (549, 549, 15), (549, 549, 16), (549, 549, 17), (549, 549, 23), (549, 549, 24), (549, 549, 25), (549, 549, 28), (549, 549, 34), (549, 549, 39), (549, 549, 44), (549, 549, 49), (549, 549, 50), (549, 549, 51), (549, 549, 52), (549, 549, 59), (549, 549, 84), (549, 549, 85), (549, 549, 86), (549, 549, 87), (549, 549, 88), (549, 549, 92), (549, 549, 94), (549, 549, 102), (549, 549, 108), (549, 549, 112), (549, 549, 115), (549, 549, 120), (549, 549, 126), (549, 549, 130), (549, 549, 135), (549, 549, 140), (549, 549, 141), (549, 549, 142), (549, 549, 147), (549, 549, 153), (549, 549, 154), (549, 549, 167), (552, 552, 0), (554, 554, 0), (558, 558, 0), (559, 559, 0), (560, 560, 0), (561, 561, 0), (562, 562, 0), (563, 563, 0), (564, 564, 0), (565, 565, 0), (566, 566, 0), (567, 567, 0), (568, 568, 0), (569, 569, 0), (570, 570, 0), (571, 571, 0), (572, 572, 0), (573, 573, 0), (574, 574, 0), (575, 575, 0), (576, 576, 0), (577, 577, 0), (578, 578, 0), (579, 579, 0), (580, 580, 0), (581, 581, 0), (582, 582, 0), (583, 583, 0), (584, 584, 0), (585, 585, 0), (586, 586, 0), (587, 587, 0), (588, 588, 0), (589, 589, 0), (590, 590, 0), (591, 591, 0), (592, 592, 0), (593, 593, 0), (594, 594, 0), (595, 595, 0), (596, 596, 0), (597, 597, 0), (598, 598, 0), (599, 599, 0), (600, 600, 0), (601, 601, 0), (602, 602, 0), (603, 603, 0), (604, 604, 0), (605, 605, 0), (606, 606, 0), (607, 607, 0), (608, 608, 0), (609, 609, 0), (610, 610, 0), (611, 611, 0), (612, 612, 0), (613, 613, 0), (614, 614, 0), (615, 615, 0), (616, 616, 0), (617, 617, 0), (618, 618, 0), (619, 619, 0), (620, 620, 0), (621, 621, 0), (622, 622, 0), (623, 623, 0), (624, 624, 0), (625, 625, 0), (626, 626, 0), (627, 627, 0), (628, 628, 0), (629, 629, 0), (630, 630, 0), (631, 631, 0), (632, 632, 0), (633, 633, 0), (634, 634, 0), (635, 635, 0), (636, 636, 0), (637, 637, 0), (638, 638, 0), (639, 639, 0), (640, 640, 0), (641, 641, 0), (642, 642, 0), (643, 643, 0), (644, 644, 0), (645, 645, 0), (646, 646, 0), (647, 647, 0), (648, 648, 0), (649, 649, 0), (650, 650, 0), (651, 651, 0), (652, 652, 0), (653, 653, 0), (654, 654, 0), (655, 655, 0), (656, 656, 0), (658, 658, 0), (659, 659, 0), (664, 664, 0), (665, 665, 0), (666, 666, 0), (667, 667, 0), (668, 668, 0), (669, 669, 0), (670, 670, 0), (671, 671, 0), (672, 672, 0), (673, 673, 0), (674, 674, 0), (675, 675, 0), (676, 676, 0), (677, 677, 0), (678, 678, 0), (679, 679, 0), (680, 680, 0)]
theorem fr_fM_tariff {s : ev_M} {q : ev_M × Int32} (h : fM_tariff s = some q) : fr F_M_tariff s q.1 := by
  have g : fr F_M_tariff s s := fr.rf
  refine fr_bd2 h fun s1 v2 hc h => ?_
  have gs1 : fr F_M_tariff s s1 := g.tr ((fr_fM_call hc).mono (F := F_M_tariff) (by decide +kernel))
  cases h; exact gs1
def F_M_price : List (Nat × (Nat × Nat)) := [(549, 549, 1)]
theorem fr_fM_price {s : ev_M} {a1 : Int32} {q : ev_M × Int32} (h : fM_price s a1 = some q) : fr F_M_price s q.1 := by
  have g : fr F_M_price s s := fr.rf
  refine fr_ltM h (Q := fr F_M_price s) (g.wI rfl) fun s1 gs1 h => ?_
  refine fr_if h (fun h => ?_) fun h => ?_
  · refine fr_bd1 h fun v2 hc h => ?_
    refine fr_if h (fun h => ?_) fun h => ?_
    · cases h; exact gs1
    · refine fr_bd1 h fun v3 hc h => ?_
      cases h; exact gs1
  · cases h; exact gs1
def F_PH_frank : List (Nat × (Nat × Nat)) := [(1, 1, 3), (1, 1, 5), (1, 1, 6), (3, 3, 0), (9, 9, 7), (9, 9, 8), (9, 9, 14), (9, 9, 15), (13, 13, 0), (14, 14, 0), (15, 15, 2), (15, 15, 3), (15, 15, 8), (17, 17, 0), (18, 18, 0), (19, 19, 0), (20, 20, 0), (21, 21, 0), (22, 22, 0), (24, 24, 0), (25, 25, 0), (26, 26, 0), (27, 27, 0), (28, 28, 0), (29, 29, 0), (30, 30, 3), (30, 30, 5), (30, 30, 8), (30, 30, 10), (30, 30, 12), (30, 30, 15), (30, 30, 16), (31, 31, 0), (33, 33, 0), (34, 34, 0), (35, 35, 0), (36, 36, 0), (37, 37, 0), (39, 39, 0), (40, 40, 0), (41, 41, 0), (42, 42, 0), (44, 44, 0), (45, 45, 0), (47, 47, 0), (48, 48, 0), (49, 49, 0), (50, 50, 0), (51, 51, 0), (52, 52, 3), (52, 52, 4), (52, 52, 5), (52, 52, 6), (52, 52, 9), (52, 52, 10), (52, 52, 14), (53, 53, 0), (54, 54, 0), (56, 56, 0), (57, 57, 0), (58, 58, 0), (59, 59, 0), (60, 60, 0), (61, 61, 0), (63, 63, 0), (64, 64, 0), (65, 65, 0), (66, 66, 0), (68, 75, 0), (72, 72, 0), (73, 73, 0), (74, 74, 0), (76, 76, 0), (77, 77, 0), (78, 78, 4), (78, 78, 7), (78, 78, 9), (78, 78, 10), (78, 78, 12), (78, 78, 14), (79, 79, 0), (80, 80, 0), (82, 82, 0), (83, 83, 0), (84, 84, 0), (85, 85, 0), (87, 87, 0), (88, 88, 0), (89, 89, 0), (90, 90, 0), (91, 91, 0), (93, 95, 0), (97, 97, 0), (98, 98, 0), (99, 99, 0), (100, 100, 6), (100, 100, 7), (102, 102, 0), (102, 123, 0), (103, 103, 0), (104, 104, 0), (105, 105, 0), (106, 106, 0), (107, 107, 0), (108, 108, 0), (109, 109, 0), (110, 110, 0), (111, 111, 0), (112, 112, 0), (113, 113, 0), (115, 115, 0), (116, 116, 0), (117, 117, 0), (119, 119, 0), (120, 120, 0), (121, 121, 0), (125, 125, 4), (126, 126, 0), (127, 127, 0), (128, 128, 0), (130, 137, 0), (138, 138, 4), (138, 138, 10), (138, 138, 11), (138, 138, 13), (140, 140, 0), (141, 141, 0), (142, 142, 0), (143, 143, 0), (144, 144, 0), (146, 157, 0), (158, 158, 0), (160, 171, 0), (172, 172, 0), (173, 173, 0), (174, 174, 0), (175, 175, 0), (177, 177, 0), (177, 179, 0), (178, 178, 0), (179, 179, 0), (180, 180, 0), (181, 181, 0), (183, 191, 0), (193, 448, 0), (449, 449, 5), (449, 449, 7), (451, 451, 0), (452, 452, 0), (453, 453, 0), (454, 454, 0), (455, 455, 0), (456, 456, 0), (457, 457, 0), (459, 459, 0), (460, 460, 0), (461, 461, 0), (462, 462, 0), (463, 463, 0), (464, 464, 0), (466, 545, 0), (546, 546, 0), (547, 547, 0), (548, 548, 0)]
theorem fr_fPH_frank {s : ev_M} {a1 : Int32} {q : ev_M × Int32} (h : fPH_frank s a1 = some q) : fr F_PH_frank s q.1 := by
  have g : fr F_PH_frank s s := fr.rf
  refine fr_bd2 h fun s1 v2 hc h => ?_
  have gs1 : fr F_PH_frank s s1 := g.tr ((fr_fLog_stages hc).mono (F := F_PH_frank) (by decide +kernel))
  refine fr_if h (fun h => ?_) fun h => ?_
  · cases h; exact gs1
  · refine fr_bd2 h fun s3 v4 hc h => ?_
    have gs3 : fr F_PH_frank s s3 := gs1.tr ((fr_fPH_act_1 hc).mono (F := F_PH_frank) (by decide +kernel))
    cases h; exact gs3
def F_M_frank : List (Nat × (Nat × Nat)) := [(549, 549, 1), (549, 549, 3), (549, 549, 10), (549, 549, 11), (549, 549, 14), (549, 549, 15), (549, 549, 16), (549, 549, 17), (549, 549, 23), (549, 549, 24), (549, 549, 25), (549, 549, 28), (549, 549, 34), (549, 549, 39), (549, 549, 44), (549, 549, 49), (549, 549, 50), (549, 549, 51), (549, 549, 52), (549, 549, 59), (549, 549, 84), (549, 549, 85), (549, 549, 86), (549, 549, 87), (549, 549, 88), (549, 549, 92), (549, 549, 94), (549, 549, 102), (549, 549, 108), (549, 549, 112), (549, 549, 115), (549, 549, 120), (549, 549, 126), (549, 549, 130), (549, 549, 135), (549, 549, 140), (549, 549, 141), (549, 549, 142), (549, 549, 147), (549, 549, 153), (549, 549, 154), (549, 549, 167), (552, 552, 0), (553, 553, 0), (554, 554, 0), (558, 558, 0), (559, 559, 0), (560, 560, 0), (561, 561, 0), (562, 562, 0), (563, 563, 0), (564, 564, 0), (565, 565, 0), (566, 566, 0), (567, 567, 0), (568, 568, 0), (569, 569, 0), (570, 570, 0), (571, 571, 0), (572, 572, 0), (573, 573, 0), (574, 574, 0), (575, 575, 0), (576, 576, 0), (577, 577, 0), (578, 578, 0), (579, 579, 0), (580, 580, 0), (581, 581, 0), (582, 582, 0), (583, 583, 0), (584, 584, 0), (585, 585, 0), (586, 586, 0), (587, 587, 0), (588, 588, 0), (589, 589, 0), (590, 590, 0), (591, 591, 0), (592, 592, 0), (593, 593, 0), (594, 594, 0), (595, 595, 0), (596, 596, 0), (597, 597, 0), (598, 598, 0), (599, 599, 0), (600, 600, 0), (601, 601, 0), (602, 602, 0), (603, 603, 0), (604, 604, 0), (605, 605, 0), (606, 606, 0), (607, 607, 0), (608, 608, 0), (609, 609, 0), (610, 610, 0), (611, 611, 0), (612, 612, 0), (613, 613, 0), (614, 614, 0), (615, 615, 0), (616, 616, 0), (617, 617, 0), (618, 618, 0), (619, 619, 0), (620, 620, 0), (621, 621, 0), (622, 622, 0), (623, 623, 0), (624, 624, 0), (625, 625, 0), (626, 626, 0), (627, 627, 0), (628, 628, 0), (629, 629, 0), (630, 630, 0), (631, 631, 0), (632, 632, 0), (633, 633, 0), (634, 634, 0), (635, 635, 0), (636, 636, 0), (637, 637, 0), (638, 638, 0), (639, 639, 0), (640, 640, 0), (641, 641, 0), (642, 642, 0), (643, 643, 0), (644, 644, 0), (645, 645, 0), (646, 646, 0), (647, 647, 0), (648, 648, 0), (649, 649, 0), (650, 650, 0), (651, 651, 0), (652, 652, 0), (653, 653, 0), (654, 654, 0), (655, 655, 0), (656, 656, 0), (658, 658, 0), (659, 659, 0), (664, 664, 0), (665, 665, 0), (666, 666, 0), (667, 667, 0), (668, 668, 0), (669, 669, 0), (670, 670, 0), (671, 671, 0), (672, 672, 0), (673, 673, 0), (674, 674, 0), (675, 675, 0), (676, 676, 0), (677, 677, 0), (678, 678, 0), (679, 679, 0), (680, 680, 0)]
theorem fr_fM_frank {s : ev_M} {a1 : Int32} {q : ev_M × Int32} (h : fM_frank s a1 = some q) : fr F_M_frank s q.1 := by
  have g : fr F_M_frank s s := fr.rf
  refine fr_bd2 h fun s1 v2 hc h => ?_
  have gs1 : fr F_M_frank s s1 := g.tr ((fr_fM_call1 hc).mono (F := F_M_frank) (by decide +kernel))
  cases h; exact gs1
def F_PH_order : List (Nat × (Nat × Nat)) := [(1, 1, 3), (1, 1, 5), (1, 1, 6), (3, 3, 0), (9, 9, 7), (9, 9, 8), (9, 9, 14), (9, 9, 15), (13, 13, 0), (14, 14, 0), (15, 15, 2), (15, 15, 3), (15, 15, 8), (17, 17, 0), (18, 18, 0), (19, 19, 0), (20, 20, 0), (21, 21, 0), (22, 22, 0), (24, 24, 0), (25, 25, 0), (26, 26, 0), (27, 27, 0), (28, 28, 0), (29, 29, 0), (30, 30, 3), (30, 30, 5), (30, 30, 8), (30, 30, 10), (30, 30, 12), (30, 30, 15), (30, 30, 16), (31, 31, 0), (33, 33, 0), (34, 34, 0), (35, 35, 0), (36, 36, 0), (37, 37, 0), (39, 39, 0), (40, 40, 0), (41, 41, 0), (42, 42, 0), (44, 44, 0), (45, 45, 0), (47, 47, 0), (48, 48, 0), (49, 49, 0), (50, 50, 0), (51, 51, 0), (52, 52, 3), (52, 52, 4), (52, 52, 5), (52, 52, 6), (52, 52, 9), (52, 52, 10), (52, 52, 14), (53, 53, 0), (54, 54, 0), (56, 56, 0), (57, 57, 0), (58, 58, 0), (59, 59, 0), (60, 60, 0), (61, 61, 0), (63, 63, 0), (64, 64, 0), (65, 65, 0), (66, 66, 0), (68, 75, 0), (72, 72, 0), (73, 73, 0), (74, 74, 0), (76, 76, 0), (77, 77, 0), (78, 78, 4), (78, 78, 7), (78, 78, 9), (78, 78, 10), (78, 78, 12), (78, 78, 14), (79, 79, 0), (80, 80, 0), (82, 82, 0), (83, 83, 0), (84, 84, 0), (85, 85, 0), (87, 87, 0), (88, 88, 0), (89, 89, 0), (90, 90, 0), (91, 91, 0), (93, 95, 0), (97, 97, 0), (98, 98, 0), (99, 99, 0), (100, 100, 6), (100, 100, 7), (102, 102, 0), (102, 123, 0), (103, 103, 0), (104, 104, 0), (105, 105, 0), (106, 106, 0), (107, 107, 0), (108, 108, 0), (109, 109, 0), (110, 110, 0), (111, 111, 0), (112, 112, 0), (113, 113, 0), (115, 115, 0), (116, 116, 0), (117, 117, 0), (119, 119, 0), (120, 120, 0), (121, 121, 0), (125, 125, 4), (126, 126, 0), (127, 127, 0), (128, 128, 0), (130, 137, 0), (138, 138, 4), (138, 138, 10), (138, 138, 11), (138, 138, 13), (140, 140, 0), (141, 141, 0), (142, 142, 0), (143, 143, 0), (144, 144, 0), (146, 157, 0), (158, 158, 0), (160, 171, 0), (172, 172, 0), (173, 173, 0), (174, 174, 0), (175, 175, 0), (177, 177, 0), (177, 179, 0), (178, 178, 0), (179, 179, 0), (180, 180, 0), (181, 181, 0), (183, 191, 0), (193, 448, 0), (449, 449, 5), (449, 449, 7), (451, 451, 0), (452, 452, 0), (453, 453, 0), (454, 454, 0), (455, 455, 0), (456, 456, 0), (457, 457, 0), (459, 459, 0), (460, 460, 0), (461, 461, 0), (462, 462, 0), (463, 463, 0), (464, 464, 0), (466, 545, 0), (546, 546, 0), (547, 547, 0), (548, 548, 0)]
theorem fr_fPH_order {s : ev_M} {a1 : Int32} {a2 : Int32} {a3 : Int32} {q : ev_M × Int32} (h : fPH_order s a1 a2 a3 = some q) : fr F_PH_order s q.1 := by
  have g : fr F_PH_order s s := fr.rf
  refine fr_bd2 h fun s1 v2 hc h => ?_
  have gs1 : fr F_PH_order s s1 := g.tr ((fr_fLog_stages hc).mono (F := F_PH_order) (by decide +kernel))
  refine fr_if h (fun h => ?_) fun h => ?_
  · cases h; exact gs1
  · refine fr_bd2 h fun s3 v4 hc h => ?_
    have gs3 : fr F_PH_order s s3 := gs1.tr ((fr_fPH_act_1 hc).mono (F := F_PH_order) (by decide +kernel))
    cases h; exact gs3
def F_M_order : List (Nat × (Nat × Nat)) := [(549, 549, 1), (549, 549, 3), (549, 549, 10), (549, 549, 11), (549, 549, 14), (549, 549, 15), (549, 549, 16), (549, 549, 17), (549, 549, 23), (549, 549, 24), (549, 549, 25), (549, 549, 28), (549, 549, 34), (549, 549, 39), (549, 549, 44), (549, 549, 49), (549, 549, 50), (549, 549, 51), (549, 549, 52), (549, 549, 59), (549, 549, 84), (549, 549, 85), (549, 549, 86), (549, 549, 87), (549, 549, 88), (549, 549, 92), (549, 549, 94), (549, 549, 102), (549, 549, 108), (549, 549, 112), (549, 549, 115), (549, 549, 120), (549, 549, 126), (549, 549, 130), (549, 549, 135), (549, 549, 140), (549, 549, 141), (549, 549, 142), (549, 549, 147), (549, 549, 153), (549, 549, 154), (549, 549, 167), (552, 552, 0), (553, 553, 0), (554, 554, 0), (558, 558, 0), (559, 559, 0), (560, 560, 0), (561, 561, 0), (562, 562, 0), (563, 563, 0), (564, 564, 0), (565, 565, 0), (566, 566, 0), (567, 567, 0), (568, 568, 0), (569, 569, 0), (570, 570, 0), (571, 571, 0), (572, 572, 0), (573, 573, 0), (574, 574, 0), (575, 575, 0), (576, 576, 0), (577, 577, 0), (578, 578, 0), (579, 579, 0), (580, 580, 0), (581, 581, 0), (582, 582, 0), (583, 583, 0), (584, 584, 0), (585, 585, 0), (586, 586, 0), (587, 587, 0), (588, 588, 0), (589, 589, 0), (590, 590, 0), (591, 591, 0), (592, 592, 0), (593, 593, 0), (594, 594, 0), (595, 595, 0), (596, 596, 0), (597, 597, 0), (598, 598, 0), (599, 599, 0), (600, 600, 0), (601, 601, 0), (602, 602, 0), (603, 603, 0), (604, 604, 0), (605, 605, 0), (606, 606, 0), (607, 607, 0), (608, 608, 0), (609, 609, 0), (610, 610, 0), (611, 611, 0), (612, 612, 0), (613, 613, 0), (614, 614, 0), (615, 615, 0), (616, 616, 0), (617, 617, 0), (618, 618, 0), (619, 619, 0), (620, 620, 0), (621, 621, 0), (622, 622, 0), (623, 623, 0), (624, 624, 0), (625, 625, 0), (626, 626, 0), (627, 627, 0), (628, 628, 0), (629, 629, 0), (630, 630, 0), (631, 631, 0), (632, 632, 0), (633, 633, 0), (634, 634, 0), (635, 635, 0), (636, 636, 0), (637, 637, 0), (638, 638, 0), (639, 639, 0), (640, 640, 0), (641, 641, 0), (642, 642, 0), (643, 643, 0), (644, 644, 0), (645, 645, 0), (646, 646, 0), (647, 647, 0), (648, 648, 0), (649, 649, 0), (650, 650, 0), (651, 651, 0), (652, 652, 0), (653, 653, 0), (654, 654, 0), (655, 655, 0), (656, 656, 0), (658, 658, 0), (659, 659, 0), (664, 664, 0), (665, 665, 0), (666, 666, 0), (667, 667, 0), (668, 668, 0), (669, 669, 0), (670, 670, 0), (671, 671, 0), (672, 672, 0), (673, 673, 0), (674, 674, 0), (675, 675, 0), (676, 676, 0), (677, 677, 0), (678, 678, 0), (679, 679, 0), (680, 680, 0)]
theorem fr_fM_order {s : ev_M} {a1 : Int32} {a2 : Int32} {a3 : Int32} {q : ev_M × Int32} (h : fM_order s a1 a2 a3 = some q) : fr F_M_order s q.1 := by
  have g : fr F_M_order s s := fr.rf
  refine fr_bd2 h fun s1 v2 hc h => ?_
  have gs1 : fr F_M_order s s1 := g.tr ((fr_fM_call3 hc).mono (F := F_M_order) (by decide +kernel))
  cases h; exact gs1
def F_PH_payOut : List (Nat × (Nat × Nat)) := [(1, 1, 3), (1, 1, 5), (1, 1, 6), (3, 3, 0), (9, 9, 7), (9, 9, 8), (9, 9, 14), (9, 9, 15), (13, 13, 0), (14, 14, 0), (15, 15, 2), (15, 15, 3), (15, 15, 8), (17, 17, 0), (18, 18, 0), (19, 19, 0), (20, 20, 0), (21, 21, 0), (22, 22, 0), (24, 24, 0), (25, 25, 0), (26, 26, 0), (27, 27, 0), (28, 28, 0), (29, 29, 0), (30, 30, 3), (30, 30, 5), (30, 30, 8), (30, 30, 10), (30, 30, 12), (30, 30, 15), (30, 30, 16), (31, 31, 0), (33, 33, 0), (34, 34, 0), (35, 35, 0), (36, 36, 0), (37, 37, 0), (39, 39, 0), (40, 40, 0), (41, 41, 0), (42, 42, 0), (44, 44, 0), (45, 45, 0), (47, 47, 0), (48, 48, 0), (49, 49, 0), (50, 50, 0), (51, 51, 0), (52, 52, 3), (52, 52, 4), (52, 52, 5), (52, 52, 6), (52, 52, 9), (52, 52, 10), (52, 52, 14), (53, 53, 0), (54, 54, 0), (56, 56, 0), (57, 57, 0), (58, 58, 0), (59, 59, 0), (60, 60, 0), (61, 61, 0), (63, 63, 0), (64, 64, 0), (65, 65, 0), (66, 66, 0), (68, 75, 0), (72, 72, 0), (73, 73, 0), (74, 74, 0), (76, 76, 0), (77, 77, 0), (78, 78, 4), (78, 78, 7), (78, 78, 9), (78, 78, 10), (78, 78, 12), (78, 78, 14), (79, 79, 0), (80, 80, 0), (82, 82, 0), (83, 83, 0), (84, 84, 0), (85, 85, 0), (87, 87, 0), (88, 88, 0), (89, 89, 0), (90, 90, 0), (91, 91, 0), (93, 95, 0), (97, 97, 0), (98, 98, 0), (99, 99, 0), (100, 100, 6), (100, 100, 7), (102, 102, 0), (102, 123, 0), (103, 103, 0), (104, 104, 0), (105, 105, 0), (106, 106, 0), (107, 107, 0), (108, 108, 0), (109, 109, 0), (110, 110, 0), (111, 111, 0), (112, 112, 0), (113, 113, 0), (115, 115, 0), (116, 116, 0), (117, 117, 0), (119, 119, 0), (120, 120, 0), (121, 121, 0), (125, 125, 4), (126, 126, 0), (127, 127, 0), (128, 128, 0), (130, 137, 0), (138, 138, 4), (138, 138, 10), (138, 138, 11), (138, 138, 13), (140, 140, 0), (141, 141, 0), (142, 142, 0), (143, 143, 0), (144, 144, 0), (146, 157, 0), (158, 158, 0), (160, 171, 0), (172, 172, 0), (173, 173, 0), (174, 174, 0), (175, 175, 0), (177, 177, 0), (177, 179, 0), (178, 178, 0), (179, 179, 0), (180, 180, 0), (181, 181, 0), (183, 191, 0), (193, 448, 0), (449, 449, 5), (449, 449, 7), (451, 451, 0), (452, 452, 0), (453, 453, 0), (454, 454, 0), (455, 455, 0), (456, 456, 0), (457, 457, 0), (459, 459, 0), (460, 460, 0), (461, 461, 0), (462, 462, 0), (463, 463, 0), (464, 464, 0), (466, 545, 0), (546, 546, 0), (547, 547, 0), (548, 548, 0)]
theorem fr_fPH_payOut {s : ev_M} {a1 : Int32} {a2 : Int32} {a3 : Int32} {q : ev_M × Int32} (h : fPH_payOut s a1 a2 a3 = some q) : fr F_PH_payOut s q.1 := by
  have g : fr F_PH_payOut s s := fr.rf
  refine fr_bd2 h fun s1 v2 hc h => ?_
  have gs1 : fr F_PH_payOut s s1 := g.tr ((fr_fLog_stages hc).mono (F := F_PH_payOut) (by decide +kernel))
  refine fr_if h (fun h => ?_) fun h => ?_
  · cases h; exact gs1
  · refine fr_bd2 h fun s3 v4 hc h => ?_
    have gs3 : fr F_PH_payOut s s3 := gs1.tr ((fr_fPH_act_1 hc).mono (F := F_PH_payOut) (by decide +kernel))
    cases h; exact gs3
def F_M_payOut : List (Nat × (Nat × Nat)) := [(549, 549, 1), (549, 549, 3), (549, 549, 10), (549, 549, 11), (549, 549, 14), (549, 549, 15), (549, 549, 16), (549, 549, 17), (549, 549, 23), (549, 549, 24), (549, 549, 25), (549, 549, 28), (549, 549, 34), (549, 549, 39), (549, 549, 44), (549, 549, 49), (549, 549, 50), (549, 549, 51), (549, 549, 52), (549, 549, 59), (549, 549, 84), (549, 549, 85), (549, 549, 86), (549, 549, 87), (549, 549, 88), (549, 549, 92), (549, 549, 94), (549, 549, 102), (549, 549, 108), (549, 549, 112), (549, 549, 115), (549, 549, 120), (549, 549, 126), (549, 549, 130), (549, 549, 135), (549, 549, 140), (549, 549, 141), (549, 549, 142), (549, 549, 147), (549, 549, 153), (549, 549, 154), (549, 549, 167), (552, 552, 0), (553, 553, 0), (554, 554, 0), (558, 558, 0), (559, 559, 0), (560, 560, 0), (561, 561, 0), (562, 562, 0), (563, 563, 0), (564, 564, 0), (565, 565, 0), (566, 566, 0), (567, 567, 0), (568, 568, 0), (569, 569, 0), (570, 570, 0), (571, 571, 0), (572, 572, 0), (573, 573, 0), (574, 574, 0), (575, 575, 0), (576, 576, 0), (577, 577, 0), (578, 578, 0), (579, 579, 0), (580, 580, 0), (581, 581, 0), (582, 582, 0), (583, 583, 0), (584, 584, 0), (585, 585, 0), (586, 586, 0), (587, 587, 0), (588, 588, 0), (589, 589, 0), (590, 590, 0), (591, 591, 0), (592, 592, 0), (593, 593, 0), (594, 594, 0), (595, 595, 0), (596, 596, 0), (597, 597, 0), (598, 598, 0), (599, 599, 0), (600, 600, 0), (601, 601, 0), (602, 602, 0), (603, 603, 0), (604, 604, 0), (605, 605, 0), (606, 606, 0), (607, 607, 0), (608, 608, 0), (609, 609, 0), (610, 610, 0), (611, 611, 0), (612, 612, 0), (613, 613, 0), (614, 614, 0), (615, 615, 0), (616, 616, 0), (617, 617, 0), (618, 618, 0), (619, 619, 0), (620, 620, 0), (621, 621, 0), (622, 622, 0), (623, 623, 0), (624, 624, 0), (625, 625, 0), (626, 626, 0), (627, 627, 0), (628, 628, 0), (629, 629, 0), (630, 630, 0), (631, 631, 0), (632, 632, 0), (633, 633, 0), (634, 634, 0), (635, 635, 0), (636, 636, 0), (637, 637, 0), (638, 638, 0), (639, 639, 0), (640, 640, 0), (641, 641, 0), (642, 642, 0), (643, 643, 0), (644, 644, 0), (645, 645, 0), (646, 646, 0), (647, 647, 0), (648, 648, 0), (649, 649, 0), (650, 650, 0), (651, 651, 0), (652, 652, 0), (653, 653, 0), (654, 654, 0), (655, 655, 0), (656, 656, 0), (658, 658, 0), (659, 659, 0), (664, 664, 0), (665, 665, 0), (666, 666, 0), (667, 667, 0), (668, 668, 0), (669, 669, 0), (670, 670, 0), (671, 671, 0), (672, 672, 0), (673, 673, 0), (674, 674, 0), (675, 675, 0), (676, 676, 0), (677, 677, 0), (678, 678, 0), (679, 679, 0), (680, 680, 0)]
theorem fr_fM_payOut {s : ev_M} {a1 : Int32} {a2 : Int32} {a3 : Int32} {q : ev_M × Int32} (h : fM_payOut s a1 a2 a3 = some q) : fr F_M_payOut s q.1 := by
  have g : fr F_M_payOut s s := fr.rf
  refine fr_bd2 h fun s1 v2 hc h => ?_
  have gs1 : fr F_M_payOut s s1 := g.tr ((fr_fM_call3 hc).mono (F := F_M_payOut) (by decide +kernel))
  cases h; exact gs1
def F_M_orderAt : List (Nat × (Nat × Nat)) := [(549, 549, 1)]
theorem fr_fM_orderAt {s : ev_M} {a1 : Int32} {a2 : Int32} {q : ev_M × Int32} (h : fM_orderAt s a1 a2 = some q) : fr F_M_orderAt s q.1 := by
  have g : fr F_M_orderAt s s := fr.rf
  refine fr_ltM h (Q := fr F_M_orderAt s) (g.wI rfl) fun s1 gs1 h => ?_
  refine fr_if h (fun h => ?_) fun h => ?_
  · refine fr_bd1 h fun v2 hc h => ?_
    refine fr_if h (fun h => ?_) fun h => ?_
    · cases h; exact gs1
    · refine fr_if h (fun h => ?_) fun h => ?_
      · refine fr_gd h fun c0 h => ?_
        cases h; exact gs1
      · refine fr_if h (fun h => ?_) fun h => ?_
        · refine fr_gd h fun c0 h => ?_
          cases h; exact gs1
        · refine fr_if h (fun h => ?_) fun h => ?_
          · refine fr_gd h fun c0 h => ?_
            cases h; exact gs1
          · refine fr_if h (fun h => ?_) fun h => ?_
            · refine fr_gd h fun c0 h => ?_
              cases h; exact gs1
            · refine fr_if h (fun h => ?_) fun h => ?_
              · refine fr_gd h fun c0 h => ?_
                cases h; exact gs1
              · cases h; exact gs1
  · cases h; exact gs1
def F_PH_claim : List (Nat × (Nat × Nat)) := [(1, 1, 3), (1, 1, 5), (1, 1, 6), (3, 3, 0), (9, 9, 7), (9, 9, 8), (9, 9, 14), (9, 9, 15), (13, 13, 0), (14, 14, 0), (15, 15, 2), (15, 15, 3), (15, 15, 8), (17, 17, 0), (18, 18, 0), (19, 19, 0), (20, 20, 0), (21, 21, 0), (22, 22, 0), (24, 24, 0), (25, 25, 0), (26, 26, 0), (27, 27, 0), (28, 28, 0), (29, 29, 0), (30, 30, 3), (30, 30, 5), (30, 30, 8), (30, 30, 10), (30, 30, 12), (30, 30, 15), (30, 30, 16), (31, 31, 0), (33, 33, 0), (34, 34, 0), (35, 35, 0), (36, 36, 0), (37, 37, 0), (39, 39, 0), (40, 40, 0), (41, 41, 0), (42, 42, 0), (44, 44, 0), (45, 45, 0), (47, 47, 0), (48, 48, 0), (49, 49, 0), (50, 50, 0), (51, 51, 0), (52, 52, 3), (52, 52, 4), (52, 52, 5), (52, 52, 6), (52, 52, 9), (52, 52, 10), (52, 52, 14), (53, 53, 0), (54, 54, 0), (56, 56, 0), (57, 57, 0), (58, 58, 0), (59, 59, 0), (60, 60, 0), (61, 61, 0), (63, 63, 0), (64, 64, 0), (65, 65, 0), (66, 66, 0), (68, 75, 0), (72, 72, 0), (73, 73, 0), (74, 74, 0), (76, 76, 0), (77, 77, 0), (78, 78, 4), (78, 78, 7), (78, 78, 9), (78, 78, 10), (78, 78, 12), (78, 78, 14), (79, 79, 0), (80, 80, 0), (82, 82, 0), (83, 83, 0), (84, 84, 0), (85, 85, 0), (87, 87, 0), (88, 88, 0), (89, 89, 0), (90, 90, 0), (91, 91, 0), (93, 95, 0), (97, 97, 0), (98, 98, 0), (99, 99, 0), (100, 100, 6), (100, 100, 7), (102, 102, 0), (102, 123, 0), (103, 103, 0), (104, 104, 0), (105, 105, 0), (106, 106, 0), (107, 107, 0), (108, 108, 0), (109, 109, 0), (110, 110, 0), (111, 111, 0), (112, 112, 0), (113, 113, 0), (115, 115, 0), (116, 116, 0), (117, 117, 0), (119, 119, 0), (120, 120, 0), (121, 121, 0), (125, 125, 4), (126, 126, 0), (127, 127, 0), (128, 128, 0), (130, 137, 0), (138, 138, 4), (138, 138, 10), (138, 138, 11), (138, 138, 13), (140, 140, 0), (141, 141, 0), (142, 142, 0), (143, 143, 0), (144, 144, 0), (146, 157, 0), (158, 158, 0), (160, 171, 0), (172, 172, 0), (173, 173, 0), (174, 174, 0), (175, 175, 0), (177, 177, 0), (177, 179, 0), (178, 178, 0), (179, 179, 0), (180, 180, 0), (181, 181, 0), (183, 191, 0), (193, 448, 0), (449, 449, 5), (449, 449, 7), (451, 451, 0), (452, 452, 0), (453, 453, 0), (454, 454, 0), (455, 455, 0), (456, 456, 0), (457, 457, 0), (459, 459, 0), (460, 460, 0), (461, 461, 0), (462, 462, 0), (463, 463, 0), (464, 464, 0), (466, 545, 0), (546, 546, 0), (547, 547, 0), (548, 548, 0)]
theorem fr_fPH_claim {s : ev_M} {a1 : Int32} {a2 : Int32} {q : ev_M × Int32} (h : fPH_claim s a1 a2 = some q) : fr F_PH_claim s q.1 := by
  have g : fr F_PH_claim s s := fr.rf
  refine fr_bd2 h fun s1 v2 hc h => ?_
  have gs1 : fr F_PH_claim s s1 := g.tr ((fr_fLog_stages hc).mono (F := F_PH_claim) (by decide +kernel))
  refine fr_if h (fun h => ?_) fun h => ?_
  · cases h; exact gs1
  · refine fr_bd2 h fun s3 v4 hc h => ?_
    have gs3 : fr F_PH_claim s s3 := gs1.tr ((fr_fPH_act_1 hc).mono (F := F_PH_claim) (by decide +kernel))
    cases h; exact gs3
def F_M_claim : List (Nat × (Nat × Nat)) := [(549, 549, 1), (549, 549, 3), (549, 549, 10), (549, 549, 11), (549, 549, 14), (549, 549, 15), (549, 549, 16), (549, 549, 17), (549, 549, 23), (549, 549, 24), (549, 549, 25), (549, 549, 28), (549, 549, 34), (549, 549, 39), (549, 549, 44), (549, 549, 49), (549, 549, 50), (549, 549, 51), (549, 549, 52), (549, 549, 59), (549, 549, 84), (549, 549, 85), (549, 549, 86), (549, 549, 87), (549, 549, 88), (549, 549, 92), (549, 549, 94), (549, 549, 102), (549, 549, 108), (549, 549, 112), (549, 549, 115), (549, 549, 120), (549, 549, 126), (549, 549, 130), (549, 549, 135), (549, 549, 140), (549, 549, 141), (549, 549, 142), (549, 549, 147), (549, 549, 153), (549, 549, 154), (549, 549, 167), (552, 552, 0), (553, 553, 0), (554, 554, 0), (558, 558, 0), (559, 559, 0), (560, 560, 0), (561, 561, 0), (562, 562, 0), (563, 563, 0), (564, 564, 0), (565, 565, 0), (566, 566, 0), (567, 567, 0), (568, 568, 0), (569, 569, 0), (570, 570, 0), (571, 571, 0), (572, 572, 0), (573, 573, 0), (574, 574, 0), (575, 575, 0), (576, 576, 0), (577, 577, 0), (578, 578, 0), (579, 579, 0), (580, 580, 0), (581, 581, 0), (582, 582, 0), (583, 583, 0), (584, 584, 0), (585, 585, 0), (586, 586, 0), (587, 587, 0), (588, 588, 0), (589, 589, 0), (590, 590, 0), (591, 591, 0), (592, 592, 0), (593, 593, 0), (594, 594, 0), (595, 595, 0), (596, 596, 0), (597, 597, 0), (598, 598, 0), (599, 599, 0), (600, 600, 0), (601, 601, 0), (602, 602, 0), (603, 603, 0), (604, 604, 0), (605, 605, 0), (606, 606, 0), (607, 607, 0), (608, 608, 0), (609, 609, 0), (610, 610, 0), (611, 611, 0), (612, 612, 0), (613, 613, 0), (614, 614, 0), (615, 615, 0), (616, 616, 0), (617, 617, 0), (618, 618, 0), (619, 619, 0), (620, 620, 0), (621, 621, 0), (622, 622, 0), (623, 623, 0), (624, 624, 0), (625, 625, 0), (626, 626, 0), (627, 627, 0), (628, 628, 0), (629, 629, 0), (630, 630, 0), (631, 631, 0), (632, 632, 0), (633, 633, 0), (634, 634, 0), (635, 635, 0), (636, 636, 0), (637, 637, 0), (638, 638, 0), (639, 639, 0), (640, 640, 0), (641, 641, 0), (642, 642, 0), (643, 643, 0), (644, 644, 0), (645, 645, 0), (646, 646, 0), (647, 647, 0), (648, 648, 0), (649, 649, 0), (650, 650, 0), (651, 651, 0), (652, 652, 0), (653, 653, 0), (654, 654, 0), (655, 655, 0), (656, 656, 0), (658, 658, 0), (659, 659, 0), (664, 664, 0), (665, 665, 0), (666, 666, 0), (667, 667, 0), (668, 668, 0), (669, 669, 0), (670, 670, 0), (671, 671, 0), (672, 672, 0), (673, 673, 0), (674, 674, 0), (675, 675, 0), (676, 676, 0), (677, 677, 0), (678, 678, 0), (679, 679, 0), (680, 680, 0)]
theorem fr_fM_claim {s : ev_M} {a1 : Int32} {a2 : Int32} {q : ev_M × Int32} (h : fM_claim s a1 a2 = some q) : fr F_M_claim s q.1 := by
  have g : fr F_M_claim s s := fr.rf
  refine fr_bd2 h fun s1 v2 hc h => ?_
  have gs1 : fr F_M_claim s s1 := g.tr ((fr_fM_call2 hc).mono (F := F_M_claim) (by decide +kernel))
  cases h; exact gs1
def F_PH_locker : List (Nat × (Nat × Nat)) := [(1, 1, 3), (1, 1, 5), (1, 1, 6), (3, 3, 0), (9, 9, 7), (9, 9, 8), (9, 9, 14), (9, 9, 15), (13, 13, 0), (14, 14, 0), (15, 15, 2), (15, 15, 3), (15, 15, 8), (17, 17, 0), (18, 18, 0), (19, 19, 0), (20, 20, 0), (21, 21, 0), (22, 22, 0), (24, 24, 0), (25, 25, 0), (26, 26, 0), (27, 27, 0), (28, 28, 0), (29, 29, 0), (30, 30, 3), (30, 30, 5), (30, 30, 8), (30, 30, 10), (30, 30, 12), (30, 30, 15), (30, 30, 16), (31, 31, 0), (33, 33, 0), (34, 34, 0), (35, 35, 0), (36, 36, 0), (37, 37, 0), (39, 39, 0), (40, 40, 0), (41, 41, 0), (42, 42, 0), (44, 44, 0), (45, 45, 0), (47, 47, 0), (48, 48, 0), (49, 49, 0), (50, 50, 0), (51, 51, 0), (52, 52, 3), (52, 52, 4), (52, 52, 5), (52, 52, 6), (52, 52, 9), (52, 52, 10), (52, 52, 14), (53, 53, 0), (54, 54, 0), (56, 56, 0), (57, 57, 0), (58, 58, 0), (59, 59, 0), (60, 60, 0), (61, 61, 0), (63, 63, 0), (64, 64, 0), (65, 65, 0), (66, 66, 0), (68, 75, 0), (72, 72, 0), (73, 73, 0), (74, 74, 0), (76, 76, 0), (77, 77, 0), (78, 78, 4), (78, 78, 7), (78, 78, 9), (78, 78, 10), (78, 78, 12), (78, 78, 14), (79, 79, 0), (80, 80, 0), (82, 82, 0), (83, 83, 0), (84, 84, 0), (85, 85, 0), (87, 87, 0), (88, 88, 0), (89, 89, 0), (90, 90, 0), (91, 91, 0), (93, 95, 0), (97, 97, 0), (98, 98, 0), (99, 99, 0), (100, 100, 6), (100, 100, 7), (102, 102, 0), (102, 123, 0), (103, 103, 0), (104, 104, 0), (105, 105, 0), (106, 106, 0), (107, 107, 0), (108, 108, 0), (109, 109, 0), (110, 110, 0), (111, 111, 0), (112, 112, 0), (113, 113, 0), (115, 115, 0), (116, 116, 0), (117, 117, 0), (119, 119, 0), (120, 120, 0), (121, 121, 0), (125, 125, 4), (126, 126, 0), (127, 127, 0), (128, 128, 0), (130, 137, 0), (138, 138, 4), (138, 138, 10), (138, 138, 11), (138, 138, 13), (140, 140, 0), (141, 141, 0), (142, 142, 0), (143, 143, 0), (144, 144, 0), (146, 157, 0), (158, 158, 0), (160, 171, 0), (172, 172, 0), (173, 173, 0), (174, 174, 0), (175, 175, 0), (177, 177, 0), (177, 179, 0), (178, 178, 0), (179, 179, 0), (180, 180, 0), (181, 181, 0), (183, 191, 0), (193, 448, 0), (449, 449, 5), (449, 449, 7), (451, 451, 0), (452, 452, 0), (453, 453, 0), (454, 454, 0), (455, 455, 0), (456, 456, 0), (457, 457, 0), (459, 459, 0), (460, 460, 0), (461, 461, 0), (462, 462, 0), (463, 463, 0), (464, 464, 0), (466, 545, 0), (546, 546, 0), (547, 547, 0), (548, 548, 0)]
theorem fr_fPH_locker {s : ev_M} {a1 : Int32} {a2 : Int32} {q : ev_M × Int32} (h : fPH_locker s a1 a2 = some q) : fr F_PH_locker s q.1 := by
  have g : fr F_PH_locker s s := fr.rf
  refine fr_bd2 h fun s1 v2 hc h => ?_
  have gs1 : fr F_PH_locker s s1 := g.tr ((fr_fLog_stages hc).mono (F := F_PH_locker) (by decide +kernel))
  refine fr_if h (fun h => ?_) fun h => ?_
  · cases h; exact gs1
  · refine fr_bd2 h fun s3 v4 hc h => ?_
    have gs3 : fr F_PH_locker s s3 := gs1.tr ((fr_fPH_act_1 hc).mono (F := F_PH_locker) (by decide +kernel))
    cases h; exact gs3
def F_M_locker : List (Nat × (Nat × Nat)) := [(549, 549, 1), (549, 549, 3), (549, 549, 10), (549, 549, 11), (549, 549, 14), (549, 549, 15), (549, 549, 16), (549, 549, 17), (549, 549, 23), (549, 549, 24), (549, 549, 25), (549, 549, 28), (549, 549, 34), (549, 549, 39), (549, 549, 44), (549, 549, 49), (549, 549, 50), (549, 549, 51), (549, 549, 52), (549, 549, 59), (549, 549, 84), (549, 549, 85), (549, 549, 86), (549, 549, 87), (549, 549, 88), (549, 549, 92), (549, 549, 94), (549, 549, 102), (549, 549, 108), (549, 549, 112), (549, 549, 115), (549, 549, 120), (549, 549, 126), (549, 549, 130), (549, 549, 135), (549, 549, 140), (549, 549, 141), (549, 549, 142), (549, 549, 147), (549, 549, 153), (549, 549, 154), (549, 549, 167), (552, 552, 0), (553, 553, 0), (554, 554, 0), (558, 558, 0), (559, 559, 0), (560, 560, 0), (561, 561, 0), (562, 562, 0), (563, 563, 0), (564, 564, 0), (565, 565, 0), (566, 566, 0), (567, 567, 0), (568, 568, 0), (569, 569, 0), (570, 570, 0), (571, 571, 0), (572, 572, 0), (573, 573, 0), (574, 574, 0), (575, 575, 0), (576, 576, 0), (577, 577, 0), (578, 578, 0), (579, 579, 0), (580, 580, 0), (581, 581, 0), (582, 582, 0), (583, 583, 0), (584, 584, 0), (585, 585, 0), (586, 586, 0), (587, 587, 0), (588, 588, 0), (589, 589, 0), (590, 590, 0), (591, 591, 0), (592, 592, 0), (593, 593, 0), (594, 594, 0), (595, 595, 0), (596, 596, 0), (597, 597, 0), (598, 598, 0), (599, 599, 0), (600, 600, 0), (601, 601, 0), (602, 602, 0), (603, 603, 0), (604, 604, 0), (605, 605, 0), (606, 606, 0), (607, 607, 0), (608, 608, 0), (609, 609, 0), (610, 610, 0), (611, 611, 0), (612, 612, 0), (613, 613, 0), (614, 614, 0), (615, 615, 0), (616, 616, 0), (617, 617, 0), (618, 618, 0), (619, 619, 0), (620, 620, 0), (621, 621, 0), (622, 622, 0), (623, 623, 0), (624, 624, 0), (625, 625, 0), (626, 626, 0), (627, 627, 0), (628, 628, 0), (629, 629, 0), (630, 630, 0), (631, 631, 0), (632, 632, 0), (633, 633, 0), (634, 634, 0), (635, 635, 0), (636, 636, 0), (637, 637, 0), (638, 638, 0), (639, 639, 0), (640, 640, 0), (641, 641, 0), (642, 642, 0), (643, 643, 0), (644, 644, 0), (645, 645, 0), (646, 646, 0), (647, 647, 0), (648, 648, 0), (649, 649, 0), (650, 650, 0), (651, 651, 0), (652, 652, 0), (653, 653, 0), (654, 654, 0), (655, 655, 0), (656, 656, 0), (658, 658, 0), (659, 659, 0), (664, 664, 0), (665, 665, 0), (666, 666, 0), (667, 667, 0), (668, 668, 0), (669, 669, 0), (670, 670, 0), (671, 671, 0), (672, 672, 0), (673, 673, 0), (674, 674, 0), (675, 675, 0), (676, 676, 0), (677, 677, 0), (678, 678, 0), (679, 679, 0), (680, 680, 0)]
theorem fr_fM_locker {s : ev_M} {a1 : Int32} {a2 : Int32} {q : ev_M × Int32} (h : fM_locker s a1 a2 = some q) : fr F_M_locker s q.1 := by
  have g : fr F_M_locker s s := fr.rf
  refine fr_bd2 h fun s1 v2 hc h => ?_
  have gs1 : fr F_M_locker s s1 := g.tr ((fr_fM_call2 hc).mono (F := F_M_locker) (by decide +kernel))
  cases h; exact gs1
def F_M_lockerAt : List (Nat × (Nat × Nat)) := [(549, 549, 1)]
theorem fr_fM_lockerAt_b60 {k31 : ev_M → Int32 → Int32 → Int32 → Int32 → Option (ev_M × Int32)} (hk31 : ∀ {s : ev_M} {z1 : Int32} {z2 : Int32} {z3 : Int32} {z4 : Int32} {q : ev_M × Int32} , k31 s z1 z2 z3 z4 = some q → fr F_M_lockerAt s q.1) {s : ev_M} {x1 : Int32} {x2 : Int32} {x4 : Int32} {y0 : Int32} {q : ev_M × Int32} (h : fM_lockerAt_b60 k31 s x1 x2 x4 y0 = some q) : fr F_M_lockerAt s q.1 := by
  have g : fr F_M_lockerAt s s := fr.rf
  exact g.tr ((hk31 h))
theorem fr_fM_lockerAt_h31 : ∀ (n : Nat) {s : ev_M} {x1 : Int32} {x2 : Int32} {x3 : Int32} {x4 : Int32} {q : ev_M × Int32} , fM_lockerAt_h31 n s x1 x2 x3 x4 = some q → fr F_M_lockerAt s q.1 := by
  intro n
  induction n with
  | zero => intro s x1 x2 x3 x4 q h; cases h
  | succ n ih =>
    intro s x1 x2 x3 x4 q h
    have g : fr F_M_lockerAt s s := fr.rf
    refine fr_gd h fun c0 h => ?_
    refine fr_if h (fun h => ?_) fun h => ?_
    · refine fr_bd1 h fun v1 hc h => ?_
      refine fr_if h (fun h => ?_) fun h => ?_
      · exact g.tr ((fr_fM_lockerAt_b60 ih h))
      · exact g.tr ((fr_fM_lockerAt_b60 ih h))
    · refine fr_if h (fun h => ?_) fun h => ?_
      · refine fr_gd h fun c1 h => ?_
        cases h; exact g
      · refine fr_if h (fun h => ?_) fun h => ?_
        · refine fr_gd h fun c1 h => ?_
          cases h; exact g
        · refine fr_if h (fun h => ?_) fun h => ?_
          · cases h; exact g
          · refine fr_if h (fun h => ?_) fun h => ?_
            · refine fr_gd h fun c1 h => ?_
              cases h; exact g
            · cases h; exact g
theorem fr_fM_lockerAt {s : ev_M} {a1 : Int32} {a2 : Int32} {q : ev_M × Int32} (h : fM_lockerAt s a1 a2 = some q) : fr F_M_lockerAt s q.1 := by
  have g : fr F_M_lockerAt s s := fr.rf
  refine fr_ltM h (Q := fr F_M_lockerAt s) (g.wI rfl) fun s2 gs2 h => ?_
  refine fr_if h (fun h => ?_) fun h => ?_
  · refine fr_bd1 h fun v3 hc h => ?_
    refine fr_if h (fun h => ?_) fun h => ?_
    · cases h; exact gs2
    · exact gs2.tr ((fr_fM_lockerAt_h31 1048576 h))
  · cases h; exact gs2
def F_PH_device : List (Nat × (Nat × Nat)) := [(1, 1, 3), (1, 1, 5), (1, 1, 6), (3, 3, 0), (9, 9, 7), (9, 9, 8), (9, 9, 14), (9, 9, 15), (13, 13, 0), (14, 14, 0), (15, 15, 2), (15, 15, 3), (15, 15, 8), (17, 17, 0), (18, 18, 0), (19, 19, 0), (20, 20, 0), (21, 21, 0), (22, 22, 0), (24, 24, 0), (25, 25, 0), (26, 26, 0), (27, 27, 0), (28, 28, 0), (29, 29, 0), (30, 30, 3), (30, 30, 5), (30, 30, 8), (30, 30, 10), (30, 30, 12), (30, 30, 15), (30, 30, 16), (31, 31, 0), (33, 33, 0), (34, 34, 0), (35, 35, 0), (36, 36, 0), (37, 37, 0), (39, 39, 0), (40, 40, 0), (41, 41, 0), (42, 42, 0), (44, 44, 0), (45, 45, 0), (47, 47, 0), (48, 48, 0), (49, 49, 0), (50, 50, 0), (51, 51, 0), (52, 52, 3), (52, 52, 4), (52, 52, 5), (52, 52, 6), (52, 52, 9), (52, 52, 10), (52, 52, 14), (53, 53, 0), (54, 54, 0), (56, 56, 0), (57, 57, 0), (58, 58, 0), (59, 59, 0), (60, 60, 0), (61, 61, 0), (63, 63, 0), (64, 64, 0), (65, 65, 0), (66, 66, 0), (68, 75, 0), (72, 72, 0), (73, 73, 0), (74, 74, 0), (76, 76, 0), (77, 77, 0), (78, 78, 4), (78, 78, 7), (78, 78, 9), (78, 78, 10), (78, 78, 12), (78, 78, 14), (79, 79, 0), (80, 80, 0), (82, 82, 0), (83, 83, 0), (84, 84, 0), (85, 85, 0), (87, 87, 0), (88, 88, 0), (89, 89, 0), (90, 90, 0), (91, 91, 0), (93, 95, 0), (97, 97, 0), (98, 98, 0), (99, 99, 0), (100, 100, 6), (100, 100, 7), (102, 102, 0), (102, 123, 0), (103, 103, 0), (104, 104, 0), (105, 105, 0), (106, 106, 0), (107, 107, 0), (108, 108, 0), (109, 109, 0), (110, 110, 0), (111, 111, 0), (112, 112, 0), (113, 113, 0), (115, 115, 0), (116, 116, 0), (117, 117, 0), (119, 119, 0), (120, 120, 0), (121, 121, 0), (125, 125, 4), (126, 126, 0), (127, 127, 0), (128, 128, 0), (130, 137, 0), (138, 138, 4), (138, 138, 10), (138, 138, 11), (138, 138, 13), (140, 140, 0), (141, 141, 0), (142, 142, 0), (143, 143, 0), (144, 144, 0), (146, 157, 0), (158, 158, 0), (160, 171, 0), (172, 172, 0), (173, 173, 0), (174, 174, 0), (175, 175, 0), (177, 177, 0), (177, 179, 0), (178, 178, 0), (179, 179, 0), (180, 180, 0), (181, 181, 0), (183, 191, 0), (193, 448, 0), (449, 449, 5), (449, 449, 7), (451, 451, 0), (452, 452, 0), (453, 453, 0), (454, 454, 0), (455, 455, 0), (456, 456, 0), (457, 457, 0), (459, 459, 0), (460, 460, 0), (461, 461, 0), (462, 462, 0), (463, 463, 0), (464, 464, 0), (466, 545, 0), (546, 546, 0), (547, 547, 0), (548, 548, 0)]
theorem fr_fPH_device {s : ev_M} {a1 : Int32} {a2 : Int32} {q : ev_M × Int32} (h : fPH_device s a1 a2 = some q) : fr F_PH_device s q.1 := by
  have g : fr F_PH_device s s := fr.rf
  refine fr_bd2 h fun s1 v2 hc h => ?_
  have gs1 : fr F_PH_device s s1 := g.tr ((fr_fLog_stages hc).mono (F := F_PH_device) (by decide +kernel))
  refine fr_if h (fun h => ?_) fun h => ?_
  · cases h; exact gs1
  · refine fr_bd2 h fun s3 v4 hc h => ?_
    have gs3 : fr F_PH_device s s3 := gs1.tr ((fr_fPH_act_1 hc).mono (F := F_PH_device) (by decide +kernel))
    cases h; exact gs3
def F_M_device : List (Nat × (Nat × Nat)) := [(549, 549, 1), (549, 549, 3), (549, 549, 10), (549, 549, 11), (549, 549, 14), (549, 549, 15), (549, 549, 16), (549, 549, 17), (549, 549, 23), (549, 549, 24), (549, 549, 25), (549, 549, 28), (549, 549, 34), (549, 549, 39), (549, 549, 44), (549, 549, 49), (549, 549, 50), (549, 549, 51), (549, 549, 52), (549, 549, 59), (549, 549, 84), (549, 549, 85), (549, 549, 86), (549, 549, 87), (549, 549, 88), (549, 549, 92), (549, 549, 94), (549, 549, 102), (549, 549, 108), (549, 549, 112), (549, 549, 115), (549, 549, 120), (549, 549, 126), (549, 549, 130), (549, 549, 135), (549, 549, 140), (549, 549, 141), (549, 549, 142), (549, 549, 147), (549, 549, 153), (549, 549, 154), (549, 549, 167), (552, 552, 0), (553, 553, 0), (554, 554, 0), (558, 558, 0), (559, 559, 0), (560, 560, 0), (561, 561, 0), (562, 562, 0), (563, 563, 0), (564, 564, 0), (565, 565, 0), (566, 566, 0), (567, 567, 0), (568, 568, 0), (569, 569, 0), (570, 570, 0), (571, 571, 0), (572, 572, 0), (573, 573, 0), (574, 574, 0), (575, 575, 0), (576, 576, 0), (577, 577, 0), (578, 578, 0), (579, 579, 0), (580, 580, 0), (581, 581, 0), (582, 582, 0), (583, 583, 0), (584, 584, 0), (585, 585, 0), (586, 586, 0), (587, 587, 0), (588, 588, 0), (589, 589, 0), (590, 590, 0), (591, 591, 0), (592, 592, 0), (593, 593, 0), (594, 594, 0), (595, 595, 0), (596, 596, 0), (597, 597, 0), (598, 598, 0), (599, 599, 0), (600, 600, 0), (601, 601, 0), (602, 602, 0), (603, 603, 0), (604, 604, 0), (605, 605, 0), (606, 606, 0), (607, 607, 0), (608, 608, 0), (609, 609, 0), (610, 610, 0), (611, 611, 0), (612, 612, 0), (613, 613, 0), (614, 614, 0), (615, 615, 0), (616, 616, 0), (617, 617, 0), (618, 618, 0), (619, 619, 0), (620, 620, 0), (621, 621, 0), (622, 622, 0), (623, 623, 0), (624, 624, 0), (625, 625, 0), (626, 626, 0), (627, 627, 0), (628, 628, 0), (629, 629, 0), (630, 630, 0), (631, 631, 0), (632, 632, 0), (633, 633, 0), (634, 634, 0), (635, 635, 0), (636, 636, 0), (637, 637, 0), (638, 638, 0), (639, 639, 0), (640, 640, 0), (641, 641, 0), (642, 642, 0), (643, 643, 0), (644, 644, 0), (645, 645, 0), (646, 646, 0), (647, 647, 0), (648, 648, 0), (649, 649, 0), (650, 650, 0), (651, 651, 0), (652, 652, 0), (653, 653, 0), (654, 654, 0), (655, 655, 0), (656, 656, 0), (658, 658, 0), (659, 659, 0), (664, 664, 0), (665, 665, 0), (666, 666, 0), (667, 667, 0), (668, 668, 0), (669, 669, 0), (670, 670, 0), (671, 671, 0), (672, 672, 0), (673, 673, 0), (674, 674, 0), (675, 675, 0), (676, 676, 0), (677, 677, 0), (678, 678, 0), (679, 679, 0), (680, 680, 0)]
theorem fr_fM_device {s : ev_M} {a1 : Int32} {a2 : Int32} {q : ev_M × Int32} (h : fM_device s a1 a2 = some q) : fr F_M_device s q.1 := by
  have g : fr F_M_device s s := fr.rf
  refine fr_bd2 h fun s1 v2 hc h => ?_
  have gs1 : fr F_M_device s s1 := g.tr ((fr_fM_call2 hc).mono (F := F_M_device) (by decide +kernel))
  cases h; exact gs1
def F_PH_scanned : List (Nat × (Nat × Nat)) := [(1, 1, 3), (1, 1, 5), (1, 1, 6), (3, 3, 0), (9, 9, 7), (9, 9, 8), (9, 9, 14), (9, 9, 15), (13, 13, 0), (14, 14, 0), (15, 15, 2), (15, 15, 3), (15, 15, 8), (17, 17, 0), (18, 18, 0), (19, 19, 0), (20, 20, 0), (21, 21, 0), (22, 22, 0), (24, 24, 0), (25, 25, 0), (26, 26, 0), (27, 27, 0), (28, 28, 0), (29, 29, 0), (30, 30, 3), (30, 30, 5), (30, 30, 8), (30, 30, 10), (30, 30, 12), (30, 30, 15), (30, 30, 16), (31, 31, 0), (33, 33, 0), (34, 34, 0), (35, 35, 0), (36, 36, 0), (37, 37, 0), (39, 39, 0), (40, 40, 0), (41, 41, 0), (42, 42, 0), (44, 44, 0), (45, 45, 0), (47, 47, 0), (48, 48, 0), (49, 49, 0), (50, 50, 0), (51, 51, 0), (52, 52, 3), (52, 52, 4), (52, 52, 5), (52, 52, 6), (52, 52, 9), (52, 52, 10), (52, 52, 14), (53, 53, 0), (54, 54, 0), (56, 56, 0), (57, 57, 0), (58, 58, 0), (59, 59, 0), (60, 60, 0), (61, 61, 0), (63, 63, 0), (64, 64, 0), (65, 65, 0), (66, 66, 0), (68, 75, 0), (72, 72, 0), (73, 73, 0), (74, 74, 0), (76, 76, 0), (77, 77, 0), (78, 78, 4), (78, 78, 7), (78, 78, 9), (78, 78, 10), (78, 78, 12), (78, 78, 14), (79, 79, 0), (80, 80, 0), (82, 82, 0), (83, 83, 0), (84, 84, 0), (85, 85, 0), (87, 87, 0), (88, 88, 0), (89, 89, 0), (90, 90, 0), (91, 91, 0), (93, 95, 0), (97, 97, 0), (98, 98, 0), (99, 99, 0), (100, 100, 6), (100, 100, 7), (102, 102, 0), (102, 123, 0), (103, 103, 0), (104, 104, 0), (105, 105, 0), (106, 106, 0), (107, 107, 0), (108, 108, 0), (109, 109, 0), (110, 110, 0), (111, 111, 0), (112, 112, 0), (113, 113, 0), (115, 115, 0), (116, 116, 0), (117, 117, 0), (119, 119, 0), (120, 120, 0), (121, 121, 0), (125, 125, 4), (126, 126, 0), (127, 127, 0), (128, 128, 0), (130, 137, 0), (138, 138, 4), (138, 138, 10), (138, 138, 11), (138, 138, 13), (140, 140, 0), (141, 141, 0), (142, 142, 0), (143, 143, 0), (144, 144, 0), (146, 157, 0), (158, 158, 0), (160, 171, 0), (172, 172, 0), (173, 173, 0), (174, 174, 0), (175, 175, 0), (177, 177, 0), (177, 179, 0), (178, 178, 0), (179, 179, 0), (180, 180, 0), (181, 181, 0), (183, 191, 0), (193, 448, 0), (449, 449, 5), (449, 449, 7), (451, 451, 0), (452, 452, 0), (453, 453, 0), (454, 454, 0), (455, 455, 0), (456, 456, 0), (457, 457, 0), (459, 459, 0), (460, 460, 0), (461, 461, 0), (462, 462, 0), (463, 463, 0), (464, 464, 0), (466, 545, 0), (546, 546, 0), (547, 547, 0), (548, 548, 0)]
theorem fr_fPH_scanned {s : ev_M} {a1 : Int32} {a2 : Int32} {a3 : Int32} {a4 : Int32} {q : ev_M × Int32} (h : fPH_scanned s a1 a2 a3 a4 = some q) : fr F_PH_scanned s q.1 := by
  have g : fr F_PH_scanned s s := fr.rf
  refine fr_bd2 h fun s1 v2 hc h => ?_
  have gs1 : fr F_PH_scanned s s1 := g.tr ((fr_fLog_stages hc).mono (F := F_PH_scanned) (by decide +kernel))
  refine fr_if h (fun h => ?_) fun h => ?_
  · cases h; exact gs1
  · refine fr_bd2 h fun s3 v4 hc h => ?_
    have gs3 : fr F_PH_scanned s s3 := gs1.tr ((fr_fPH_act_1 hc).mono (F := F_PH_scanned) (by decide +kernel))
    cases h; exact gs3
def F_M_scanned : List (Nat × (Nat × Nat)) := [(549, 549, 1), (549, 549, 3), (549, 549, 10), (549, 549, 11), (549, 549, 14), (549, 549, 15), (549, 549, 16), (549, 549, 17), (549, 549, 23), (549, 549, 24), (549, 549, 25), (549, 549, 28), (549, 549, 34), (549, 549, 39), (549, 549, 44), (549, 549, 49), (549, 549, 50), (549, 549, 51), (549, 549, 52), (549, 549, 59), (549, 549, 84), (549, 549, 85), (549, 549, 86), (549, 549, 87), (549, 549, 88), (549, 549, 92), (549, 549, 94), (549, 549, 102), (549, 549, 108), (549, 549, 112), (549, 549, 115), (549, 549, 120), (549, 549, 126), (549, 549, 130), (549, 549, 135), (549, 549, 140), (549, 549, 141), (549, 549, 142), (549, 549, 147), (549, 549, 153), (549, 549, 154), (549, 549, 167), (552, 552, 0), (553, 553, 0), (554, 554, 0), (558, 558, 0), (559, 559, 0), (560, 560, 0), (561, 561, 0), (562, 562, 0), (563, 563, 0), (564, 564, 0), (565, 565, 0), (566, 566, 0), (567, 567, 0), (568, 568, 0), (569, 569, 0), (570, 570, 0), (571, 571, 0), (572, 572, 0), (573, 573, 0), (574, 574, 0), (575, 575, 0), (576, 576, 0), (577, 577, 0), (578, 578, 0), (579, 579, 0), (580, 580, 0), (581, 581, 0), (582, 582, 0), (583, 583, 0), (584, 584, 0), (585, 585, 0), (586, 586, 0), (587, 587, 0), (588, 588, 0), (589, 589, 0), (590, 590, 0), (591, 591, 0), (592, 592, 0), (593, 593, 0), (594, 594, 0), (595, 595, 0), (596, 596, 0), (597, 597, 0), (598, 598, 0), (599, 599, 0), (600, 600, 0), (601, 601, 0), (602, 602, 0), (603, 603, 0), (604, 604, 0), (605, 605, 0), (606, 606, 0), (607, 607, 0), (608, 608, 0), (609, 609, 0), (610, 610, 0), (611, 611, 0), (612, 612, 0), (613, 613, 0), (614, 614, 0), (615, 615, 0), (616, 616, 0), (617, 617, 0), (618, 618, 0), (619, 619, 0), (620, 620, 0), (621, 621, 0), (622, 622, 0), (623, 623, 0), (624, 624, 0), (625, 625, 0), (626, 626, 0), (627, 627, 0), (628, 628, 0), (629, 629, 0), (630, 630, 0), (631, 631, 0), (632, 632, 0), (633, 633, 0), (634, 634, 0), (635, 635, 0), (636, 636, 0), (637, 637, 0), (638, 638, 0), (639, 639, 0), (640, 640, 0), (641, 641, 0), (642, 642, 0), (643, 643, 0), (644, 644, 0), (645, 645, 0), (646, 646, 0), (647, 647, 0), (648, 648, 0), (649, 649, 0), (650, 650, 0), (651, 651, 0), (652, 652, 0), (653, 653, 0), (654, 654, 0), (655, 655, 0), (656, 656, 0), (658, 658, 0), (659, 659, 0), (664, 664, 0), (665, 665, 0), (666, 666, 0), (667, 667, 0), (668, 668, 0), (669, 669, 0), (670, 670, 0), (671, 671, 0), (672, 672, 0), (673, 673, 0), (674, 674, 0), (675, 675, 0), (676, 676, 0), (677, 677, 0), (678, 678, 0), (679, 679, 0), (680, 680, 0)]
theorem fr_fM_scanned {s : ev_M} {a1 : Int32} {a2 : Int32} {a3 : Int32} {a4 : Int32} {q : ev_M × Int32} (h : fM_scanned s a1 a2 a3 a4 = some q) : fr F_M_scanned s q.1 := by
  have g : fr F_M_scanned s s := fr.rf
  refine fr_bd2 h fun s1 v2 hc h => ?_
  have gs1 : fr F_M_scanned s s1 := g.tr ((fr_fM_call4 hc).mono (F := F_M_scanned) (by decide +kernel))
  cases h; exact gs1
def F_M_trace : List (Nat × (Nat × Nat)) := [(549, 549, 1)]
theorem fr_fM_trace_b192 {k66 : ev_M → Int32 → Int32 → Int32 → Int32 → Int32 → Int32 → Option (ev_M × Int32)} {k85 : ev_M → Int32 → Int32 → Int32 → Int32 → Int32 → Int32 → Int32 → Int32 → Option (ev_M × Int32)} (hk66 : ∀ {s : ev_M} {z1 : Int32} {z2 : Int32} {z3 : Int32} {z4 : Int32} {z5 : Int32} {z6 : Int32} {q : ev_M × Int32} , k66 s z1 z2 z3 z4 z5 z6 = some q → fr F_M_trace s q.1) (hk85 : ∀ {s : ev_M} {z1 : Int32} {z2 : Int32} {z3 : Int32} {z4 : Int32} {z5 : Int32} {z6 : Int32} {z7 : Int32} {z8 : Int32} {q : ev_M × Int32} , k85 s z1 z2 z3 z4 z5 z6 z7 z8 = some q → fr F_M_trace s q.1) {s : ev_M} {x1 : Int32} {x2 : Int32} {x3 : Int32} {x4 : Int32} {x5 : Int32} {x6 : Int32} {x8 : Int32} {y0 : Int32} {q : ev_M × Int32} (h : fM_trace_b192 k66 k85 s x1 x2 x3 x4 x5 x6 x8 y0 = some q) : fr F_M_trace s q.1 := by
  have g : fr F_M_trace s s := fr.rf
  exact g.tr ((hk85 h))
theorem fr_fM_trace_b185 {k66 : ev_M → Int32 → Int32 → Int32 → Int32 → Int32 → Int32 → Option (ev_M × Int32)} {k85 : ev_M → Int32 → Int32 → Int32 → Int32 → Int32 → Int32 → Int32 → Int32 → Option (ev_M × Int32)} (hk66 : ∀ {s : ev_M} {z1 : Int32} {z2 : Int32} {z3 : Int32} {z4 : Int32} {z5 : Int32} {z6 : Int32} {q : ev_M × Int32} , k66 s z1 z2 z3 z4 z5 z6 = some q → fr F_M_trace s q.1) (hk85 : ∀ {s : ev_M} {z1 : Int32} {z2 : Int32} {z3 : Int32} {z4 : Int32} {z5 : Int32} {z6 : Int32} {z7 : Int32} {z8 : Int32} {q : ev_M × Int32} , k85 s z1 z2 z3 z4 z5 z6 z7 z8 = some q → fr F_M_trace s q.1) {s : ev_M} {x1 : Int32} {x2 : Int32} {x3 : Int32} {x4 : Int32} {x5 : Int32} {x6 : Int32} {x8 : Int32} {q : ev_M × Int32} (h : fM_trace_b185 k66 k85 s x1 x2 x3 x4 x5 x6 x8 = some q) : fr F_M_trace s q.1 := by
  have g : fr F_M_trace s s := fr.rf
  exact g.tr ((fr_fM_trace_b192 hk66 hk85 h))
theorem fr_fM_trace_b190 {k66 : ev_M → Int32 → Int32 → Int32 → Int32 → Int32 → Int32 → Option (ev_M × Int32)} {k85 : ev_M → Int32 → Int32 → Int32 → Int32 → Int32 → Int32 → Int32 → Int32 → Option (ev_M × Int32)} (hk66 : ∀ {s : ev_M} {z1 : Int32} {z2 : Int32} {z3 : Int32} {z4 : Int32} {z5 : Int32} {z6 : Int32} {q : ev_M × Int32} , k66 s z1 z2 z3 z4 z5 z6 = some q → fr F_M_trace s q.1) (hk85 : ∀ {s : ev_M} {z1 : Int32} {z2 : Int32} {z3 : Int32} {z4 : Int32} {z5 : Int32} {z6 : Int32} {z7 : Int32} {z8 : Int32} {q : ev_M × Int32} , k85 s z1 z2 z3 z4 z5 z6 z7 z8 = some q → fr F_M_trace s q.1) {s : ev_M} {x1 : Int32} {x2 : Int32} {x3 : Int32} {x4 : Int32} {x5 : Int32} {x6 : Int32} {x7 : Int32} {x8 : Int32} {q : ev_M × Int32} (h : fM_trace_b190 k66 k85 s x1 x2 x3 x4 x5 x6 x7 x8 = some q) : fr F_M_trace s q.1 := by
  have g : fr F_M_trace s s := fr.rf
  exact g.tr ((fr_fM_trace_b192 hk66 hk85 h))
theorem fr_fM_trace_b155 {k66 : ev_M → Int32 → Int32 → Int32 → Int32 → Int32 → Int32 → Option (ev_M × Int32)} {k85 : ev_M → Int32 → Int32 → Int32 → Int32 → Int32 → Int32 → Int32 → Int32 → Option (ev_M × Int32)} (hk66 : ∀ {s : ev_M} {z1 : Int32} {z2 : Int32} {z3 : Int32} {z4 : Int32} {z5 : Int32} {z6 : Int32} {q : ev_M × Int32} , k66 s z1 z2 z3 z4 z5 z6 = some q → fr F_M_trace s q.1) (hk85 : ∀ {s : ev_M} {z1 : Int32} {z2 : Int32} {z3 : Int32} {z4 : Int32} {z5 : Int32} {z6 : Int32} {z7 : Int32} {z8 : Int32} {q : ev_M × Int32} , k85 s z1 z2 z3 z4 z5 z6 z7 z8 = some q → fr F_M_trace s q.1) {s : ev_M} {x1 : Int32} {x2 : Int32} {x3 : Int32} {x4 : Int32} {x5 : Int32} {x6 : Int32} {x7 : Int32} {x8 : Int32} {y0 : Int32} {q : ev_M × Int32} (h : fM_trace_b155 k66 k85 s x1 x2 x3 x4 x5 x6 x7 x8 y0 = some q) : fr F_M_trace s q.1 := by
  have g : fr F_M_trace s s := fr.rf
  refine fr_if h (fun h => ?_) fun h => ?_
  · exact g.tr ((fr_fM_trace_b190 hk66 hk85 h))
  · refine fr_if h (fun h => ?_) fun h => ?_
    · exact g.tr ((fr_fM_trace_b185 hk66 hk85 h))
    · refine fr_gd h fun c0 h => ?_
      refine fr_gd h fun c1 h => ?_
      refine fr_if h (fun h => ?_) fun h => ?_
      · exact g.tr ((fr_fM_trace_b185 hk66 hk85 h))
      · exact g.tr ((fr_fM_trace_b190 hk66 hk85 h))
theorem fr_fM_trace_b150 {k66 : ev_M → Int32 → Int32 → Int32 → Int32 → Int32 → Int32 → Option (ev_M × Int32)} {k85 : ev_M → Int32 → Int32 → Int32 → Int32 → Int32 → Int32 → Int32 → Int32 → Option (ev_M × Int32)} (hk66 : ∀ {s : ev_M} {z1 : Int32} {z2 : Int32} {z3 : Int32} {z4 : Int32} {z5 : Int32} {z6 : Int32} {q : ev_M × Int32} , k66 s z1 z2 z3 z4 z5 z6 = some q → fr F_M_trace s q.1) (hk85 : ∀ {s : ev_M} {z1 : Int32} {z2 : Int32} {z3 : Int32} {z4 : Int32} {z5 : Int32} {z6 : Int32} {z7 : Int32} {z8 : Int32} {q : ev_M × Int32} , k85 s z1 z2 z3 z4 z5 z6 z7 z8 = some q → fr F_M_trace s q.1) {s : ev_M} {x1 : Int32} {x2 : Int32} {x3 : Int32} {x4 : Int32} {x5 : Int32} {x6 : Int32} {x7 : Int32} {x8 : Int32} {q : ev_M × Int32} (h : fM_trace_b150 k66 k85 s x1 x2 x3 x4 x5 x6 x7 x8 = some q) : fr F_M_trace s q.1 := by
  have g : fr F_M_trace s s := fr.rf
  exact g.tr ((fr_fM_trace_b155 hk66 hk85 h))
theorem fr_fM_trace_b154 {k66 : ev_M → Int32 → Int32 → Int32 → Int32 → Int32 → Int32 → Option (ev_M × Int32)} {k85 : ev_M → Int32 → Int32 → Int32 → Int32 → Int32 → Int32 → Int32 → Int32 → Option (ev_M × Int32)} (hk66 : ∀ {s : ev_M} {z1 : Int32} {z2 : Int32} {z3 : Int32} {z4 : Int32} {z5 : Int32} {z6 : Int32} {q : ev_M × Int32} , k66 s z1 z2 z3 z4 z5 z6 = some q → fr F_M_trace s q.1) (hk85 : ∀ {s : ev_M} {z1 : Int32} {z2 : Int32} {z3 : Int32} {z4 : Int32} {z5 : Int32} {z6 : Int32} {z7 : Int32} {z8 : Int32} {q : ev_M × Int32} , k85 s z1 z2 z3 z4 z5 z6 z7 z8 = some q → fr F_M_trace s q.1) {s : ev_M} {x1 : Int32} {x2 : Int32} {x3 : Int32} {x4 : Int32} {x5 : Int32} {x6 : Int32} {x7 : Int32} {x8 : Int32} {q : ev_M × Int32} (h : fM_trace_b154 k66 k85 s x1 x2 x3 x4 x5 x6 x7 x8 = some q) : fr F_M_trace s q.1 := by
  have g : fr F_M_trace s s := fr.rf
  exact g.tr ((fr_fM_trace_b155 hk66 hk85 h))
theorem fr_fM_trace_h85 {k66 : ev_M → Int32 → Int32 → Int32 → Int32 → Int32 → Int32 → Option (ev_M × Int32)} (hk66 : ∀ {s : ev_M} {z1 : Int32} {z2 : Int32} {z3 : Int32} {z4 : Int32} {z5 : Int32} {z6 : Int32} {q : ev_M × Int32} , k66 s z1 z2 z3 z4 z5 z6 = some q → fr F_M_trace s q.1) : ∀ (n : Nat) {s : ev_M} {x1 : Int32} {x2 : Int32} {x3 : Int32} {x4 : Int32} {x5 : Int32} {x6 : Int32} {x7 : Int32} {x8 : Int32} {q : ev_M × Int32} , fM_trace_h85 k66 n s x1 x2 x3 x4 x5 x6 x7 x8 = some q → fr F_M_trace s q.1 := by
  intro n
  induction n with
  | zero => intro s x1 x2 x3 x4 x5 x6 x7 x8 q h; cases h
  | succ n ih =>
    intro s x1 x2 x3 x4 x5 x6 x7 x8 q h
    have g : fr F_M_trace s s := fr.rf
    refine fr_if h (fun h => ?_) fun h => ?_
    · refine fr_gd h fun c0 h => ?_
      refine fr_if h (fun h => ?_) fun h => ?_
      · refine fr_if h (fun h => ?_) fun h => ?_
        · exact g.tr ((fr_fM_trace_b150 hk66 ih h))
        · refine fr_gd h fun c1 h => ?_
          refine fr_gd h fun c2 h => ?_
          refine fr_if h (fun h => ?_) fun h => ?_
          · refine fr_gd h fun c3 h => ?_
            refine fr_gd h fun c4 h => ?_
            refine fr_if h (fun h => ?_) fun h => ?_
            · refine fr_if h (fun h => ?_) fun h => ?_
              · exact g.tr ((fr_fM_trace_b154 hk66 ih h))
              · exact g.tr ((fr_fM_trace_b150 hk66 ih h))
            · exact g.tr ((fr_fM_trace_b154 hk66 ih h))
          · exact g.tr ((fr_fM_trace_b150 hk66 ih h))
      · exact g.tr ((fr_fM_trace_b154 hk66 ih h))
    · refine fr_if h (fun h => ?_) fun h => ?_
      · cases h; exact g
      · exact g.tr ((hk66 h))
theorem fr_fM_trace_b218 {s : ev_M} {x3 : Int32} {x5 : Int32} {q : ev_M × Int32} (h : fM_trace_b218 s x3 x5 = some q) : fr F_M_trace s q.1 := by
  have g : fr F_M_trace s s := fr.rf
  refine fr_if h (fun h => ?_) fun h => ?_
  · cases h; exact g
  · refine fr_if h (fun h => ?_) fun h => ?_
    · refine fr_gd h fun c0 h => ?_
      cases h; exact g
    · refine fr_if h (fun h => ?_) fun h => ?_
      · refine fr_gd h fun c0 h => ?_
        cases h; exact g
      · refine fr_gd h fun c0 h => ?_
        cases h; exact g
theorem fr_fM_trace_h66 : ∀ (n : Nat) {s : ev_M} {x1 : Int32} {x2 : Int32} {x3 : Int32} {x4 : Int32} {x5 : Int32} {x6 : Int32} {q : ev_M × Int32} , fM_trace_h66 n s x1 x2 x3 x4 x5 x6 = some q → fr F_M_trace s q.1 := by
  intro n
  induction n with
  | zero => intro s x1 x2 x3 x4 x5 x6 q h; cases h
  | succ n ih =>
    intro s x1 x2 x3 x4 x5 x6 q h
    have g : fr F_M_trace s s := fr.rf
    refine fr_if h (fun h => ?_) fun h => ?_
    · refine fr_if h (fun h => ?_) fun h => ?_
      · exact g.tr ((fr_fM_trace_h85 ih 1048576 h))
      · exact g.tr ((fr_fM_trace_b218 h))
    · exact g.tr ((fr_fM_trace_b218 h))
theorem fr_fM_trace_b58 {s : ev_M} {x1 : Int32} {x2 : Int32} {x3 : Int32} {y0 : Int32} {q : ev_M × Int32} (h : fM_trace_b58 s x1 x2 x3 y0 = some q) : fr F_M_trace s q.1 := by
  have g : fr F_M_trace s s := fr.rf
  exact g.tr ((fr_fM_trace_h66 1048576 h))
theorem fr_fM_trace {s : ev_M} {a1 : Int32} {a2 : Int32} {a3 : Int32} {q : ev_M × Int32} (h : fM_trace s a1 a2 a3 = some q) : fr F_M_trace s q.1 := by
  have g : fr F_M_trace s s := fr.rf
  refine fr_ltM h (Q := fr F_M_trace s) (g.wI rfl) fun s1 gs1 h => ?_
  refine fr_if h (fun h => ?_) fun h => ?_
  · refine fr_bd1 h fun v2 hc h => ?_
    refine fr_if h (fun h => ?_) fun h => ?_
    · cases h; exact gs1
    · refine fr_bd1 h fun v3 hc h => ?_
      refine fr_if h (fun h => ?_) fun h => ?_
      · cases h; exact gs1
      · refine fr_if h (fun h => ?_) fun h => ?_
        · exact gs1.tr ((fr_fM_trace_b58 h))
        · exact gs1.tr ((fr_fM_trace_b58 h))
  · cases h; exact gs1
def F_M_notice : List (Nat × (Nat × Nat)) := [(549, 549, 1)]
theorem fr_fM_notice_b49 {s : ev_M} {x1 : Int32} {x2 : Int32} {y0 : Int32} {y1 : Int32} {y2 : Int32} {q : ev_M × Int32} (h : fM_notice_b49 s x1 x2 y0 y1 y2 = some q) : fr F_M_notice s q.1 := by
  have g : fr F_M_notice s s := fr.rf
  refine fr_bd1 h fun v1 hc h => ?_
  refine fr_if h (fun h => ?_) fun h => ?_
  · cases h; exact g
  · refine fr_if h (fun h => ?_) fun h => ?_
    · refine fr_gd h fun c0 h => ?_
      refine fr_gd h fun c1 h => ?_
      cases h; exact g
    · refine fr_if h (fun h => ?_) fun h => ?_
      · refine fr_gd h fun c0 h => ?_
        cases h; exact g
      · refine fr_if h (fun h => ?_) fun h => ?_
        · refine fr_gd h fun c0 h => ?_
          cases h; exact g
        · refine fr_gd h fun c0 h => ?_
          cases h; exact g
theorem fr_fM_notice {s : ev_M} {a1 : Int32} {a2 : Int32} {q : ev_M × Int32} (h : fM_notice s a1 a2 = some q) : fr F_M_notice s q.1 := by
  have g : fr F_M_notice s s := fr.rf
  refine fr_ltM h (Q := fr F_M_notice s) (g.wI rfl) fun s2 gs2 h => ?_
  refine fr_if h (fun h => ?_) fun h => ?_
  · refine fr_bd1 h fun v3 hc h => ?_
    refine fr_if h (fun h => ?_) fun h => ?_
    · cases h; exact gs2
    · refine fr_if h (fun h => ?_) fun h => ?_
      · exact gs2.tr ((fr_fM_notice_b49 h))
      · exact gs2.tr ((fr_fM_notice_b49 h))
  · cases h; exact gs2
def F_PH_tick : List (Nat × (Nat × Nat)) := [(1, 1, 3), (1, 1, 5), (1, 1, 6), (3, 3, 0), (9, 9, 7), (9, 9, 8), (9, 9, 14), (9, 9, 15), (13, 13, 0), (14, 14, 0), (15, 15, 2), (15, 15, 3), (15, 15, 8), (17, 17, 0), (18, 18, 0), (19, 19, 0), (20, 20, 0), (21, 21, 0), (22, 22, 0), (24, 24, 0), (25, 25, 0), (26, 26, 0), (27, 27, 0), (28, 28, 0), (29, 29, 0), (30, 30, 3), (30, 30, 5), (30, 30, 8), (30, 30, 10), (30, 30, 12), (30, 30, 15), (30, 30, 16), (31, 31, 0), (33, 33, 0), (34, 34, 0), (35, 35, 0), (36, 36, 0), (37, 37, 0), (39, 39, 0), (40, 40, 0), (41, 41, 0), (42, 42, 0), (44, 44, 0), (45, 45, 0), (47, 47, 0), (48, 48, 0), (49, 49, 0), (50, 50, 0), (51, 51, 0), (52, 52, 3), (52, 52, 4), (52, 52, 5), (52, 52, 6), (52, 52, 9), (52, 52, 10), (52, 52, 14), (53, 53, 0), (54, 54, 0), (56, 56, 0), (57, 57, 0), (58, 58, 0), (59, 59, 0), (60, 60, 0), (61, 61, 0), (63, 63, 0), (64, 64, 0), (65, 65, 0), (66, 66, 0), (68, 75, 0), (72, 72, 0), (73, 73, 0), (74, 74, 0), (76, 76, 0), (77, 77, 0), (78, 78, 4), (78, 78, 7), (78, 78, 9), (78, 78, 10), (78, 78, 12), (78, 78, 14), (79, 79, 0), (80, 80, 0), (82, 82, 0), (83, 83, 0), (84, 84, 0), (85, 85, 0), (87, 87, 0), (88, 88, 0), (89, 89, 0), (90, 90, 0), (91, 91, 0), (93, 95, 0), (97, 97, 0), (98, 98, 0), (99, 99, 0), (100, 100, 6), (100, 100, 7), (102, 102, 0), (102, 123, 0), (103, 103, 0), (104, 104, 0), (105, 105, 0), (106, 106, 0), (107, 107, 0), (108, 108, 0), (109, 109, 0), (110, 110, 0), (111, 111, 0), (112, 112, 0), (113, 113, 0), (115, 115, 0), (116, 116, 0), (117, 117, 0), (119, 119, 0), (120, 120, 0), (121, 121, 0), (125, 125, 4), (126, 126, 0), (127, 127, 0), (128, 128, 0), (130, 137, 0), (138, 138, 4), (138, 138, 10), (138, 138, 11), (138, 138, 13), (140, 140, 0), (141, 141, 0), (142, 142, 0), (143, 143, 0), (144, 144, 0), (146, 157, 0), (158, 158, 0), (160, 171, 0), (172, 172, 0), (173, 173, 0), (174, 174, 0), (175, 175, 0), (177, 177, 0), (177, 179, 0), (178, 178, 0), (179, 179, 0), (180, 180, 0), (181, 181, 0), (183, 191, 0), (193, 448, 0), (449, 449, 5), (449, 449, 7), (451, 451, 0), (452, 452, 0), (453, 453, 0), (454, 454, 0), (455, 455, 0), (456, 456, 0), (457, 457, 0), (459, 459, 0), (460, 460, 0), (461, 461, 0), (462, 462, 0), (463, 463, 0), (464, 464, 0), (466, 545, 0), (546, 546, 0), (547, 547, 0), (548, 548, 0)]
theorem fr_fPH_tick {s : ev_M} {a1 : Int32} {q : ev_M × Int32} (h : fPH_tick s a1 = some q) : fr F_PH_tick s q.1 := by
  have g : fr F_PH_tick s s := fr.rf
  refine fr_bd2 h fun s1 v2 hc h => ?_
  have gs1 : fr F_PH_tick s s1 := g.tr ((fr_fLog_stages hc).mono (F := F_PH_tick) (by decide +kernel))
  refine fr_if h (fun h => ?_) fun h => ?_
  · cases h; exact gs1
  · refine fr_bd2 h fun s3 v4 hc h => ?_
    have gs3 : fr F_PH_tick s s3 := gs1.tr ((fr_fPH_act_1 hc).mono (F := F_PH_tick) (by decide +kernel))
    cases h; exact gs3
def F_M_tick : List (Nat × (Nat × Nat)) := [(549, 549, 1), (549, 549, 3), (549, 549, 10), (549, 549, 11), (549, 549, 14), (549, 549, 15), (549, 549, 16), (549, 549, 17), (549, 549, 23), (549, 549, 24), (549, 549, 25), (549, 549, 28), (549, 549, 34), (549, 549, 39), (549, 549, 44), (549, 549, 49), (549, 549, 50), (549, 549, 51), (549, 549, 52), (549, 549, 59), (549, 549, 84), (549, 549, 85), (549, 549, 86), (549, 549, 87), (549, 549, 88), (549, 549, 92), (549, 549, 94), (549, 549, 102), (549, 549, 108), (549, 549, 112), (549, 549, 115), (549, 549, 120), (549, 549, 126), (549, 549, 130), (549, 549, 135), (549, 549, 140), (549, 549, 141), (549, 549, 142), (549, 549, 147), (549, 549, 153), (549, 549, 154), (549, 549, 167), (552, 552, 0), (553, 553, 0), (554, 554, 0), (558, 558, 0), (559, 559, 0), (560, 560, 0), (561, 561, 0), (562, 562, 0), (563, 563, 0), (564, 564, 0), (565, 565, 0), (566, 566, 0), (567, 567, 0), (568, 568, 0), (569, 569, 0), (570, 570, 0), (571, 571, 0), (572, 572, 0), (573, 573, 0), (574, 574, 0), (575, 575, 0), (576, 576, 0), (577, 577, 0), (578, 578, 0), (579, 579, 0), (580, 580, 0), (581, 581, 0), (582, 582, 0), (583, 583, 0), (584, 584, 0), (585, 585, 0), (586, 586, 0), (587, 587, 0), (588, 588, 0), (589, 589, 0), (590, 590, 0), (591, 591, 0), (592, 592, 0), (593, 593, 0), (594, 594, 0), (595, 595, 0), (596, 596, 0), (597, 597, 0), (598, 598, 0), (599, 599, 0), (600, 600, 0), (601, 601, 0), (602, 602, 0), (603, 603, 0), (604, 604, 0), (605, 605, 0), (606, 606, 0), (607, 607, 0), (608, 608, 0), (609, 609, 0), (610, 610, 0), (611, 611, 0), (612, 612, 0), (613, 613, 0), (614, 614, 0), (615, 615, 0), (616, 616, 0), (617, 617, 0), (618, 618, 0), (619, 619, 0), (620, 620, 0), (621, 621, 0), (622, 622, 0), (623, 623, 0), (624, 624, 0), (625, 625, 0), (626, 626, 0), (627, 627, 0), (628, 628, 0), (629, 629, 0), (630, 630, 0), (631, 631, 0), (632, 632, 0), (633, 633, 0), (634, 634, 0), (635, 635, 0), (636, 636, 0), (637, 637, 0), (638, 638, 0), (639, 639, 0), (640, 640, 0), (641, 641, 0), (642, 642, 0), (643, 643, 0), (644, 644, 0), (645, 645, 0), (646, 646, 0), (647, 647, 0), (648, 648, 0), (649, 649, 0), (650, 650, 0), (651, 651, 0), (652, 652, 0), (653, 653, 0), (654, 654, 0), (655, 655, 0), (656, 656, 0), (658, 658, 0), (659, 659, 0), (664, 664, 0), (665, 665, 0), (666, 666, 0), (667, 667, 0), (668, 668, 0), (669, 669, 0), (670, 670, 0), (671, 671, 0), (672, 672, 0), (673, 673, 0), (674, 674, 0), (675, 675, 0), (676, 676, 0), (677, 677, 0), (678, 678, 0), (679, 679, 0), (680, 680, 0)]
theorem fr_fM_tick {s : ev_M} {a1 : Int32} {q : ev_M × Int32} (h : fM_tick s a1 = some q) : fr F_M_tick s q.1 := by
  have g : fr F_M_tick s s := fr.rf
  refine fr_bd2 h fun s1 v2 hc h => ?_
  have gs1 : fr F_M_tick s s1 := g.tr ((fr_fM_call1 hc).mono (F := F_M_tick) (by decide +kernel))
  cases h; exact gs1
def F_M_now : List (Nat × (Nat × Nat)) := [(549, 549, 1)]
theorem fr_fM_now {s : ev_M} {q : ev_M × Int32} (h : fM_now s = some q) : fr F_M_now s q.1 := by
  have g : fr F_M_now s s := fr.rf
  refine fr_ltM h (Q := fr F_M_now s) (g.wI rfl) fun s1 gs1 h => ?_
  refine fr_if h (fun h => ?_) fun h => ?_
  · cases h; exact gs1
  · cases h; exact gs1
def F_Arr_fillI_124 : List (Nat × (Nat × Nat)) := [(124, 124, 0)]
theorem fr_fArr_fillI_124_h5 : ∀ (n : Nat) {s : ev_M} {x1 : Int32} {x2 : Int32} {x3 : Int32} {q : ev_M} , fArr_fillI_124_h5 n s x1 x2 x3 = some q → fr F_Arr_fillI_124 s q := by
  intro n
  induction n with
  | zero => intro s x1 x2 x3 q h; cases h
  | succ n ih =>
    intro s x1 x2 x3 q h
    have g : fr F_Arr_fillI_124 s s := fr.rf
    refine fr_if h (fun h => ?_) fun h => ?_
    · refine fr_gd h fun c0 h => ?_
      refine fr_ltM h (Q := fr F_Arr_fillI_124 s) (g.wI rfl) fun s1 gs1 h => ?_
      exact gs1.tr ((ih h))
    · cases h; exact g
theorem fr_fArr_fillI_124 {s : ev_M} {a1 : Int32} {q : ev_M} (h : fArr_fillI_124 s a1 = some q) : fr F_Arr_fillI_124 s q := by
  have g : fr F_Arr_fillI_124 s s := fr.rf
  exact g.tr ((fr_fArr_fillI_124_h5 1048576 h))
def F_Lines_misplaced : List (Nat × (Nat × Nat)) := [(124, 124, 0)]
theorem fr_fLines_misplaced_h25 {k15 : ev_M → Int32 → Option (ev_M × Int32)} (hk15 : ∀ {s : ev_M} {z1 : Int32} {q : ev_M × Int32} , k15 s z1 = some q → fr F_Lines_misplaced s q.1) : ∀ (n : Nat) {s : ev_M} {x2 : Int32} {x3 : Int32} {q : ev_M × Int32} , fLines_misplaced_h25 k15 n s x2 x3 = some q → fr F_Lines_misplaced s q.1 := by
  intro n
  induction n with
  | zero => intro s x2 x3 q h; cases h
  | succ n ih =>
    intro s x2 x3 q h
    have g : fr F_Lines_misplaced s s := fr.rf
    refine fr_gd h fun c0 h => ?_
    refine fr_if h (fun h => ?_) fun h => ?_
    · refine fr_gd h fun c1 h => ?_
      refine fr_gd h fun c2 h => ?_
      refine fr_gd h fun c3 h => ?_
      refine fr_gd h fun c4 h => ?_
      refine fr_ltM h (Q := fr F_Lines_misplaced s) (g.wI rfl) fun s1 gs1 h => ?_
      exact gs1.tr ((ih h))
    · exact g.tr ((hk15 h))
theorem fr_fLines_misplaced_h15 : ∀ (n : Nat) {s : ev_M} {x2 : Int32} {q : ev_M × Int32} , fLines_misplaced_h15 n s x2 = some q → fr F_Lines_misplaced s q.1 := by
  intro n
  induction n with
  | zero => intro s x2 q h; cases h
  | succ n ih =>
    intro s x2 q h
    have g : fr F_Lines_misplaced s s := fr.rf
    refine fr_if h (fun h => ?_) fun h => ?_
    · exact g.tr ((fr_fLines_misplaced_h25 ih 1048576 h))
    · refine fr_bd1 h fun v2 hc h => ?_
      cases h; exact g
theorem fr_fLines_misplaced {s : ev_M} {q : ev_M × Int32} (h : fLines_misplaced s = some q) : fr F_Lines_misplaced s q.1 := by
  have g : fr F_Lines_misplaced s s := fr.rf
  refine fr_bd1 h fun s3 hc h => ?_
  have gs3 := g.tr ((fr_fArr_fillI_124 hc).mono (F := F_Lines_misplaced) (by decide +kernel))
  exact gs3.tr ((fr_fLines_misplaced_h15 1048576 h))
def F_Rounds_misplaced : List (Nat × (Nat × Nat)) := [(124, 124, 0)]
theorem fr_fRounds_misplaced_h25 {k15 : ev_M → Int32 → Option (ev_M × Int32)} (hk15 : ∀ {s : ev_M} {z1 : Int32} {q : ev_M × Int32} , k15 s z1 = some q → fr F_Rounds_misplaced s q.1) : ∀ (n : Nat) {s : ev_M} {x2 : Int32} {x3 : Int32} {q : ev_M × Int32} , fRounds_misplaced_h25 k15 n s x2 x3 = some q → fr F_Rounds_misplaced s q.1 := by
  intro n
  induction n with
  | zero => intro s x2 x3 q h; cases h
  | succ n ih =>
    intro s x2 x3 q h
    have g : fr F_Rounds_misplaced s s := fr.rf
    refine fr_gd h fun c0 h => ?_
    refine fr_if h (fun h => ?_) fun h => ?_
    · refine fr_gd h fun c1 h => ?_
      refine fr_gd h fun c2 h => ?_
      refine fr_gd h fun c3 h => ?_
      refine fr_gd h fun c4 h => ?_
      refine fr_ltM h (Q := fr F_Rounds_misplaced s) (g.wI rfl) fun s1 gs1 h => ?_
      exact gs1.tr ((ih h))
    · exact g.tr ((hk15 h))
theorem fr_fRounds_misplaced_h15 : ∀ (n : Nat) {s : ev_M} {x2 : Int32} {q : ev_M × Int32} , fRounds_misplaced_h15 n s x2 = some q → fr F_Rounds_misplaced s q.1 := by
  intro n
  induction n with
  | zero => intro s x2 q h; cases h
  | succ n ih =>
    intro s x2 q h
    have g : fr F_Rounds_misplaced s s := fr.rf
    refine fr_if h (fun h => ?_) fun h => ?_
    · exact g.tr ((fr_fRounds_misplaced_h25 ih 1048576 h))
    · refine fr_bd1 h fun v2 hc h => ?_
      cases h; exact g
theorem fr_fRounds_misplaced {s : ev_M} {q : ev_M × Int32} (h : fRounds_misplaced s = some q) : fr F_Rounds_misplaced s q.1 := by
  have g : fr F_Rounds_misplaced s s := fr.rf
  refine fr_bd1 h fun s3 hc h => ?_
  have gs3 := g.tr ((fr_fArr_fillI_124 hc).mono (F := F_Rounds_misplaced) (by decide +kernel))
  exact gs3.tr ((fr_fRounds_misplaced_h15 1048576 h))
def F_Lock_misplaced : List (Nat × (Nat × Nat)) := [(124, 124, 0)]
theorem fr_fLock_misplaced_b67 {k15 : ev_M → Int32 → Option (ev_M × Int32)} {k25 : ev_M → Int32 → Int32 → Option (ev_M × Int32)} (hk15 : ∀ {s : ev_M} {z1 : Int32} {q : ev_M × Int32} , k15 s z1 = some q → fr F_Lock_misplaced s q.1) (hk25 : ∀ {s : ev_M} {z1 : Int32} {z2 : Int32} {q : ev_M × Int32} , k25 s z1 z2 = some q → fr F_Lock_misplaced s q.1) {s : ev_M} {x2 : Int32} {x3 : Int32} {q : ev_M × Int32} (h : fLock_misplaced_b67 k15 k25 s x2 x3 = some q) : fr F_Lock_misplaced s q.1 := by
  have g : fr F_Lock_misplaced s s := fr.rf
  exact g.tr ((hk25 h))
theorem fr_fLock_misplaced_h25 {k15 : ev_M → Int32 → Option (ev_M × Int32)} (hk15 : ∀ {s : ev_M} {z1 : Int32} {q : ev_M × Int32} , k15 s z1 = some q → fr F_Lock_misplaced s q.1) : ∀ (n : Nat) {s : ev_M} {x2 : Int32} {x3 : Int32} {q : ev_M × Int32} , fLock_misplaced_h25 k15 n s x2 x3 = some q → fr F_Lock_misplaced s q.1 := by
  intro n
  induction n with
  | zero => intro s x2 x3 q h; cases h
  | succ n ih =>
    intro s x2 x3 q h
    have g : fr F_Lock_misplaced s s := fr.rf
    refine fr_gd h fun c0 h => ?_
    refine fr_if h (fun h => ?_) fun h => ?_
    · refine fr_gd h fun c1 h => ?_
      refine fr_gd h fun c2 h => ?_
      refine fr_bd1 h fun v1 hc h => ?_
      refine fr_if h (fun h => ?_) fun h => ?_
      · exact g.tr ((fr_fLock_misplaced_b67 hk15 ih h))
      · refine fr_gd h fun c3 h => ?_
        refine fr_gd h fun c4 h => ?_
        refine fr_gd h fun c5 h => ?_
        refine fr_gd h fun c6 h => ?_
        refine fr_ltM h (Q := fr F_Lock_misplaced s) (g.wI rfl) fun s2 gs2 h => ?_
        exact gs2.tr ((fr_fLock_misplaced_b67 hk15 ih h))
    · exact g.tr ((hk15 h))
theorem fr_fLock_misplaced_b124 {k83 : ev_M → Int32 → Int32 → Option (ev_M × Int32)} (hk83 : ∀ {s : ev_M} {z1 : Int32} {z2 : Int32} {q : ev_M × Int32} , k83 s z1 z2 = some q → fr F_Lock_misplaced s q.1) {s : ev_M} {x2 : Int32} {x3 : Int32} {q : ev_M × Int32} (h : fLock_misplaced_b124 k83 s x2 x3 = some q) : fr F_Lock_misplaced s q.1 := by
  have g : fr F_Lock_misplaced s s := fr.rf
  exact g.tr ((hk83 h))
theorem fr_fLock_misplaced_b118 {k83 : ev_M → Int32 → Int32 → Option (ev_M × Int32)} (hk83 : ∀ {s : ev_M} {z1 : Int32} {z2 : Int32} {q : ev_M × Int32} , k83 s z1 z2 = some q → fr F_Lock_misplaced s q.1) {s : ev_M} {x2 : Int32} {x3 : Int32} {y0 : Int32} {y1 : Int32} {q : ev_M × Int32} (h : fLock_misplaced_b118 k83 s x2 x3 y0 y1 = some q) : fr F_Lock_misplaced s q.1 := by
  have g : fr F_Lock_misplaced s s := fr.rf
  refine fr_if h (fun h => ?_) fun h => ?_
  · exact g.tr ((fr_fLock_misplaced_b124 hk83 h))
  · exact g.tr ((fr_fLock_misplaced_b124 hk83 h))
theorem fr_fLock_misplaced_h83 : ∀ (n : Nat) {s : ev_M} {x2 : Int32} {x3 : Int32} {q : ev_M × Int32} , fLock_misplaced_h83 n s x2 x3 = some q → fr F_Lock_misplaced s q.1 := by
  intro n
  induction n with
  | zero => intro s x2 x3 q h; cases h
  | succ n ih =>
    intro s x2 x3 q h
    have g : fr F_Lock_misplaced s s := fr.rf
    refine fr_if h (fun h => ?_) fun h => ?_
    · refine fr_gd h fun c0 h => ?_
      refine fr_gd h fun c1 h => ?_
      refine fr_if h (fun h => ?_) fun h => ?_
      · exact g.tr ((fr_fLock_misplaced_b118 ih h))
      · exact g.tr ((fr_fLock_misplaced_b118 ih h))
    · cases h; exact g
theorem fr_fLock_misplaced_h15 : ∀ (n : Nat) {s : ev_M} {x2 : Int32} {q : ev_M × Int32} , fLock_misplaced_h15 n s x2 = some q → fr F_Lock_misplaced s q.1 := by
  intro n
  induction n with
  | zero => intro s x2 q h; cases h
  | succ n ih =>
    intro s x2 q h
    have g : fr F_Lock_misplaced s s := fr.rf
    refine fr_if h (fun h => ?_) fun h => ?_
    · exact g.tr ((fr_fLock_misplaced_h25 ih 1048576 h))
    · exact g.tr ((fr_fLock_misplaced_h83 1048576 h))
theorem fr_fLock_misplaced {s : ev_M} {q : ev_M × Int32} (h : fLock_misplaced s = some q) : fr F_Lock_misplaced s q.1 := by
  have g : fr F_Lock_misplaced s s := fr.rf
  refine fr_bd1 h fun s3 hc h => ?_
  have gs3 := g.tr ((fr_fArr_fillI_124 hc).mono (F := F_Lock_misplaced) (by decide +kernel))
  exact gs3.tr ((fr_fLock_misplaced_h15 1048576 h))
def F_PH_audit : List (Nat × (Nat × Nat)) := [(124, 124, 0)]
theorem fr_fPH_audit {s : ev_M} {q : ev_M × Int32} (h : fPH_audit s = some q) : fr F_PH_audit s q.1 := by
  have g : fr F_PH_audit s s := fr.rf
  refine fr_if h (fun h => ?_) fun h => ?_
  · refine fr_bd1 h fun v1 hc h => ?_
    refine fr_bd1 h fun v2 hc h => ?_
    refine fr_bd2 h fun s3 v4 hc h => ?_
    have gs3 : fr F_PH_audit s s3 := g.tr ((fr_fLines_misplaced hc).mono (F := F_PH_audit) (by decide +kernel))
    refine fr_bd2 h fun s5 v6 hc h => ?_
    have gs5 : fr F_PH_audit s s5 := gs3.tr ((fr_fRounds_misplaced hc).mono (F := F_PH_audit) (by decide +kernel))
    refine fr_bd2 h fun s7 v8 hc h => ?_
    have gs7 : fr F_PH_audit s s7 := gs5.tr ((fr_fLock_misplaced hc).mono (F := F_PH_audit) (by decide +kernel))
    cases h; exact gs7
  · cases h; exact g
def F_M_audit : List (Nat × (Nat × Nat)) := [(549, 549, 1)]
theorem fr_fM_audit {s : ev_M} {q : ev_M × Int32} (h : fM_audit s = some q) : fr F_M_audit s q.1 := by
  have g : fr F_M_audit s s := fr.rf
  refine fr_ltM h (Q := fr F_M_audit s) (g.wI rfl) fun s1 gs1 h => ?_
  refine fr_if h (fun h => ?_) fun h => ?_
  · cases h; exact gs1
  · cases h; exact gs1
