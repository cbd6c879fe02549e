/-! ===== LEVEL 3: acts: what each owes ===== -/
/-- a row with one number changed -/
def up1 (f : Nat → Int32) (k : Nat) (x : Int32) : Nat → Int32 := fun b => if b = k then x else f b
theorem wI_c {s : ev_M} {c k : Nat} {x : Int32} : (wI s c k x).1 c = up1 (s.1 c) k x := by
  funext b; rw [wI_1, if_pos rfl]; rfl
theorem wI_L {s : ev_M} {c k : Nat} {x : Int32} : (wI s c k x).2.1 = s.2.1 := rfl
theorem wL_c {s : ev_M} {c k : Nat} {x : Int64} {a b : Nat} : (wL s c k x).2.1 a b = if a = c then (if b = k then x else s.2.1 a b) else s.2.1 a b := rfl
theorem wL_ne {s : ev_M} {c k : Nat} {x : Int64} {a : Nat} (h : a ≠ c) : (wL s c k x).2.1 a = s.2.1 a := by
  funext b; rw [wL_c, if_neg h]
theorem up1_eq {f : Nat → Int32} {k : Nat} {x : Int32} : up1 f k x k = x := if_pos rfl
theorem up1_ne {f : Nat → Int32} {k b : Nat} {x : Int32} (h : b ≠ k) : up1 f k x b = f b := if_neg h
theorem up1_ap {f : Nat → Int32} {k b : Nat} {x : Int32} : up1 f k x b = if b = k then x else f b := rfl
theorem Ag.set {n i : Nat} {f g : Nat → Int32} {x y : Int32} (h : Ag n f g) (e : y = x) : Ag n (up1 f i x) (up1 g i y) := fun j hj => by
  unfold up1
  rw [e, h j hj]
theorem Ag.ext {n m : Nat} {f g : Nat → Int32} {x y : Int32} (h : Ag n f g) (e : y = x) (hm : m = n + 1) : Ag m (up1 f n x) (up1 g n y) := fun j hj => by
  unfold up1
  by_cases hq : j = n
  · rw [if_pos hq, if_pos hq, e]
  · rw [if_neg hq, if_neg hq, h j (by omega)]
theorem Bd.set {n i : Nat} {f : Nat → Int32} {x : Int32} {lo hi lo' hi' : Int} (h : Bd n f lo hi) (e : lo' ≤ x.toInt ∧ x.toInt ≤ hi') (h1 : lo' ≤ lo := by omega) (h2 : hi ≤ hi' := by omega) : Bd n (up1 f i x) lo' hi' := fun j hj => by
  unfold up1
  split
  · exact e
  · have := h j hj; omega
theorem Bd.ext {n m : Nat} {f : Nat → Int32} {x : Int32} {lo hi lo' hi' : Int} (h : Bd n f lo hi) (e : lo' ≤ x.toInt ∧ x.toInt ≤ hi') (hm : m = n + 1) (h1 : lo' ≤ lo := by omega) (h2 : hi ≤ hi' := by omega) : Bd m (up1 f n x) lo' hi' := fun j hj => by
  unfold up1
  by_cases hq : j = n
  · rw [if_pos hq]; exact e
  · rw [if_neg hq]; have := h j (by omega); omega
theorem Bd.mono {n : Nat} {f : Nat → Int32} {lo hi lo' hi' : Int} (h : Bd n f lo hi) (h1 : lo' ≤ lo := by omega) (h2 : hi ≤ hi' := by omega) : Bd n f lo' hi' := fun j hj => by
  have := h j hj; omega
/-- the log as it was -/
def lgS (s x : ev_M) : Prop := (∀ c, 9 ≤ c → c ≤ 14 → x.1 c = s.1 c) ∧ x.1 1 1 = s.1 1 1 ∧ x.1 2 = s.1 2 ∧ ∀ c, 1000 ≤ c → x.1 c = s.1 c
theorem lgS.rf {s : ev_M} : lgS s s := ⟨fun _ _ _ => rfl, rfl, rfl, fun _ _ => rfl⟩
theorem lgS.wI {s x : ev_M} {c k : Nat} {v : Int32} (h : lgS s x) (hc : 14 < c) (hc2 : c < 1000) : lgS s (wI x c k v) := ⟨fun a h1 h2 => (wI_ne (by omega)).trans (h.1 a h1 h2), (congrFun (wI_ne (by omega)) 1).trans h.2.1, (wI_ne (by omega)).trans h.2.2.1, fun a h1 => (wI_ne (by omega)).trans (h.2.2.2 a h1)⟩
theorem lgS.wL {s x : ev_M} {c k : Nat} {v : Int64} (h : lgS s x) : lgS s (wL x c k v) := h
/-- the log with the record that waits -/
def lupd (A : Nat → Nat → Int32) (s : ev_M) : ev_M := (fun c k => if 9 ≤ c ∧ c ≤ 14 then A c k else s.1 c k, s.2)
theorem lupd_ne {A : Nat → Nat → Int32} {s : ev_M} {c : Nat} (h : c < 9 ∨ 14 < c) : (lupd A s).1 c = s.1 c := by
  funext k; exact if_neg (by omega)
theorem lupd_L {A : Nat → Nat → Int32} {s : ev_M} : (lupd A s).2 = s.2 := rfl
theorem lupd_fr {A : Nat → Nat → Int32} {s : ev_M} : fr [(9, 14, 0)] s (lupd A s) := by
  refine ⟨fun c k h => ⟨if_neg (fun z => ?_), rfl⟩, rfl⟩
  have e : inF [(9, 14, 0)] c k = true := by
    unfold inF
    simp [z.1, z.2]
  rw [e] at h
  cases h
/-- the log's answer to an act: F: it has no room -/
def AdmC (s : ev_M) (F : Bool) (A : Nat → Nat → Int32) : Prop := ∀ x, lgS s x → fLog_admits x = some (if F = true then x else lupd A x, bI (F = false))
def lgT (t y : ev_M) : Prop := y.1 549 4 = t.1 549 4 ∧ y.1 549 9 = t.1 549 9 ∧ y.1 549 13 = t.1 549 13 ∧ y.1 549 14 = t.1 549 14 ∧ y.1 549 16 = t.1 549 16
theorem lgT.rf {t : ev_M} : lgT t t := ⟨rfl, rfl, rfl, rfl, rfl⟩
def FulM (t : ev_M) (F : Bool) : Prop := ∀ y, lgT t y → fM_full y = some (bI (F = true))
theorem AdmC.no {s : ev_M} {A : Nat → Nat → Int32} (h : AdmC s true A) : fLog_admits s = some (s, 0) := h s lgS.rf
theorem AdmC.yes {s : ev_M} {A : Nat → Nat → Int32} (h : AdmC s false A) : fLog_admits s = some (lupd A s, 1) := h s lgS.rf
theorem FulM.no {t : ev_M} (h : FulM t true) : fM_full t = some 1 := h t lgT.rf
theorem FulM.yes {t : ev_M} (h : FulM t false) : fM_full t = some 0 := h t lgT.rf
/-- what an act owes: R0: where it is refused; R1: where it is done -/
def AP (R0 R1 : ev_M → ev_M → Prop) (F : Bool) (A : Nat → Nat → Int32) (s : ev_M) (x y : ev_M × Int32) : Prop := x.2 = y.2 ∧ ((y.1.1 549 15 = 1 ∧ lgS s x.1 ∧ R0 x.1 y.1) ∨ (y.1.1 549 15 = 0 ∧ F = false ∧ lgS (lupd A s) x.1 ∧ R1 x.1 y.1))
theorem sim_no {R0 R1 : ev_M → ev_M → Prop} {F : Bool} {A : Nat → Nat → Int32} {s t : ev_M} {fc fm : Option (ev_M × Int32)} {c : Int32} (e1 : fc = some (s, c)) (e2 : fm = some (wI t 549 15 (cI 1), c)) (hR : R0 s (wI t 549 15 (cI 1))) : Ok fc fun x => Ok fm fun y => AP R0 R1 F A s x y := by
  rw [e1, e2, ok_some, ok_some]
  exact ⟨rfl, Or.inl ⟨rfl, lgS.rf, hR⟩⟩
theorem no_fr {t : ev_M} {c : Int32} : fr [(549, 549, 16)] t (wI t 549 15 c) := fr.rf.wI rfl
theorem rf_fr {s : ev_M} : fr [] s s := fr.rf
theorem ix_n (n : Nat) (h : n < 2147483648) : ix (cI n) = n := by rw [ix_cI (by omega) (by omega)]; omega
theorem ix_0 : ix (cI 0) = 0 := rfl
theorem ix_1 : ix (cI 1) = 1 := rfl
theorem ix_2 : ix (cI 2) = 2 := rfl
theorem ix_3 : ix (cI 3) = 3 := rfl
theorem ix_4 : ix (cI 4) = 4 := rfl
theorem ix_5 : ix (cI 5) = 5 := rfl
theorem ix_6 : ix (cI 6) = 6 := rfl
theorem ix_7 : ix (cI 7) = 7 := rfl
theorem ix_8 : ix (cI 8) = 8 := rfl
theorem i10 : ((1 : Int32) = 0) = False := eq_false (by decide)
theorem cap_eq {x : Int32} {N : Nat} (h : ¬ x < cI N) (h2 : x.toInt ≤ N) (hN : N < 2147483648 := by decide) : x = cI N := by
  rw [eq_i, cI_toInt (by omega) (by omega)]
  rw [lt_i, cI_toInt (by omega) (by omega)] at h
  omega
theorem cap_ne {x : Int32} {N : Nat} (h : x < cI N) : ¬ x = cI N := fun e => by
  rw [e, lt_i] at h
  omega
theorem lt_n {x : Int32} {N : Nat} (h : x < cI N) (hN : N < 2147483648 := by decide) : x.toInt < N := by
  rw [lt_i, cI_toInt (by omega) (by omega)] at h
  exact h
